-- TEXT
theorem FC.rf (σ : mm) : FC σ σ := ⟨fun _ _ _ => rfl, fun _ _ => rfl, fun _ _ => ⟨rfl, rfl, rfl⟩, fun _ _ => ⟨rfl, rfl⟩, fun _ _ => rfl, fun _ => rfl⟩
theorem FC.isC {σ σ' : mm} (f : FC σ σ') {b : Nat} (hb : b < 2) {A : bdy} (h : isC σ b A) : isC σ' b A := by
  obtain ⟨-, -, f3, f4, f5, -⟩ := f
  obtain ⟨h0, h1, h2, h3, h4, h5, h6, h7⟩ := h
  obtain ⟨a1, a2, a3⟩ := f3 b (by omega)
  refine ⟨h0, by rw [a1]; exact h1, by rw [a1]; exact h2, by rw [a2]; exact h3, by rw [a3]; exact h4, fun r w hr hw => ?_, fun r l hr hl => ?_, fun v l hv hl => ?_⟩
  · rw [(f4 (8 * b + r) (by omega)).1]
    exact h5 r w hr hw
  · rw [(f4 (8 * b + r) (by omega)).2]
    exact h6 r l hr hl
  · rw [f5 (4 * b + v) (by omega)]
    exact h7 v l hv hl
theorem FC.fr {σ σ' : mm} (f : FC σ σ') : Fr [0, 3, 4, 8, 9, 10, 11] [] σ σ' :=
  ⟨f.1, fun c hc => f.2.1 c (fun e => hc (by rw [List.mem_singleton] at e; rw [e]; decide)), fun j _ => f.2.2.2.2.2 j⟩
theorem RelX.text {σ τ σ3 τ3 : mm} (h : RelX σ τ) (f : FC σ σ3) (g : Fr [42, 43, 45, 46, 80] [1, 4, 28, 29, 30, 31, 32, 33] τ τ3) (e1 : σ3.1 3 0 0 = ii 0) (e2 : τ3.1 32 0 28 = ii 0) : RelX σ3 τ3 := by
  obtain ⟨c1, c2, c3, c4, c5⟩ := h
  refine ⟨?_, ⟨0, fun _ => 0, by decide, e1, e2, fun k hk => by omega⟩, c3.fr f.fr g (by decide) (by decide), c4.fr f.fr g (by decide) (by decide), c5.fr g (by decide)⟩
  unfold rKeep at c1 ⊢
  rw [f.1 7 (by decide) (by decide), g.2.2 41 (by decide)]
  rcases c1 with c1 | ⟨a, b, K, c, d, e⟩
  · exact Or.inl c1
  · exact Or.inr ⟨a, b, K, f.isC (by decide) c, d.fr g (by decide) (by decide), e⟩
theorem RelX.body {σ τ σ1 : mm} (h : RelX σ τ) (f : Fb 0 σ σ1) : RelX (fX7_bodyChanged σ1) τ := by
  obtain ⟨c1, c2, c3, c4, c5⟩ := h
  have fs : Fr [1, 6] [] σ1 (fX7_bodyChanged σ1) := ((Fr.rf _ _ _).sI (by decide) (by decide)).sI (by decide) (by decide)
  have hx : ∀ c, c ∉ [0, 4, 8, 9, 10, 11, 1, 6] → c ≠ 32 → (fX7_bodyChanged σ1).1 c = σ.1 c := fun c hc h32 => (fs.1 c h32 (fun e => hc (by revert e; simp; omega))).trans (f.1 c (fun e => hc (by revert e; simp; omega)))
  have hx2 : (fX7_bodyChanged σ1).2 = σ.2 := f.2.1
  refine ⟨?_, ?_, ?_, ?_, c5⟩
  · unfold rKeep at c1 ⊢
    rw [hx 7 (by decide) (by decide)]
    rcases c1 with c1 | ⟨a, b, K, c, d, e⟩
    · exact Or.inl c1
    · exact Or.inr ⟨a, b, K, (c.fb f (by decide)).fr fs (by decide), d, e⟩
  · unfold rTape at c2 ⊢
    rw [hx 3 (by decide) (by decide), hx 21 (by decide) (by decide)]
    exact c2
  · unfold rSh at c3 ⊢
    rw [hx 5 (by decide) (by decide), hx2]
    exact c3
  · unfold rFd at c4 ⊢
    rw [hx 19 (by decide) (by decide)]
    exact c4
/-- how a reading ends -/
def Ends (σ0 τ0 : mm) (A0 : bdy) (x y : Option (Int32 × mm)) : Prop := ∃ (v : Int) (A' : bdy) (σ' τ' : mm), x = some (ii v, σ') ∧ y = some (ii v, τ') ∧ isC σ' 2 A' ∧ okb A' ∧ FC σ0 σ' ∧ τ'.1 32 0 28 = ii 0 ∧ Fr [42, 43, 45, 46] [1, 4, 28, 29, 30, 31, 32, 33] τ0 τ' ∧ ((1 ≤ v ∧ v ≤ 120 ∧ isM τ' A') ∨ (-200 ≤ v ∧ v < 0 ∧ isM τ' A0))
theorem M_good {len : Nat} {y : Nat → Int} {σ0 τ0 : mm} {A : bdy} {σ τ : mm} {e : Nat} (h : PQ len y σ0 τ0 A e σ τ) {A0 : bdy} {i : Nat} (h1 : 1 ≤ i) (h2 : i ≤ 120) {x y : Option (Int32 × mm)} (hx : x = some (ii i, σ)) (hy : fX8_text_67 (ii i) 1 τ = y) : Ends σ0 τ0 A0 x y := by
  refine ⟨i, A, σ, stI τ 32 0 28 (ii 0), hx, ?_, h.1.1, h.1.2.2, h.2.2.2.2.1, st_s _ _ _ _ _, (h.2.2.2.2.2.mono (by decide) (by decide)).sF (by decide), Or.inl ⟨by omega, by omega, h.1.2.1.fr ((Fr.rf [] [28] _).sF (by decide)) (by decide) (by decide)⟩⟩
  rw [← hy]
  unfold fX8_text_67
  rw [Option.bind_some, if_neg (by decide)]
  rfl
theorem M_fail {len : Nat} {y : Nat → Int} {σ0 τ0 : mm} {A : bdy} {σ τ : mm} {e : Nat} (h : PQ len y σ0 τ0 A e σ τ) {A0 : bdy} (hK : isK τ0 80 A0) {a : Int32} {x y' : Option (Int32 × mm)} (hx : x = some (ii (-1 - (tb len y e : Int)), σ)) (hy : fX8_text_67 a 0 τ = y') : Ends σ0 τ0 A0 x y' := by
  have t1 := h.2.1.1.1
  have tbr := tb_r (y := y) h.2.1.2.2.2
  have g : Fr [42, 43, 45, 46] [1, 4, 28, 29, 30, 31, 32, 33] τ0 (stI τ 32 0 28 (ii 0)) := (h.2.2.2.2.2.mono (by decide) (by decide)).sF (by decide)
  obtain ⟨τ', b1, b2, b3⟩ := M_back_80 (hK.fr g (by decide) (by decide))
  refine ⟨-1 - (tb len y e : Int), A, σ, τ', hx, ?_, h.1.1, h.1.2.2, h.2.2.2.2.1, by rw [b3.2.2 28 (by decide), st_s], g.tr (b3.mono (by decide) (by decide)), Or.inr ⟨by omega, by omega, b2⟩⟩
  rw [← hy]
  unfold fX8_text_67
  have b1' : fX8_comesBack_80 (stI τ 32 0 28 0) = some τ' := b1
  rw [Option.bind_some, if_pos rfl, b1', Option.bind_some, b3.2.2 30 (by decide), st_j _ _ (by decide), h.2.2.2.1.1, ii_lit 1, ii_neg, ii_sub]
theorem Ends.end {σ0 τ0 : mm} {A0 : bdy} {S S' : Type} {f : S → Option (S ⊕ (Int32 × mm))} {g : S' → Option (S' ⊕ (Int32 × mm))} {s : S} {s' : S'} {x y : Option (Int32 × mm)} (h : Ends σ0 τ0 A0 x y) (h1 : f s = Option.map Sum.inr x) (h2 : g s' = Option.map Sum.inr y) : Ends σ0 τ0 A0 (lp f s) (lp g s') := by
  obtain ⟨v, A', σ', τ', a, b, r⟩ := h
  rw [a] at h1
  rw [b] at h2
  exact ⟨v, A', σ', τ', lp_end h1, lp_end h2, r⟩
theorem ts_tok {len : Nat} {y : Nat → Int} {e : Nat} : (tok len y e = 0 ↔ ts len y e = 3) ∧ (tok len y e = -1 ↔ ts len y e = 0) := by
  have sv : ts len y e = 0 ∨ ts len y e = 1 ∨ ts len y e = 2 ∨ ts len y e = 3 ∨ ts len y e = 4 ∨ ts len y e = 5 := so_v _
  by_cases z1 : ts len y e = 1
  · have t : tok len y e = wtk len y (tb len y e) (te len y e) 10 := by unfold tok; rw [z1]; rfl
    have n1 : ∀ n, wtk len y (tb len y e) (te len y e) n ≠ 0 ∧ wtk len y (tb len y e) (te len y e) n ≠ -1 := by
      intro n
      induction n with
      | zero => rw [wtk]; omega
      | succ n ih =>
        rw [wtk]
        split
        · omega
        · exact ih
    have := n1 10
    omega
  · unfold tok
    rw [if_neg z1]
    repeat' split
    all_goals omega
theorem P_read {len : Nat} {y : Nat → Int} {σ0 τ0 : mm} {A0 : bdy} (hK : isK τ0 80 A0) (d : Nat) : ∀ (i : Nat) (A : bdy) (e : Nat) (σ τ : mm), PQ len y σ0 τ0 A e σ τ → 1 ≤ i → 2 * i ≤ e + 2 → len ≤ e + d → ∃ (b : Bool) (τ1 : mm), fX8_readsItem τ = some (b, τ1) ∧ Ends σ0 τ0 A0 (lp (fX3_read_11_L 2) (ii i, σ)) (lp fX8_text_24_L (ii i, bi b, τ1)) := by
  induction d with
  | zero =>
    intro i A e σ τ h h1 h2 h3
    obtain ⟨b, σ', τ', A', e', a1, a2, a3, a4⟩ := P_item h
    have t1 := h.2.1.1.1
    have el := a3.2.1.2.2.2
    have e0 := h.2.1.2.2.2
    have hb : b = false := by
      cases b with
      | false => rfl
      | true => have := a4 rfl; omega
    subst hb
    refine ⟨false, τ', a2, ?_⟩
    refine (M_fail a3 hK (a := ii i) rfl rfl).end ?_ ?_
    · show fX3_read_11 2 (ii i) σ = _
      unfold fX3_read_11
      rw [if_neg (by show ¬ ii 120 < ii i; rw [ii_lt (by omega) (by omega) (by omega) (by omega)]; omega), a1, Option.bind_some, if_pos bi_f, a3.2.2.1.1, ii_lit 1, ii_neg, ii_sub]
      rfl
    · show fX8_text_24 (ii i) (bi false) τ' = _
      unfold fX8_text_24 fX8_text_50 fX8_text_66
      rw [if_pos bi_f, if_pos bi_f]
  | succ d ih =>
    intro i A e σ τ h h1 h2 h3
    obtain ⟨b, σ', τ', A', e', a1, a2, a3, a4⟩ := P_item h
    have t1 := h.2.1.1.1
    have hy : ∀ k, k < len → 0 ≤ y k ∧ y k < 256 := fun k hk => (h.2.1.1.2.2 k hk).1
    have el := a3.2.1.2.2.2
    have e0 := h.2.1.2.2.2
    have s0 : ¬ (120 : Int32) < ii i := by show ¬ ii 120 < ii i; rw [ii_lt (by omega) (by omega) (by omega) (by omega)]; omega
    refine ⟨b, τ', a2, ?_⟩
    cases b with
    | false =>
      refine (M_fail a3 hK (a := ii i) rfl rfl).end ?_ ?_
      · show fX3_read_11 2 (ii i) σ = _
        unfold fX3_read_11
        rw [if_neg s0, a1, Option.bind_some, if_pos bi_f, a3.2.2.1.1, ii_lit 1, ii_neg, ii_sub]
        rfl
      · show fX8_text_24 (ii i) (bi false) τ' = _
        unfold fX8_text_24 fX8_text_50 fX8_text_66
        rw [if_pos bi_f, if_pos bi_f]
    | true =>
      have pr := a4 rfl
      have tt := ts_tok (len := len) (y := y) (e := e')
      have tr := tok_r (len := len) (y := y) (e := e')
      have sv : ts len y e' = 0 ∨ ts len y e' = 1 ∨ ts len y e' = 2 ∨ ts len y e' = 3 ∨ ts len y e' = 4 ∨ ts len y e' = 5 := so_v _
      have hs := a3.2.2.1.2.1
      have ht := a3.2.2.2.1.2.1
      by_cases z0 : ts len y e' = 0
      · have k0 := tt.2.mpr z0
        refine (M_good a3 h1 (by omega) rfl rfl).end ?_ ?_
        · show fX3_read_11 2 (ii i) σ = _
          unfold fX3_read_11
          rw [if_neg s0, a1, Option.bind_some, if_neg bi_t, hs, z0, if_pos (by decide)]
          rfl
        · show fX8_text_24 (ii i) (bi true) τ' = _
          unfold fX8_text_24 fX8_text_50
          rw [if_neg bi_t, if_neg bi_t, ht, k0, if_neg (by decide), if_pos (by decide)]
      · have z0' : ¬ ii (ts len y e') = 0 := by show ¬ ii _ = ii 0; rw [ii_eq (by omega) (by omega) (by omega) (by omega)]; exact z0
        by_cases z3 : ts len y e' = 3
        · have k3 := tt.1.mpr z3
          obtain ⟨σ2, τ2, b1, b2, b3, -, -⟩ := a3.next
          have tg := te_gt hy el (by omega)
          have tbr := tb_r (y := y) el
          obtain ⟨b, τ3, c1, c2⟩ := ih (i + 1) A' (te len y e') σ2 τ2 b3 (by omega) (by omega) (by omega)
          have g1 : lp (fX3_read_11_L 2) (ii i, σ) = lp (fX3_read_11_L 2) (ii ((i + 1 : Nat) : Int), σ2) := by
            refine lp_go ?_
            show fX3_read_11 2 (ii i) σ = _
            unfold fX3_read_11
            rw [if_neg s0, a1, Option.bind_some, if_neg bi_t]
            simp only []
            rw [hs, if_neg z0', z3, if_pos (by decide), b1, Option.bind_some, ii_lit 1, ii_add]
            rfl
          have g2 : lp fX8_text_24_L (ii i, bi true, τ') = lp fX8_text_24_L (ii ((i + 1 : Nat) : Int), bi b, τ3) := by
            refine lp_go ?_
            show fX8_text_24 (ii i) (bi true) τ' = _
            unfold fX8_text_24
            rw [if_neg bi_t, ht, k3, if_pos (by decide), b2, Option.bind_some, c1, Option.bind_some, ii_lit 1, ii_add]
            rfl
          rw [g1, g2]
          exact c2
        · have n3 : ¬ tok len y e' = 0 := fun h => z3 (tt.1.mp h)
          have n0 : ¬ tok len y e' = -1 := fun h => z0 (tt.2.mp h)
          refine (M_fail a3 hK (a := ii i) rfl rfl).end ?_ ?_
          · show fX3_read_11 2 (ii i) σ = _
            unfold fX3_read_11
            rw [if_neg s0, a1, Option.bind_some, if_neg bi_t]
            simp only []
            rw [hs, if_neg z0', if_neg (by show ¬ ii _ = ii 3; rw [ii_eq (by omega) (by omega) (by omega) (by omega)]; exact z3), a3.2.2.1.1, ii_lit 1, ii_neg, ii_sub]
            rfl
          · show fX8_text_24 (ii i) (bi true) τ' = _
            unfold fX8_text_24 fX8_text_50 fX8_text_66
            rw [if_neg bi_t, if_neg bi_t, ht, if_neg (by show ¬ ii _ = ii 0; rw [ii_eq (by omega) (by omega) (by omega) (by omega)]; exact n3), if_neg (by show ¬ ii _ = ii (-1); rw [ii_eq (by omega) (by omega) (by omega) (by omega)]; exact n0)]
theorem m_text {σ τ : mm} (h : Rel σ τ) : Ag (fX7_text σ) (fX8_text τ) := by
  obtain ⟨A, hR⟩ := h
  obtain ⟨⟨hC, hM, hA⟩, ⟨hc1, hc2⟩, hX⟩ := id hR
  obtain ⟨len, y, t1, t2, t3, t4⟩ := hX.2.1
  obtain ⟨q1, a1, a2, a3⟩ := C_take (a := 2) (b := 0) (by decide) hC
  obtain ⟨τ1, b1, b2, b3⟩ := M_keeps_80 hM
  have f1 : Fr [3] [] q1 (stI q1 3 0 4 (ii 0)) := (Fr.rf _ _ _).sI (by decide) (by decide)
  have g1 : Fr [] [29] τ1 (stI τ1 32 0 29 (ii 0)) := (Fr.rf _ _ _).sF (by decide)
  have tC : tapeC (stI q1 3 0 4 (ii 0)) len y := by
    refine ⟨t1, ?_, fun k hk => ⟨(t4 k hk).1, ?_⟩⟩
    · rw [st_j _ _ (by decide), a3.1 3 (by decide)]
      exact t2
    · rw [st_c _ _ _ _ (by decide), a3.1 21 (by decide)]
      exact (t4 k hk).2.2
  have tM : tapeM (stI τ1 32 0 29 (ii 0)) len y := by
    refine ⟨t1, ?_, fun k hk => ⟨(t4 k hk).1, ?_⟩⟩
    · rw [st_j _ _ (by decide), b3.2.2 28 (by decide)]
      exact t3
    · rw [st_c _ _ _ _ (by decide), b3.1 67 (by decide) (by decide)]
      exact (t4 k hk).2.1
  have W : rW (stI τ1 32 0 29 (ii 0)) := (hX.2.2.2.2.fr b3 (by decide)).fr g1 (by decide)
  have hM1 : isM (stI τ1 32 0 29 (ii 0)) A := (hM.fr b3 (by decide) (by decide)).fr g1 (by decide) (by decide)
  obtain ⟨σ', τ', c1, c2, c3, -, -⟩ := P_next (σ0 := σ) (τ0 := τ1) (e := 0) ⟨a2.k3 f1, hM1, hA⟩ ⟨tC, tM, W⟩ (by omega) (st_s _ _ _ _ _) (st_s _ _ _ _ _) (((FC.rf σ).b a3).k3 f1) (g1.mono (by decide) (by decide))
  obtain ⟨b, τ5, d1, d2⟩ := P_read b2 len 1 A 0 σ' τ' c3 (by omega) (by omega) (by omega)
  obtain ⟨v, A', σ6, τ6, e1, e2, e3, e4, e5, e6, e7, e8⟩ := d2
  have f3 : Fr [3] [] σ6 (stI σ6 3 0 0 (ii 0)) := (Fr.rf _ _ _).sI (by decide) (by decide)
  have hF : FC σ (stI σ6 3 0 0 (ii 0)) := e5.k3 f3
  have gT : Fr [42, 43, 45, 46, 80] [1, 4, 28, 29, 30, 31, 32, 33] τ τ6 := (b3.mono (by decide) (by decide)).tr (e7.mono (by decide) (by decide))
  have hX3 : RelX (stI σ6 3 0 0 (ii 0)) τ6 := hX.text hF gT (st_s _ _ _ _ _) e6
  have c1' : fX3_nextToken (stI q1 3 0 4 0) = some σ' := c1
  have c2' : fX8_next (stI τ1 32 0 29 0) = some τ' := c2
  have r1 : fX3_read 2 q1 = some (ii v, σ6) := by
    unfold fX3_read fX3_read_0
    rw [Option.bind_some, c1', Option.bind_some]
    exact e1
  have r2 : fX8_text τ = some (ii v, τ6) := by
    unfold fX8_text fX8_text_0
    rw [b1, Option.bind_some, Option.bind_some, c2', Option.bind_some, d1, Option.bind_some, Option.bind_some]
    exact e2
  rcases e8 with ⟨v1, v2, hM6⟩ | ⟨v1, v2, hM6⟩
  · obtain ⟨σ7, k1, k2, k3⟩ := C_take (a := 0) (b := 2) (by decide) (e3.k3 f3)
    have fs : Fr [1, 6] [] σ7 (fX7_bodyChanged σ7) := ((Fr.rf _ _ _).sI (by decide) (by decide)).sI (by decide) (by decide)
    refine ⟨ii v, fX7_bodyChanged σ7, τ6, ?_, r2, A', ⟨k2.fr fs (by decide), hM6, e4⟩, ⟨Or.inl ?_, Or.inl ?_⟩, hX3.body k3⟩
    · unfold fX7_text fX7_text_0
      have k1' : fX0_take 0 2 (stI σ6 3 0 0 0) = some σ7 := k1
      rw [a1, Option.bind_some, r1, Option.bind_some, Option.bind_some, if_neg (by show ¬ ii v < ii 0; rw [ii_lt (by omega) (by omega) (by omega) (by omega)]; omega)]
      simp only []
      rw [k1', Option.bind_some]
    · unfold fX7_bodyChanged fX7_bodyChanged_0
      simp (disch := omega) only [if_true, if_false, Option.bind_some, Option.map_some, ii_lit, ll_lit, ii_neg, ll_neg, ii_add, ii_sub, ii_mul, ll_add, ll_sub, ll_mul, ii_le, ii_lt, ii_eq, ii_t, bi_0, bi_1, rd_z, wr_z, rr_z, rl_z, wl_z, tn_n, st_s, st_j, st_i, st_c, st_2, sl_s, sl_j, sl_i, sl_c, sl_1, Int.natCast_add, Int.cast_ofNat_Int, if_pos, if_neg]
    · unfold fX7_bodyChanged fX7_bodyChanged_0
      simp (disch := omega) only [if_true, if_false, Option.bind_some, Option.map_some, ii_lit, ll_lit, ii_neg, ll_neg, ii_add, ii_sub, ii_mul, ll_add, ll_sub, ll_mul, ii_le, ii_lt, ii_eq, ii_t, bi_0, bi_1, rd_z, wr_z, rr_z, rl_z, wl_z, tn_n, st_s, st_j, st_i, st_c, st_2, sl_s, sl_j, sl_i, sl_c, sl_1, Int.natCast_add, Int.cast_ofNat_Int, if_pos, if_neg]
  · refine ⟨ii v, stI σ6 3 0 0 (ii 0), τ6, ?_, r2, A, ⟨hF.isC (by decide) hC, hM6, hA⟩, ⟨hc1.c hF.fr (by decide), hc2.c hF.fr (by decide)⟩, hX3⟩
    unfold fX7_text fX7_text_0
    rw [a1, Option.bind_some, r1, Option.bind_some, Option.bind_some, if_pos (by show ii v < ii 0; rw [ii_lt (by omega) (by omega) (by omega) (by omega)]; omega)]
    rfl
