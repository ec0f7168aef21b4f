-- boundFor
theorem xor_sg {a b : Int} (h1 : -2147483648 ≤ a) (h2 : a < 2147483648) (h3 : 0 ≤ b) (h4 : b < 2147483648) : (ii 0 ≤ (ii a ^^^ ii b)) = (0 ≤ a) := by
  apply propext
  have ma : (ii a).toBitVec.msb = decide (a < 0) := by
    rw [BitVec.msb_eq_toInt, show (ii a).toBitVec.toInt = (ii a).toInt from rfl, ii_t h1 h2]
  have mb : (ii b).toBitVec.msb = decide (b < 0) := by
    rw [BitVec.msb_eq_toInt, show (ii b).toBitVec.toInt = (ii b).toInt from rfl, ii_t (by omega) h4]
  have mx : (ii a ^^^ ii b).toBitVec.msb = decide (a < 0) := by
    rw [Int32.toBitVec_xor, BitVec.msb_xor, ma, mb, decide_eq_false (show ¬ b < 0 by omega), Bool.xor_false]
  rw [BitVec.msb_eq_toInt] at mx
  have mx : decide ((ii a ^^^ ii b).toInt < 0) = decide (a < 0) := mx
  rw [decide_eq_decide] at mx
  rw [Int32.le_iff_toInt_le, show (ii 0).toInt = 0 from rfl]
  omega
theorem fm_ii {a b : Int} (h1 : -2147483648 ≤ a) (h2 : a < 2147483648) (h3 : 0 < b) (h4 : b < 2147483648) : fJ9_floorMod_7cf53 (ii a) (ii b) = some (ii (a % b)) := by
  unfold fJ9_floorMod_7cf53 fJ9_floorMod_7cf53_0
  rw [rm_ii h1 h2 (by omega) h4 (by omega)]
  simp only [Option.bind_some, ii_lit]
  have t1 := Int.tmod_lt_of_pos a h3
  have t2 := Int.lt_tmod_of_pos a h3
  have e := Int.tmod_eq_emod (a := a) (b := b)
  have r1 := Int.emod_nonneg a (show b ≠ 0 by omega)
  have r2 := Int.emod_lt_of_pos a h3
  by_cases q : 0 ≤ a
  · rw [if_pos (by rw [xor_sg h1 h2 (by omega) h4]; exact q), Int.tmod_eq_emod_of_nonneg q]
  · rw [if_neg (by rw [xor_sg h1 h2 (by omega) h4]; exact q)]
    have ez := ii_eq (a := a.tmod b) (b := 0) (by omega) (by omega) (by omega) (by omega)
    simp only [ez]
    by_cases d : b ∣ a
    · have e0 : a.tmod b = 0 := Int.tmod_eq_zero_of_dvd d
      rw [if_pos e0, e0, Int.emod_eq_zero_of_dvd d]
    · rw [if_neg (by omega)] at e
      have e0 : ¬ a.tmod b = 0 := fun z => d (Int.dvd_of_tmod_eq_zero z)
      rw [if_neg e0, ii_add]
      congr 2
      omega
def lbf (kd wi s : Int) : Int := if kd = 0 ∨ kd = 1 then s else if kd = 2 then s - wi else if kd = 3 then -999 + (s + 999) % wi else -999
theorem em_le {u w : Int} (hu : 0 ≤ u) (hw : 0 < w) : u % w ≤ u := by
  have e := Int.emod_add_mul_ediv u w
  have q : 0 ≤ w * (u / w) := Int.mul_nonneg (by omega) (Int.ediv_nonneg hu (by omega))
  omega
theorem lbf_ok {kd wi s : Int} (h1 : 0 ≤ kd) (h2 : kd ≤ 5) (h3 : 1 ≤ wi) (h4 : wi ≤ 99) (h5 : -324 ≤ s) (h6 : s ≤ 324) : (-999 ≤ lbf kd wi s ∧ lbf kd wi s ≤ 999) ∧ hb kd wi (s - lbf kd wi s) = true ∧ ∀ b, -999 ≤ b → hb kd wi (s - b) = true → lbf kd wi s ≤ b := by
  have : kd = 0 ∨ kd = 1 ∨ kd = 2 ∨ kd = 3 ∨ kd = 4 ∨ kd = 5 := by omega
  have r1 := Int.emod_nonneg (s + 999) (show wi ≠ 0 by omega)
  have r2 := Int.emod_lt_of_pos (s + 999) (show 0 < wi by omega)
  rcases this with rfl | rfl | rfl | rfl | rfl | rfl
  · have e1 : lbf 0 wi s = s := by simp [lbf]
    have e2 : ∀ x, hb 0 wi x = decide (x ≤ 0) := fun x => by simp [hb]
    rw [e1]
    refine ⟨by omega, by rw [e2]; simp; try omega, fun b b1 b2 => ?_⟩
    rw [e2] at b2
    simp at b2
    omega
  · have e1 : lbf 1 wi s = s := by simp [lbf]
    have e2 : ∀ x, hb 1 wi x = decide (x = 0) := fun x => by simp [hb]
    rw [e1]
    refine ⟨by omega, by rw [e2]; simp; try omega, fun b b1 b2 => ?_⟩
    rw [e2] at b2
    simp at b2
    omega
  · have e1 : lbf 2 wi s = s - wi := by simp [lbf]
    have e2 : ∀ x, hb 2 wi x = decide (-wi ≤ x ∧ x ≤ wi) := fun x => by simp [hb]
    rw [e1]
    refine ⟨by omega, by rw [e2]; simp; try omega, fun b b1 b2 => ?_⟩
    rw [e2] at b2
    simp at b2
    omega
  · have e1 : lbf 3 wi s = -999 + (s + 999) % wi := by simp [lbf]
    have e2 : ∀ x, hb 3 wi x = decide (x % wi = 0) := fun x => by simp [hb]
    rw [e1]
    refine ⟨by omega, ?_, fun b b1 b2 => ?_⟩
    · rw [e2]
      have e : s - (-999 + (s + 999) % wi) = (s + 999) - (s + 999) % wi := by omega
      rw [e]
      exact decide_eq_true (Int.emod_eq_zero_of_dvd (Int.dvd_self_sub_emod))
    · rw [e2] at b2
      have hm := of_decide_eq_true b2
      have e : s - b = (s + 999) - (b + 999) := by omega
      rw [e] at hm
      have e2 : (s + 999) % wi = (b + 999) % wi := Int.emod_eq_emod_iff_emod_sub_eq_zero.mpr hm
      have e3 := em_le (u := b + 999) (w := wi) (by omega) (by omega)
      omega
  · have e1 : lbf 4 wi s = -999 := by simp [lbf]
    have e2 : ∀ x, hb 4 wi x = !decide (-wi ≤ x ∧ x ≤ wi) := fun x => by simp [hb]
    rw [e1]
    refine ⟨by omega, by rw [e2]; simp; try omega, fun b b1 b2 => ?_⟩
    rw [e2] at b2
    simp at b2
    omega
  · have e1 : lbf 5 wi s = -999 := by simp [lbf]
    have e2 : ∀ x, hb 5 wi x = decide (0 ≤ x) := fun x => by simp [hb]
    rw [e1]
    refine ⟨by omega, by rw [e2]; simp; try omega, fun b b1 b2 => ?_⟩
    rw [e2] at b2
    simp at b2
    omega
theorem C_lbf {σ : mm} {i : Nat} {kd wi s : Int} (k0 : σ.1 4 i 0 = ii kd) (k2 : σ.1 4 i 2 = ii wi) (h1 : 0 ≤ kd) (h2 : kd ≤ 5) (h3 : 1 ≤ wi) (h4 : wi ≤ 99) (h5 : -324 ≤ s) (h6 : s ≤ 324) : fX4_leastBoundFor i (ii s) σ = some (ii (lbf kd wi s)) := by
  unfold fX4_leastBoundFor fX4_leastBoundFor_0
  have : kd = 0 ∨ kd = 1 ∨ kd = 2 ∨ kd = 3 ∨ kd = 4 ∨ kd = 5 := by omega
  rcases this with rfl | rfl | rfl | rfl | rfl | rfl
  · simp (disch := omega) only [k0, k2, lbf, true_or, or_true, if_true, if_false, Option.bind_some, Option.map_some, ii_lit, ll_lit, ii_neg, ll_neg, ii_add, ii_sub, ii_mul, ll_add, ll_sub, ll_mul, ii_le, ii_lt, ii_eq, ii_t, bi_0, bi_1, rd_z, wr_z, rr_z, rl_z, wl_z, tn_n, st_s, st_j, st_i, st_c, st_2, sl_s, sl_j, sl_i, sl_c, sl_1, Int.natCast_add, Int.cast_ofNat_Int, if_pos, if_neg]
  · simp (disch := omega) only [k0, k2, lbf, true_or, or_true, if_true, if_false, Option.bind_some, Option.map_some, ii_lit, ll_lit, ii_neg, ll_neg, ii_add, ii_sub, ii_mul, ll_add, ll_sub, ll_mul, ii_le, ii_lt, ii_eq, ii_t, bi_0, bi_1, rd_z, wr_z, rr_z, rl_z, wl_z, tn_n, st_s, st_j, st_i, st_c, st_2, sl_s, sl_j, sl_i, sl_c, sl_1, Int.natCast_add, Int.cast_ofNat_Int, if_pos, if_neg]
  · simp (disch := omega) only [k0, k2, lbf, if_true, if_false, Option.bind_some, Option.map_some, ii_lit, ll_lit, ii_neg, ll_neg, ii_add, ii_sub, ii_mul, ll_add, ll_sub, ll_mul, ii_le, ii_lt, ii_eq, ii_t, bi_0, bi_1, rd_z, wr_z, rr_z, rl_z, wl_z, tn_n, st_s, st_j, st_i, st_c, st_2, sl_s, sl_j, sl_i, sl_c, sl_1, Int.natCast_add, Int.cast_ofNat_Int, if_pos, if_neg]
  · simp (disch := omega) only [k0, k2, lbf, fm_ii, if_true, if_false, Option.bind_some, Option.map_some, ii_lit, ll_lit, ii_neg, ll_neg, ii_add, ii_sub, ii_mul, ll_add, ll_sub, ll_mul, ii_le, ii_lt, ii_eq, ii_t, bi_0, bi_1, rd_z, wr_z, rr_z, rl_z, wl_z, tn_n, st_s, st_j, st_i, st_c, st_2, sl_s, sl_j, sl_i, sl_c, sl_1, Int.natCast_add, Int.cast_ofNat_Int, if_pos, if_neg]
  · simp (disch := omega) only [k0, k2, lbf, if_true, if_false, Option.bind_some, Option.map_some, ii_lit, ll_lit, ii_neg, ll_neg, ii_add, ii_sub, ii_mul, ll_add, ll_sub, ll_mul, ii_le, ii_lt, ii_eq, ii_t, bi_0, bi_1, rd_z, wr_z, rr_z, rl_z, wl_z, tn_n, st_s, st_j, st_i, st_c, st_2, sl_s, sl_j, sl_i, sl_c, sl_1, Int.natCast_add, Int.cast_ofNat_Int, if_pos, if_neg]
  · simp (disch := omega) only [k0, k2, lbf, if_true, if_false, Option.bind_some, Option.map_some, ii_lit, ll_lit, ii_neg, ll_neg, ii_add, ii_sub, ii_mul, ll_add, ll_sub, ll_mul, ii_le, ii_lt, ii_eq, ii_t, bi_0, bi_1, rd_z, wr_z, rr_z, rl_z, wl_z, tn_n, st_s, st_j, st_i, st_c, st_2, sl_s, sl_j, sl_i, sl_c, sl_1, Int.natCast_add, Int.cast_ofNat_Int, if_pos, if_neg]
theorem mni_le {f : Nat → Int} {P : Nat → Bool} {b : Int} {k j : Nat} (hj : j < k) (hP : P j = true) : mni f P b k ≤ f j := by
  induction k with
  | zero => omega
  | succ k ih =>
    rw [mni]
    by_cases e : j = k
    · subst e
      rw [if_pos hP]
      unfold mn
      split <;> omega
    · have := ih (by omega)
      split
      · unfold mn
        split <;> omega
      · exact this
theorem mni_at {f : Nat → Int} {P : Nat → Bool} {b : Int} {k : Nat} : mni f P b k = b ∨ ∃ j, j < k ∧ P j = true ∧ mni f P b k = f j := by
  induction k with
  | zero => exact Or.inl rfl
  | succ k ih =>
    rw [mni]
    split
    · rename_i hP
      unfold mn
      split
      · exact Or.inr ⟨k, by omega, hP, rfl⟩
      · rcases ih with ih | ⟨j, h1, h2, h3⟩
        · exact Or.inl ih
        · exact Or.inr ⟨j, by omega, h2, h3⟩
    · rcases ih with ih | ⟨j, h1, h2, h3⟩
      · exact Or.inl ih
      · exact Or.inr ⟨j, by omega, h2, h3⟩
def bfm (A : bdy) (r : Nat) : Int := mni (fun p => lbf (A.rw r 0) (A.rw r 2) (sm A r (pt A p))) (frp A r) 1000 (np A)
theorem C_leastBound {σ : mm} {A : bdy} (hC : isC σ 0 A) (hc : cloudP σ A) (hA : okb A) {r : Nat} (hr : r < A.R) : fX1_leastBound 0 (ii r) σ = some (ii (bfm A r)) := by
  obtain ⟨⟨r1, r2⟩, ⟨r3, r4⟩, ⟨r5, r6⟩, -⟩ := hA.2.2.2.1 r hr
  obtain ⟨z1, z2, z3⟩ := hC.z
  have n1 := hC.2.1
  have hR8 := hA.2.1
  have hcn := cnt_le hA
  unfold fX1_leastBound fX1_leastBound_0
  simp (disch := omega) only [if_true, if_false, Option.bind_some, Option.map_some, ii_lit, ll_lit, ii_neg, ll_neg, ii_add, ii_sub, ii_mul, ll_add, ll_sub, ll_mul, ii_le, ii_lt, ii_eq, ii_t, bi_0, bi_1, rd_z, wr_z, rr_z, rl_z, wl_z, tn_n, st_s, st_j, st_i, st_c, st_2, sl_s, sl_j, sl_i, sl_c, sl_1, Int.natCast_add, Int.cast_ofNat_Int, if_pos, if_neg, decide_eq_false_iff_not, decide_eq_true_eq, in_ll, ii_long, Nat.zero_add, Nat.mul_zero, reduceCtorEq]
  refine lp_f (fun p => (ii (mni (fun p => lbf (A.rw r 0) (A.rw r 2) (sm A r (pt A p))) (frp A r) 1000 p), ii p)) (np A) rfl ?_ ?_
  · intro p hp
    have q1 := C_isInWithout hc hA hp (r := r) (by omega)
    have q2 := C_sumInPacked hC hA hr p
    have q3 := sm_pt hA hr p
    have q4 := C_lbf (σ := σ) (i := r) (z1 r 0 hr (by decide)) (z1 r 2 hr (by decide)) r1 r2 r5 r6 q3.1 q3.2
    have q5 := hc.2.2 p hp
    have q6 := (lbf_ok r1 r2 r5 r6 q3.1 q3.2).1
    have q7 := mni_r (f := fun p => lbf (A.rw r 0) (A.rw r 2) (sm A r (pt A p))) (P := frp A r) (b := 1000) (k := p) (lo := -999) (by omega) (fun j _ => by have q3 := sm_pt hA hr j; exact (lbf_ok r1 r2 r5 r6 q3.1 q3.2).1.1)
    have q8 := min_ii (a := mni (fun p => lbf (A.rw r 0) (A.rw r 2) (sm A r (pt A p))) (frp A r) 1000 p) (b := lbf (A.rw r 0) (A.rw r 2) (sm A r (pt A p))) (by omega) (by omega) (by omega) (by omega)
    by_cases w1 : frp A r p = true
    · rw [mni, if_pos w1]
      unfold mn
      simp (disch := omega) only [fX1_leastBound_15_L, fX1_leastBound_15, fX1_leastBound_60, hc.1, q1, w1, q5, n1, q2, q4, q8, if_true, if_false, Option.bind_some, Option.map_some, ii_lit, ll_lit, ii_neg, ll_neg, ii_add, ii_sub, ii_mul, ll_add, ll_sub, ll_mul, ii_le, ii_lt, ii_eq, ii_t, bi_0, bi_1, rd_z, wr_z, rr_z, rl_z, wl_z, tn_n, st_s, st_j, st_i, st_c, st_2, sl_s, sl_j, sl_i, sl_c, sl_1, Int.natCast_add, Int.cast_ofNat_Int, if_pos, if_neg, decide_eq_false_iff_not, decide_eq_true_eq, in_ll, ii_long, Nat.zero_add, Nat.mul_zero, reduceCtorEq]
    · rw [mni, if_neg w1]
      simp only [Bool.not_eq_true] at w1
      simp (disch := omega) only [fX1_leastBound_15_L, fX1_leastBound_15, fX1_leastBound_60, hc.1, q1, w1, if_true, if_false, Option.bind_some, Option.map_some, ii_lit, ll_lit, ii_neg, ll_neg, ii_add, ii_sub, ii_mul, ll_add, ll_sub, ll_mul, ii_le, ii_lt, ii_eq, ii_t, bi_0, bi_1, rd_z, wr_z, rr_z, rl_z, wl_z, tn_n, st_s, st_j, st_i, st_c, st_2, sl_s, sl_j, sl_i, sl_c, sl_1, Int.natCast_add, Int.cast_ofNat_Int, if_pos, if_neg, decide_eq_false_iff_not, decide_eq_true_eq, in_ll, ii_long, Nat.zero_add, Nat.mul_zero, reduceCtorEq]
  · unfold fX1_leastBound_15_L fX1_leastBound_15 bfm
    simp only []
    rw [hc.1, if_pos (Int32.le_refl _)]
theorem M_flags {τ : mm} {A : bdy} (hM : isM τ A) (hA : okb A) {r : Nat} (hr : r < A.R) : ∃ τ', (∀ Z, lp (fX8_boundFor_101_L (ii r) τ') (ii (-999)) = Z → lp (fX8_boundFor_17_L (ii r)) (ii 0, τ) = Z) ∧ (∀ j : Nat, j < 801 → (τ'.1 62 0 j = ii 1 ∧ ∃ p, p < np A ∧ frp A r p = true ∧ sm A r (pt A p) + 400 = j) ∨ (τ'.1 62 0 j = ii 0 ∧ ∀ p, p < np A → frp A r p = true → sm A r (pt A p) + 400 ≠ j)) ∧ Fr [48, 49, 50, 62] [11] τ τ' := by
  have hcn := cnt_le hA
  have hR8 := hA.2.1
  have z1 : ∃ s, (∀ Z, Option.bind (fX8_looks s) (fun q1 => Option.bind (fX8_points q1) fun q2 => lp (fX8_boundFor_48_L (ii r) q2) (ii 0, q1)) = Z → lp (fX8_boundFor_17_L (ii r)) (ii 0, τ) = Z) ∧ (∀ j, j < 801 → s.1 62 0 j = ii 0) ∧ Fr [62] [] τ s := by
    have step : ∀ d k s, k + d = 801 → (∀ j, j < k → s.1 62 0 j = ii 0) → Fr [62] [] τ s → ∃ s', (∀ Z, Option.bind (fX8_looks s') (fun q1 => Option.bind (fX8_points q1) fun q2 => lp (fX8_boundFor_48_L (ii r) q2) (ii 0, q1)) = Z → lp (fX8_boundFor_17_L (ii r)) (ii (k : Nat), s) = Z) ∧ (∀ j, j < 801 → s'.1 62 0 j = ii 0) ∧ Fr [62] [] τ s' := by
      intro d
      induction d with
      | zero =>
        intro k s hk h1 h2
        refine ⟨s, ?_, fun j hj => h1 j (by omega), h2⟩
        intro Z hZ
        rw [← hZ, lp_eq]
        have e : fX8_boundFor_17_L (ii r) (ii (k : Nat), s) = Option.bind (fX8_looks s) (fun q1 => Option.bind (fX8_points q1) fun q2 => Option.map Sum.inr (lp (fX8_boundFor_48_L (ii r) q2) (ii 0, q1))) := by
          show fX8_boundFor_17 (ii r) (ii (k : Nat)) s = _
          unfold fX8_boundFor_17
          have : k = 801 := by omega
          subst this
          rw [if_pos (by decide)]
          rfl
        rw [e]
        cases fX8_looks s with
        | none => rfl
        | some q1 =>
          simp only [Option.bind_some]
          cases fX8_points q1 with
          | none => rfl
          | some q2 =>
            simp only [Option.bind_some]
            cases lp (fX8_boundFor_48_L (ii r) q2) (ii 0, q1) <;> rfl
      | succ d ih =>
        intro k s hk h1 h2
        have e : fX8_boundFor_17_L (ii r) (ii (k : Nat), s) = some (.inl (ii ((k + 1 : Nat)), stI s 62 0 k (ii 0))) := by
          simp (disch := omega) only [fX8_boundFor_17_L, fX8_boundFor_17, if_true, if_false, Option.bind_some, Option.map_some, ii_lit, ll_lit, ii_neg, ll_neg, ii_add, ii_sub, ii_mul, ll_add, ll_sub, ll_mul, ii_le, ii_lt, ii_eq, ii_t, bi_0, bi_1, rd_z, wr_z, rr_z, rl_z, wl_z, tn_n, st_s, st_j, st_i, st_c, st_2, sl_s, sl_j, sl_i, sl_c, sl_1, Int.natCast_add, Int.cast_ofNat_Int, if_pos, if_neg]
        obtain ⟨s', g1, g2, g3⟩ := ih (k + 1) (stI s 62 0 k (ii 0)) (by omega) (fun j hj => by
          by_cases hjk : j = k
          · subst hjk
            rw [st_s]
          · rw [st_j _ _ hjk]
            exact h1 j (by omega)) (h2.sI (by decide) (by decide))
        refine ⟨s', ?_, g2, g3⟩
        intro Z hZ
        rw [lp_go e]
        exact g1 Z hZ
    exact step 801 0 τ (by omega) (fun j hj => by omega) (Fr.rf _ _ _)
  obtain ⟨s, g1, g2, g3⟩ := z1
  have hMs := hM.fr g3 (by decide) (by decide)
  obtain ⟨s1, e1, l1, l2, l3, l4⟩ := M_looks hMs hA
  have hM1 := hMs.fr l4 (by decide) (by decide)
  have hl1 : lookP s1 A := ⟨l1, l2, l3⟩
  have pp := M_points hM1
  have hnp : pts A = (np A : Int) := by have := hA.p1; unfold np; omega
  have f0 : Fr [48, 49, 50, 62] [11] τ s1 := (g3.mono (by decide) (by decide)).tr (l4.mono (by decide) (by decide))
  have e62 : s1.1 62 = s.1 62 := l4.1 62 (by decide) (by decide)
  have step : ∀ (d k : Nat) (z : mm), k + d = np A → (∀ j : Nat, j < 801 → (z.1 62 0 j = ii 1 ∧ ∃ p, p < k ∧ frp A r p = true ∧ sm A r (pt A p) + 400 = j) ∨ (z.1 62 0 j = ii 0 ∧ ∀ p, p < k → frp A r p = true → sm A r (pt A p) + 400 ≠ j)) → Fr [48, 62] [] s1 z → ∃ z', (∀ Z, lp (fX8_boundFor_101_L (ii r) z') (ii (-999)) = Z → lp (fX8_boundFor_48_L (ii r) (ii (np A))) (ii (k : Nat), z) = Z) ∧ (∀ j : Nat, j < 801 → (z'.1 62 0 j = ii 1 ∧ ∃ p, p < np A ∧ frp A r p = true ∧ sm A r (pt A p) + 400 = j) ∨ (z'.1 62 0 j = ii 0 ∧ ∀ p, p < np A → frp A r p = true → sm A r (pt A p) + 400 ≠ j)) ∧ Fr [48, 62] [] s1 z' := by
    intro d
    induction d with
    | zero =>
      intro k z hk h1 h2
      have hk : k = np A := by omega
      subst hk
      refine ⟨z, ?_, h1, h2⟩
      intro Z hZ
      rw [← hZ, lp_eq]
      have e : fX8_boundFor_48_L (ii r) (ii (np A)) (ii (np A), z) = Option.map Sum.inr (lp (fX8_boundFor_101_L (ii r) z) (ii (-999))) := by
        simp (disch := omega) only [fX8_boundFor_48_L, fX8_boundFor_48, if_true, if_false, Option.bind_some, Option.map_some, ii_lit, ll_lit, ii_neg, ll_neg, ii_add, ii_sub, ii_mul, ll_add, ll_sub, ll_mul, ii_le, ii_lt, ii_eq, ii_t, bi_0, bi_1, rd_z, wr_z, rr_z, rl_z, wl_z, tn_n, st_s, st_j, st_i, st_c, st_2, sl_s, sl_j, sl_i, sl_c, sl_1, Int.natCast_add, Int.cast_ofNat_Int, if_pos, if_neg]
      rw [e]
      cases lp (fX8_boundFor_101_L (ii r) z) (ii (-999)) <;> rfl
    | succ d ih =>
      intro k z hk h1 h2
      have hkn : k < np A := by omega
      have hMz := hM1.fr h2 (by decide) (by decide)
      have hlz : lookP z A := hl1.fr h2 (by decide) (by decide)
      have q4 := M_free hMz hlz hA hkn (t := 2 ^ r) (Nat.pow_lt_pow_right (by decide) hr)
      have q5 := hlz.2.1 k hkn
      have q6 := ms_n ⟨brk A k, brk_lt hA k⟩ ⟨r, by omega⟩
      simp only at q6
      have sh : ii 1 <<< (ii (r : Nat) &&& ii 31) = ii ((2 ^ r : Nat)) := by
        rw [show ii 1 = ii ((1 : Nat) : Int) from rfl, shl_n 1 (by omega), Nat.one_mul]
      by_cases q : brk A k = 0 ∨ brk A k = 2 ^ r
      · have qf : frp A r k = true := decide_eq_true q
        have qt : (ii ((mkf (hdr A (pt A k)) A.R : Nat)) ||| ii ((2 ^ r : Nat)) = fX8_allRows z) = True := eq_true (q4.mpr (q6.mpr q))
        obtain ⟨z2, e2, o1, o2, o3⟩ := M_goesTo hMz hA hkn
        have e3 := M_sumOf (hMz.fr o2 (by decide) (by decide)) hA o1 hr
        have q3 := sm_pt hA hr k
        obtain ⟨j0, hj0⟩ : ∃ j0 : Nat, (j0 : Int) = sm A r (pt A k) + 400 := ⟨(sm A r (pt A k) + 400).toNat, by omega⟩
        have e4 : (400 + sm A r (pt A k)).toNat = j0 := by omega
        have e : fX8_boundFor_48_L (ii r) (ii (np A)) (ii (k : Nat), z) = some (.inl (ii ((k + 1 : Nat)), stI z2 62 0 j0 (ii 1))) := by
          simp (disch := omega) only [fX8_boundFor_48_L, fX8_boundFor_48, fX8_boundFor_91, q5, sh, qt, e2, e3, ll_int, e4, if_true, if_false, Option.bind_some, Option.map_some, ii_lit, ll_lit, ii_neg, ll_neg, ii_add, ii_sub, ii_mul, ll_add, ll_sub, ll_mul, ii_le, ii_lt, ii_eq, ii_t, bi_0, bi_1, rd_z, wr_z, rr_z, rl_z, wl_z, tn_n, st_s, st_j, st_i, st_c, st_2, sl_s, sl_j, sl_i, sl_c, sl_1, Int.natCast_add, Int.cast_ofNat_Int, if_pos, if_neg]
        obtain ⟨z', g4, g5, g6⟩ := ih (k + 1) (stI z2 62 0 j0 (ii 1)) (by omega) (fun j hj => by
          by_cases hjj : j = j0
          · subst hjj
            left
            exact ⟨st_s _ _ _ _ _, k, by omega, qf, by omega⟩
          · rw [st_j _ _ hjj, o3]
            rcases h1 j hj with ⟨a, p, b1, b2, b3⟩ | ⟨a, b⟩
            · exact Or.inl ⟨a, p, by omega, b2, b3⟩
            · refine Or.inr ⟨a, fun p hp hf => ?_⟩
              by_cases hpk : p = k
              · subst hpk
                omega
              · exact b p (by omega) hf) ((h2.tr (o2.mono (by decide) (by decide))).sI (by decide) (by decide))
        refine ⟨z', ?_, g5, g6⟩
        intro Z hZ
        rw [lp_go e]
        exact g4 Z hZ
      · have qf : ¬ frp A r k = true := fun e => q (of_decide_eq_true e)
        have qt : (ii ((mkf (hdr A (pt A k)) A.R : Nat)) ||| ii ((2 ^ r : Nat)) = fX8_allRows z) = False := eq_false (fun e => q (q6.mp (q4.mp e)))
        have e : fX8_boundFor_48_L (ii r) (ii (np A)) (ii (k : Nat), z) = some (.inl (ii ((k + 1 : Nat)), z)) := by
          simp (disch := omega) only [fX8_boundFor_48_L, fX8_boundFor_48, fX8_boundFor_91, q5, sh, qt, if_true, if_false, Option.bind_some, Option.map_some, ii_lit, ll_lit, ii_neg, ll_neg, ii_add, ii_sub, ii_mul, ll_add, ll_sub, ll_mul, ii_le, ii_lt, ii_eq, ii_t, bi_0, bi_1, rd_z, wr_z, rr_z, rl_z, wl_z, tn_n, st_s, st_j, st_i, st_c, st_2, sl_s, sl_j, sl_i, sl_c, sl_1, Int.natCast_add, Int.cast_ofNat_Int, if_pos, if_neg]
        obtain ⟨z', g4, g5, g6⟩ := ih (k + 1) z (by omega) (fun j hj => by
          rcases h1 j hj with ⟨a, p, b1, b2, b3⟩ | ⟨a, b⟩
          · exact Or.inl ⟨a, p, by omega, b2, b3⟩
          · refine Or.inr ⟨a, fun p hp hf => ?_⟩
            by_cases hpk : p = k
            · subst hpk
              exact absurd hf qf
            · exact b p (by omega) hf) h2
        refine ⟨z', ?_, g5, g6⟩
        intro Z hZ
        rw [lp_go e]
        exact g4 Z hZ
  obtain ⟨z', g4, g5, g6⟩ := step (np A) 0 s1 (by omega) (fun j hj => Or.inr ⟨by rw [e62]; exact g2 j hj, fun p hp => by omega⟩) (Fr.rf _ _ _)
  refine ⟨z', ?_, g5, f0.tr (g6.mono (by decide) (by decide))⟩
  intro Z hZ
  refine g1 Z ?_
  rw [e1, Option.bind_some, pp, Option.bind_some, hnp]
  exact g4 Z hZ
theorem m_boundFor {σ τ : mm} (h : Rel σ τ) (r : Int32) : Ag (fX7_boundFor r σ) (fX8_boundFor r τ) := by
  obtain ⟨A, hR⟩ := h
  obtain ⟨⟨hC, hM, hA⟩, -⟩ := id hR
  obtain ⟨r, rfl, h1, h2⟩ := ii_ex r
  have c1 := C_hasRow hC h1 h2
  have c2 := M_isRow hM h1 h2
  have hR8 := hA.2.1
  by_cases hv : 0 ≤ r ∧ r < A.R
  · obtain ⟨r, rfl⟩ : ∃ k : Nat, r = k := ⟨r.toNat, by omega⟩
    have hr : r < A.R := by omega
    obtain ⟨⟨r1, r2⟩, ⟨r3, r4⟩, ⟨r5, r6⟩, -⟩ := hA.2.2.2.1 r hr
    obtain ⟨σ1, e1, f1, f2, -⟩ := hR.cloud
    have clb := C_leastBound f1.1.1 f2 hA hr
    obtain ⟨τ1, g1, g2, g3⟩ := M_flags hM hA hr
    have hR1 : RelA σ1 τ1 A := f1.m (g3.mono (by decide) (by decide))
    have hM1 := hR1.1.2.1
    obtain ⟨m, hm⟩ : ∃ m, m = bfm A r := ⟨_, rfl⟩
    rw [← hm] at clb
    have hmr : -999 ≤ m ∧ m ≤ 1000 := by
      rw [hm]
      exact mni_r (by omega) (fun j _ => by have q3 := sm_pt hA hr j; exact (lbf_ok r1 r2 r5 r6 q3.1 q3.2).1.1)
    have hlow : ∀ p, p < np A → frp A r p = true → m ≤ lbf (A.rw r 0) (A.rw r 2) (sm A r (pt A p)) := fun p hp hf => by rw [hm]; exact mni_le (f := fun p => lbf (A.rw r 0) (A.rw r 2) (sm A r (pt A p))) hp hf
    have hat0 := M_at hM1 hr (x := 0) (by decide) (by decide)
    have hat2 := M_at hM1 hr (x := 2) (by decide) (by decide)
    simp only [Int.toNat_zero, show (2 : Int).toNat = 2 from rfl] at hat0 hat2
    have miss : ∀ b, -999 ≤ b → b < m → lp (fX8_boundFor_111_L (ii r) (ii b) τ1) (ii 0) = some (.inl (ii (b + 1))) := by
      intro b hb1 hb2
      refine lp_f (fun j => ii j) 801 rfl ?_ ?_
      · intro j hj
        rcases g2 j hj with ⟨a, p, p1, p2, p3⟩ | ⟨a, -⟩
        · have q3 := sm_pt hA hr p
          have q4 := (lbf_ok r1 r2 r5 r6 q3.1 q3.2).2.2 b hb1
          have q5 := hlow p p1 p2
          have q6 : hb (A.rw r 0) (A.rw r 2) ((j : Int) - 400 - b) = false := by
            rw [show (j : Int) - 400 - b = sm A r (pt A p) - b by omega]
            cases hh : hb (A.rw r 0) (A.rw r 2) (sm A r (pt A p) - b)
            · rfl
            · have := q4 hh
              omega
          have q7 := M_holdsBy (ov := (j : Int) - 400 - b) r1 r2 r5 r6 (by omega) (by omega)
          rw [q6] at q7
          simp (disch := omega) only [fX8_boundFor_111_L, fX8_boundFor_111, fX8_boundFor_159, a, hat0, hat2, q7, if_true, if_false, Option.bind_some, Option.map_some, ii_lit, ll_lit, ii_neg, ll_neg, ii_add, ii_sub, ii_mul, ll_add, ll_sub, ll_mul, ii_le, ii_lt, ii_eq, ii_t, bi_0, bi_1, rd_z, wr_z, rr_z, rl_z, wl_z, tn_n, st_s, st_j, st_i, st_c, st_2, sl_s, sl_j, sl_i, sl_c, sl_1, Int.natCast_add, Int.cast_ofNat_Int, if_pos, if_neg, decide_eq_false_iff_not, decide_eq_true_eq, in_ll, ii_long, Nat.zero_add, Nat.mul_zero, reduceCtorEq]
        · simp (disch := omega) only [fX8_boundFor_111_L, fX8_boundFor_111, fX8_boundFor_159, a, if_true, if_false, Option.bind_some, Option.map_some, ii_lit, ll_lit, ii_neg, ll_neg, ii_add, ii_sub, ii_mul, ll_add, ll_sub, ll_mul, ii_le, ii_lt, ii_eq, ii_t, bi_0, bi_1, rd_z, wr_z, rr_z, rl_z, wl_z, tn_n, st_s, st_j, st_i, st_c, st_2, sl_s, sl_j, sl_i, sl_c, sl_1, Int.natCast_add, Int.cast_ofNat_Int, if_pos, if_neg, decide_eq_false_iff_not, decide_eq_true_eq, in_ll, ii_long, Nat.zero_add, Nat.mul_zero, reduceCtorEq]
      · simp (disch := omega) only [fX8_boundFor_111_L, fX8_boundFor_111, if_true, if_false, Option.bind_some, Option.map_some, ii_lit, ll_lit, ii_neg, ll_neg, ii_add, ii_sub, ii_mul, ll_add, ll_sub, ll_mul, ii_le, ii_lt, ii_eq, ii_t, bi_0, bi_1, rd_z, wr_z, rr_z, rl_z, wl_z, tn_n, st_s, st_j, st_i, st_c, st_2, sl_s, sl_j, sl_i, sl_c, sl_1, Int.natCast_add, Int.cast_ofNat_Int, if_pos, if_neg, decide_eq_false_iff_not, decide_eq_true_eq, in_ll, ii_long, Nat.zero_add, Nat.mul_zero, reduceCtorEq]
    by_cases h9 : m ≤ 999
    · have hit : ∃ x, lp (fX8_boundFor_111_L (ii r) (ii m) τ1) (ii 0) = some x ∧ x = .inr (ii m, τ1) := by
        have hex : ∃ p, p < np A ∧ frp A r p = true ∧ m = lbf (A.rw r 0) (A.rw r 2) (sm A r (pt A p)) := by
          rcases mni_at (f := fun p => lbf (A.rw r 0) (A.rw r 2) (sm A r (pt A p))) (P := frp A r) (b := 1000) (k := np A) with q | ⟨p, q1, q2, q3⟩
          · have : m = 1000 := by rw [hm]; exact q
            omega
          · exact ⟨p, q1, q2, by rw [hm]; exact q3⟩
        obtain ⟨p0, w1, w2, w3⟩ := hex
        have wr := sm_pt hA hr p0
        refine lp_i (fun j z => z = ii j ∧ (j : Int) ≤ sm A r (pt A p0) + 400) _ 801 ⟨rfl, by omega⟩ ?_ ?_
        · rintro j z hj ⟨rfl, hle⟩
          rcases g2 j hj with ⟨a, p, p1, p2, p3⟩ | ⟨a, na⟩
          · have q7 := M_holdsBy (ov := (j : Int) - 400 - m) r1 r2 r5 r6 (by omega) (by omega)
            cases hh : hb (A.rw r 0) (A.rw r 2) ((j : Int) - 400 - m)
            · left
              rw [hh] at q7
              refine ⟨ii ((j + 1 : Nat)), ?_, rfl, ?_⟩
              · simp (disch := omega) only [fX8_boundFor_111_L, fX8_boundFor_111, fX8_boundFor_159, a, hat0, hat2, q7, if_true, if_false, Option.bind_some, Option.map_some, ii_lit, ll_lit, ii_neg, ll_neg, ii_add, ii_sub, ii_mul, ll_add, ll_sub, ll_mul, ii_le, ii_lt, ii_eq, ii_t, bi_0, bi_1, rd_z, wr_z, rr_z, rl_z, wl_z, tn_n, st_s, st_j, st_i, st_c, st_2, sl_s, sl_j, sl_i, sl_c, sl_1, Int.natCast_add, Int.cast_ofNat_Int, if_pos, if_neg, decide_eq_false_iff_not, decide_eq_true_eq, in_ll, ii_long, Nat.zero_add, Nat.mul_zero, reduceCtorEq]
              · by_cases hjj : (j : Int) = sm A r (pt A p0) + 400
                · have q8 := (lbf_ok r1 r2 r5 r6 wr.1 wr.2).2.1
                  rw [← w3, show sm A r (pt A p0) - m = (j : Int) - 400 - m by omega, hh] at q8
                  exact absurd q8 (by decide)
                · omega
            · right
              rw [hh] at q7
              refine ⟨_, ?_, rfl⟩
              simp (disch := omega) only [fX8_boundFor_111_L, fX8_boundFor_111, fX8_boundFor_159, a, hat0, hat2, q7, if_true, if_false, Option.bind_some, Option.map_some, ii_lit, ll_lit, ii_neg, ll_neg, ii_add, ii_sub, ii_mul, ll_add, ll_sub, ll_mul, ii_le, ii_lt, ii_eq, ii_t, bi_0, bi_1, rd_z, wr_z, rr_z, rl_z, wl_z, tn_n, st_s, st_j, st_i, st_c, st_2, sl_s, sl_j, sl_i, sl_c, sl_1, Int.natCast_add, Int.cast_ofNat_Int, if_pos, if_neg, decide_eq_false_iff_not, decide_eq_true_eq, in_ll, ii_long, Nat.zero_add, Nat.mul_zero, reduceCtorEq]
          · left
            refine ⟨ii ((j + 1 : Nat)), ?_, rfl, ?_⟩
            · simp (disch := omega) only [fX8_boundFor_111_L, fX8_boundFor_111, fX8_boundFor_159, a, if_true, if_false, Option.bind_some, Option.map_some, ii_lit, ll_lit, ii_neg, ll_neg, ii_add, ii_sub, ii_mul, ll_add, ll_sub, ll_mul, ii_le, ii_lt, ii_eq, ii_t, bi_0, bi_1, rd_z, wr_z, rr_z, rl_z, wl_z, tn_n, st_s, st_j, st_i, st_c, st_2, sl_s, sl_j, sl_i, sl_c, sl_1, Int.natCast_add, Int.cast_ofNat_Int, if_pos, if_neg, decide_eq_false_iff_not, decide_eq_true_eq, in_ll, ii_long, Nat.zero_add, Nat.mul_zero, reduceCtorEq]
            · have := na p0 w1 w2
              omega
        · rintro z ⟨rfl, hle⟩
          omega
      obtain ⟨x, hx, rfl⟩ := hit
      have ref : ∃ x, lp (fX8_boundFor_101_L (ii r) τ1) (ii (-999)) = some x ∧ x = (ii m, τ1) := by
        refine lp_i (fun t z => z = ii ((t : Int) - 999) ∧ (t : Int) - 999 ≤ m) _ 1999 ⟨rfl, by omega⟩ ?_ ?_
        · rintro t z ht ⟨rfl, hle⟩
          by_cases e : (t : Int) - 999 = m
          · right
            refine ⟨_, ?_, rfl⟩
            rw [e]
            simp (disch := omega) only [fX8_boundFor_101_L, fX8_boundFor_101, hx, if_true, if_false, Option.bind_some, Option.map_some, ii_lit, ll_lit, ii_neg, ll_neg, ii_add, ii_sub, ii_mul, ll_add, ll_sub, ll_mul, ii_le, ii_lt, ii_eq, ii_t, bi_0, bi_1, rd_z, wr_z, rr_z, rl_z, wl_z, tn_n, st_s, st_j, st_i, st_c, st_2, sl_s, sl_j, sl_i, sl_c, sl_1, Int.natCast_add, Int.cast_ofNat_Int, if_pos, if_neg, decide_eq_false_iff_not, decide_eq_true_eq, in_ll, ii_long, Nat.zero_add, Nat.mul_zero, reduceCtorEq]
          · left
            have q := miss ((t : Int) - 999) (by omega) (by omega)
            refine ⟨ii (((t + 1 : Nat) : Int) - 999), ?_, rfl, by omega⟩
            rw [show ((t + 1 : Nat) : Int) - 999 = (t : Int) - 999 + 1 by omega]
            simp (disch := omega) only [fX8_boundFor_101_L, fX8_boundFor_101, q, if_true, if_false, Option.bind_some, Option.map_some, ii_lit, ll_lit, ii_neg, ll_neg, ii_add, ii_sub, ii_mul, ll_add, ll_sub, ll_mul, ii_le, ii_lt, ii_eq, ii_t, bi_0, bi_1, rd_z, wr_z, rr_z, rl_z, wl_z, tn_n, st_s, st_j, st_i, st_c, st_2, sl_s, sl_j, sl_i, sl_c, sl_1, Int.natCast_add, Int.cast_ofNat_Int, if_pos, if_neg, decide_eq_false_iff_not, decide_eq_true_eq, in_ll, ii_long, Nat.zero_add, Nat.mul_zero, reduceCtorEq]
        · rintro z ⟨rfl, hle⟩
          omega
      obtain ⟨x, hx2, rfl⟩ := ref
      refine ⟨ii m, σ1, τ1, ?_, ?_, _, hR1⟩
      · unfold fX7_boundFor fX7_boundFor_0
        simp (disch := omega) only [c1, e1, clb, if_true, if_false, Option.bind_some, Option.map_some, ii_lit, ll_lit, ii_neg, ll_neg, ii_add, ii_sub, ii_mul, ll_add, ll_sub, ll_mul, ii_le, ii_lt, ii_eq, ii_t, bi_0, bi_1, rd_z, wr_z, rr_z, rl_z, wl_z, tn_n, st_s, st_j, st_i, st_c, st_2, sl_s, sl_j, sl_i, sl_c, sl_1, Int.natCast_add, Int.cast_ofNat_Int, if_pos, if_neg, decide_eq_false_iff_not, decide_eq_true_eq, in_ll, ii_long, Nat.zero_add, Nat.mul_zero, reduceCtorEq]
      · unfold fX8_boundFor fX8_boundFor_0
        have := g1 _ hx2
        simp (disch := omega) only [c2, this, if_true, if_false, Option.bind_some, Option.map_some, ii_lit, ll_lit, ii_neg, ll_neg, ii_add, ii_sub, ii_mul, ll_add, ll_sub, ll_mul, ii_le, ii_lt, ii_eq, ii_t, bi_0, bi_1, rd_z, wr_z, rr_z, rl_z, wl_z, tn_n, st_s, st_j, st_i, st_c, st_2, sl_s, sl_j, sl_i, sl_c, sl_1, Int.natCast_add, Int.cast_ofNat_Int, if_pos, if_neg, decide_eq_false_iff_not, decide_eq_true_eq, in_ll, ii_long, Nat.zero_add, Nat.mul_zero, reduceCtorEq]
    · obtain ⟨σ', τ', e3, e4, hr'⟩ := fd3 hR1
      have ref : ∃ x, lp (fX8_boundFor_101_L (ii r) τ1) (ii (-999)) = some x ∧ x = (ii (-1000000004), τ') := by
        refine lp_i (fun t z => z = ii ((t : Int) - 999)) _ 1999 rfl ?_ ?_
        · rintro t z ht rfl
          left
          have q := miss ((t : Int) - 999) (by omega) (by omega)
          refine ⟨ii (((t + 1 : Nat) : Int) - 999), ?_, rfl⟩
          rw [show ((t + 1 : Nat) : Int) - 999 = (t : Int) - 999 + 1 by omega]
          simp (disch := omega) only [fX8_boundFor_101_L, fX8_boundFor_101, q, if_true, if_false, Option.bind_some, Option.map_some, ii_lit, ll_lit, ii_neg, ll_neg, ii_add, ii_sub, ii_mul, ll_add, ll_sub, ll_mul, ii_le, ii_lt, ii_eq, ii_t, bi_0, bi_1, rd_z, wr_z, rr_z, rl_z, wl_z, tn_n, st_s, st_j, st_i, st_c, st_2, sl_s, sl_j, sl_i, sl_c, sl_1, Int.natCast_add, Int.cast_ofNat_Int, if_pos, if_neg, decide_eq_false_iff_not, decide_eq_true_eq, in_ll, ii_long, Nat.zero_add, Nat.mul_zero, reduceCtorEq]
        · rintro z rfl
          refine ⟨_, ?_, rfl⟩
          simp (disch := omega) only [fX8_boundFor_101_L, fX8_boundFor_101, e4, if_true, if_false, Option.bind_some, Option.map_some, ii_lit, ll_lit, ii_neg, ll_neg, ii_add, ii_sub, ii_mul, ll_add, ll_sub, ll_mul, ii_le, ii_lt, ii_eq, ii_t, bi_0, bi_1, rd_z, wr_z, rr_z, rl_z, wl_z, tn_n, st_s, st_j, st_i, st_c, st_2, sl_s, sl_j, sl_i, sl_c, sl_1, Int.natCast_add, Int.cast_ofNat_Int, if_pos, if_neg, decide_eq_false_iff_not, decide_eq_true_eq, in_ll, ii_long, Nat.zero_add, Nat.mul_zero, reduceCtorEq]
      obtain ⟨x, hx2, rfl⟩ := ref
      refine ⟨ii (-1000000004), σ', τ', ?_, ?_, _, hr'⟩
      · unfold fX7_boundFor fX7_boundFor_0
        simp (disch := omega) only [c1, e1, clb, e3, if_true, if_false, Option.bind_some, Option.map_some, ii_lit, ll_lit, ii_neg, ll_neg, ii_add, ii_sub, ii_mul, ll_add, ll_sub, ll_mul, ii_le, ii_lt, ii_eq, ii_t, bi_0, bi_1, rd_z, wr_z, rr_z, rl_z, wl_z, tn_n, st_s, st_j, st_i, st_c, st_2, sl_s, sl_j, sl_i, sl_c, sl_1, Int.natCast_add, Int.cast_ofNat_Int, if_pos, if_neg, decide_eq_false_iff_not, decide_eq_true_eq, in_ll, ii_long, Nat.zero_add, Nat.mul_zero, reduceCtorEq]
      · unfold fX8_boundFor fX8_boundFor_0
        have := g1 _ hx2
        simp (disch := omega) only [c2, this, if_true, if_false, Option.bind_some, Option.map_some, ii_lit, ll_lit, ii_neg, ll_neg, ii_add, ii_sub, ii_mul, ll_add, ll_sub, ll_mul, ii_le, ii_lt, ii_eq, ii_t, bi_0, bi_1, rd_z, wr_z, rr_z, rl_z, wl_z, tn_n, st_s, st_j, st_i, st_c, st_2, sl_s, sl_j, sl_i, sl_c, sl_1, Int.natCast_add, Int.cast_ofNat_Int, if_pos, if_neg, decide_eq_false_iff_not, decide_eq_true_eq, in_ll, ii_long, Nat.zero_add, Nat.mul_zero, reduceCtorEq]
  · obtain ⟨σ', τ', e3, e4, hr⟩ := fd0 hR
    refine ⟨ii (-1000000001), σ', τ', ?_, ?_, _, hr⟩
    · unfold fX7_boundFor fX7_boundFor_0
      simp (disch := omega) only [c1, e3, if_true, if_false, Option.bind_some, Option.map_some, ii_lit, ll_lit, ii_neg, ll_neg, ii_add, ii_sub, ii_mul, ll_add, ll_sub, ll_mul, ii_le, ii_lt, ii_eq, ii_t, bi_0, bi_1, rd_z, wr_z, rr_z, rl_z, wl_z, tn_n, st_s, st_j, st_i, st_c, st_2, sl_s, sl_j, sl_i, sl_c, sl_1, Int.natCast_add, Int.cast_ofNat_Int, if_pos, if_neg, decide_eq_false_iff_not, decide_eq_true_eq, in_ll, ii_long, Nat.zero_add, Nat.mul_zero, reduceCtorEq]
    · unfold fX8_boundFor fX8_boundFor_0
      simp (disch := omega) only [c2, e4, if_true, if_false, Option.bind_some, Option.map_some, ii_lit, ll_lit, ii_neg, ll_neg, ii_add, ii_sub, ii_mul, ll_add, ll_sub, ll_mul, ii_le, ii_lt, ii_eq, ii_t, bi_0, bi_1, rd_z, wr_z, rr_z, rl_z, wl_z, tn_n, st_s, st_j, st_i, st_c, st_2, sl_s, sl_j, sl_i, sl_c, sl_1, Int.natCast_add, Int.cast_ofNat_Int, if_pos, if_neg, decide_eq_false_iff_not, decide_eq_true_eq, in_ll, ii_long, Nat.zero_add, Nat.mul_zero, reduceCtorEq]
