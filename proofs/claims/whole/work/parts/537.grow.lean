-- THE TREE: how deep, how many leaves
def ph (w : Int) : Int := if w ≤ 0 then 0 else if w ≤ 1 then 1 else if w ≤ 3 then 2 else if w ≤ 7 then 3 else if w ≤ 15 then 4 else 5
def pot (A : bdy) (c : bx) : Int := smf (fun l => ph (c.2 l - c.1 l)) A.n
def pcl (n : Nat) (c : bx) : Int := prf (fun l => c.2 l - c.1 l + 1) n
theorem ph_r (w : Int) : 0 ≤ ph w ∧ ph w ≤ 5 := by
  unfold ph
  repeat' split
  all_goals omega
theorem smf_one {f g : Nat → Int} {n j : Nat} (hj : j < n) (h : ∀ k, k ≠ j → f k = g k) : smf f n = smf g n + (f j - g j) := by
  induction n with
  | zero => omega
  | succ n ih =>
    rw [smf, smf]
    by_cases e : j = n
    · subst e
      rw [smf_c (f := f) (g := g) (fun k hk => h k (by omega))]
      omega
    · rw [ih (by omega), h n (by omega)]
      omega
theorem pot_r {A : bdy} (hA : okb A) (c : bx) : 0 ≤ pot A c ∧ pot A c ≤ 20 := by
  have h := smf_n (f := fun l => ph (c.2 l - c.1 l)) (n := A.n) (B := 5) (fun k _ => ph_r _)
  have h4 : (A.n : Int) * 5 ≤ 4 * 5 := Int.mul_le_mul_of_nonneg_right (by have := hA.1; omega) (by omega)
  unfold pot
  omega
theorem same_dw {kd bo wi a : Int} (h1 : 0 ≤ kd) (h2 : kd ≤ 5) (h3 : 1 ≤ wi) : ddk kd bo wi a a = true ∨ whk kd bo wi a a = true := by
  have m1 := Int.emod_nonneg (bo - a) (show wi ≠ 0 by omega)
  have : kd = 0 ∨ kd = 1 ∨ kd = 2 ∨ kd = 3 ∨ kd = 4 ∨ kd = 5 := by omega
  rcases this with rfl | rfl | rfl | rfl | rfl | rfl
  · simp [ddk, whk]
    omega
  · simp [ddk, whk]
    omega
  · simp [ddk, whk]
    omega
  · by_cases q : (bo - a) % wi = 0
    · right
      have q2 : (a - bo) % wi = 0 := by
        have d : wi ∣ (bo - a) := Int.dvd_of_emod_eq_zero q
        have d2 : wi ∣ (a - bo) := by
          rw [← Int.neg_sub bo a]
          exact Int.dvd_neg.mpr d
        exact Int.emod_eq_zero_of_dvd d2
      simp [whk, q2]
    · left
      have : a < a + (bo - a) % wi := by omega
      simp [ddk]
      omega
  · simp [ddk, whk]
    omega
  · simp [ddk, whk]
    omega
/-- an open cell is wide in its widest letter -/
theorem open_wide {A : bdy} (hA : okb A) {c : bx} (hc : okc c) (h : vrd A c A.R = -2) : wdt A c < A.n ∧ c.1 (wdt A c) < c.2 (wdt A c) := by
  have hn := hA.1
  have w := wid_le c (A.n - 1)
  refine ⟨by unfold wdt; omega, ?_⟩
  by_cases q : c.1 (wdt A c) < c.2 (wdt A c)
  · exact q
  · exfalso
    have hall : ∀ l, l < A.n → c.1 l = c.2 l := by
      intro l hl
      have h1 := wid_max c (k := A.n - 1) (l := l) (by omega)
      have h2 := hc l (by omega)
      unfold wdt at q
      omega
    have vn := vrd_neg (A := A) (c := c) (k := A.R) (by omega)
    have : vrd A c A.R = -1 := vn.2.mpr (fun r hr => by
      obtain ⟨⟨r1, r2⟩, -, ⟨r5, r6⟩, -⟩ := hA.2.2.2.1 r hr
      have e : lsc A c r = msc A c r := smf_c (fun l hl => by
        show A.rw r (3 + l) * _ = A.rw r (3 + l) * _
        rw [hall l hl])
      rcases same_dw (bo := A.rw r 1) (a := lsc A c r) r1 r2 r5 with d | d
      · have := vn.1 r hr
        unfold ddr at this
        rw [← e, d] at this
        exact absurd this (by decide)
      · unfold whr
        rw [← e]
        exact d)
    omega
theorem mid_r {A : bdy} {c : bx} (h : c.1 (wdt A c) < c.2 (wdt A c)) : c.1 (wdt A c) ≤ mid A c ∧ mid A c < c.2 (wdt A c) := by
  unfold mid
  omega
theorem okc_lo {A : bdy} (hA : okb A) {c : bx} (hc : okc c) (h : c.1 (wdt A c) < c.2 (wdt A c)) : okc (cLo A c) := by
  have m := mid_r h
  intro l hl
  have := hc l hl
  show -9 ≤ c.1 l ∧ c.1 l ≤ up1 c.2 (wdt A c) (mid A c) l ∧ up1 c.2 (wdt A c) (mid A c) l ≤ 9
  unfold up1
  split
  · subst_vars
    omega
  · exact this
theorem okc_hi {A : bdy} (hA : okb A) {c : bx} (hc : okc c) (h : c.1 (wdt A c) < c.2 (wdt A c)) : okc (cHi A c) := by
  have m := mid_r h
  intro l hl
  have := hc l hl
  show -9 ≤ up1 c.1 (wdt A c) (mid A c + 1) l ∧ up1 c.1 (wdt A c) (mid A c + 1) l ≤ c.2 l ∧ c.2 l ≤ 9
  unfold up1
  split
  · subst_vars
    omega
  · exact this
theorem pot_lo {A : bdy} {c : bx} (hA : okb A) (hc : okc c) (hw : wdt A c < A.n) (h : c.1 (wdt A c) < c.2 (wdt A c)) : pot A (cLo A c) + 1 ≤ pot A c := by
  have e := smf_one (f := fun l => ph ((cLo A c).2 l - (cLo A c).1 l)) (g := fun l => ph (c.2 l - c.1 l)) hw (fun k hk => by
    show ph (up1 c.2 (wdt A c) (mid A c) k - c.1 k) = _
    rw [up1_ne _ _ hk])
  have e2 : ph ((cLo A c).2 (wdt A c) - (cLo A c).1 (wdt A c)) + 1 ≤ ph (c.2 (wdt A c) - c.1 (wdt A c)) := by
    show ph (up1 c.2 (wdt A c) (mid A c) (wdt A c) - c.1 (wdt A c)) + 1 ≤ _
    rw [up1_same]
    have hb := hc (wdt A c) (by have := hA.1; omega)
    unfold mid ph
    repeat' split
    all_goals omega
  unfold pot
  omega
theorem pot_hi {A : bdy} {c : bx} (hA : okb A) (hc : okc c) (hw : wdt A c < A.n) (h : c.1 (wdt A c) < c.2 (wdt A c)) : pot A (cHi A c) + 1 ≤ pot A c := by
  have e := smf_one (f := fun l => ph ((cHi A c).2 l - (cHi A c).1 l)) (g := fun l => ph (c.2 l - c.1 l)) hw (fun k hk => by
    show ph (c.2 k - up1 c.1 (wdt A c) (mid A c + 1) k) = _
    rw [up1_ne _ _ hk])
  have e2 : ph ((cHi A c).2 (wdt A c) - (cHi A c).1 (wdt A c)) + 1 ≤ ph (c.2 (wdt A c) - c.1 (wdt A c)) := by
    show ph (c.2 (wdt A c) - up1 c.1 (wdt A c) (mid A c + 1) (wdt A c)) + 1 ≤ _
    rw [up1_same]
    have hb := hc (wdt A c) (by have := hA.1; omega)
    unfold mid ph
    repeat' split
    all_goals omega
  unfold pot
  omega
theorem pcl_cut {A : bdy} {c : bx} (hw : wdt A c < A.n) : pcl A.n (cLo A c) + pcl A.n (cHi A c) = pcl A.n c := by
  have e1 : pcl A.n (cLo A c) = prf (fun j => if j = wdt A c then mid A c - c.1 (wdt A c) + 1 else c.2 j - c.1 j + 1) A.n := prf_c (fun k _ => by
    show up1 c.2 (wdt A c) (mid A c) k - c.1 k + 1 = _
    by_cases e : k = wdt A c
    · subst e
      rw [up1_same, if_pos rfl]
    · rw [up1_ne _ _ e, if_neg e])
  have e2 : pcl A.n (cHi A c) = prf (fun j => if j = wdt A c then c.2 (wdt A c) - mid A c else c.2 j - c.1 j + 1) A.n := prf_c (fun k _ => by
    show c.2 k - up1 c.1 (wdt A c) (mid A c + 1) k + 1 = _
    by_cases e : k = wdt A c
    · subst e
      rw [up1_same, if_pos rfl]
      omega
    · rw [up1_ne _ _ e, if_neg e])
  have e3 : pcl A.n c = prf (fun j => if j = wdt A c then c.2 (wdt A c) - c.1 (wdt A c) + 1 else c.2 j - c.1 j + 1) A.n := prf_c (fun k _ => by
    by_cases e : k = wdt A c
    · subst e
      rw [if_pos rfl]
    · rw [if_neg e])
  rw [e1, e2, e3, prf_one hw, prf_one hw (c.2 (wdt A c) - mid A c), prf_one hw (c.2 (wdt A c) - c.1 (wdt A c) + 1), ← Int.add_mul]
  congr 1
  omega
theorem pcl_pos {A : bdy} (hA : okb A) {c : bx} (hc : okc c) : 1 ≤ pcl A.n c := prf_pos (fun k hk => by have := hc k (by have := hA.1; omega); show 1 ≤ c.2 k - c.1 k + 1; omega)
theorem tr_len {A : bdy} (hA : okb A) (f : Nat) (c : bx) (hc : okc c) : ((tr A f c).length : Int) ≤ pcl A.n c ∧ 1 ≤ (tr A f c).length := by
  induction f generalizing c with
  | zero =>
    have := pcl_pos hA hc
    rw [tr]
    simp only [List.length_singleton]
    omega
  | succ f ih =>
    rw [tr]
    split
    · rename_i h
      obtain ⟨w1, w2⟩ := open_wide hA hc h
      have i1 := ih (cLo A c) (okc_lo hA hc w2)
      have i2 := ih (cHi A c) (okc_hi hA hc w2)
      have e := pcl_cut (A := A) (c := c) w1
      rw [List.length_append]
      omega
    · have := pcl_pos hA hc
      simp only [List.length_singleton]
      omega
theorem ndd_app (L M : List (bx × Int)) : ndd (L ++ M) = ndd L + ndd M := by
  induction L with
  | nil => simp [ndd]
  | cons q L ih =>
    rw [List.cons_append, ndd, ndd, ih]
    omega
theorem ndd_le (L : List (bx × Int)) : ndd L ≤ L.length := by
  induction L with
  | nil => simp [ndd]
  | cons q L ih =>
    rw [ndd, List.length_cons]
    split <;> omega
theorem or3 {a b v : Nat} (ha : a < 2 ^ 20) (hb : b < 2 ^ 20) : (a ||| b * 2 ^ 20) ||| v * 2 ^ 40 = a + b * 2 ^ 20 + v * 2 ^ 40 := by
  rw [or_hi ha, or_hi (show a + b * 2 ^ 20 < 2 ^ 40 by omega)]
/-- the class's leaves, as far as they are -/
def lvC (σ : mm) (n L : Nat) (T : List (bx × Int)) : Prop := ∀ k q, T[k]? = some q → σ.2 22 0 (L + k) = ll (lfk n q)
theorem C_addLeaf {σ : mm} {A : bdy} (hC : isC σ 0 A) (hA : okb A) {c : bx} (hc : okc c) (h15 : ∀ l, l < 4 → σ.1 15 0 l = ii (c.1 l)) (h16 : ∀ l, l < 4 → σ.1 16 0 l = ii (c.2 l)) {v : Int} (hv : -1 ≤ v ∧ v < 8) {L D P d : Nat} (hL : L < 4096) (hD : D ≤ 4096) (hP : P ≤ 100) (hd : d ≤ 100) (e2 : σ.1 6 0 2 = ii L) (e3 : σ.1 6 0 3 = ii D) (e4 : σ.1 6 0 4 = ii P) :
    ∃ σ', fX6_addLeaf (ii v) (ii d) (ii A.n) σ = some σ' ∧ σ'.1 6 0 2 = ii ((L + 1 : Nat)) ∧ σ'.1 6 0 3 = ii ((D + (if 0 ≤ v then 1 else 0) : Nat)) ∧ σ'.1 6 0 4 = ii ((max P d : Nat)) ∧ (∀ j, j < 2 → σ'.1 6 0 j = σ.1 6 0 j) ∧ σ'.2 22 0 L = ll (lfk A.n (c, v)) ∧ (∀ j, j ≠ L → σ'.2 22 0 j = σ.2 22 0 j) ∧ Fr [6, 22] [] σ σ' := by
  have hn := hA.1
  have p1 := C_pack_15 (σ := σ) hn.2 (x := c.1) (fun l hl => h15 l (by omega)) (fun l hl => by have := hc l (by omega); omega)
  have p2 := C_pack_16 (σ := σ) hn.2 (x := c.2) (fun l hl => h16 l (by omega)) (fun l hl => by have := hc l (by omega); omega)
  have q3 : (2 : Nat) ^ (5 * A.n) ≤ 2 ^ 20 := Nat.pow_le_pow_right (by decide) (by omega)
  have b1 : pkf c.1 A.n < 2 ^ 20 := Nat.lt_of_lt_of_le (pkf_lt (fun l hl => by have := hc l (by omega); omega)) q3
  have b2 : pkf c.2 A.n < 2 ^ 20 := Nat.lt_of_lt_of_le (pkf_lt (fun l hl => by have := hc l (by omega); omega)) q3
  obtain ⟨w, hw⟩ : ∃ w : Nat, (w : Int) = v + 1 := ⟨(v + 1).toNat, by omega⟩
  have ev : (ll (pkf c.1 A.n : Nat) ||| (ll (pkf c.2 A.n : Nat) <<< ((ii 20).toInt64 &&& ll 63))) ||| ((ii (v + 1)).toInt64 <<< ((ii 40).toInt64 &&& ll 63)) = ll (lfk A.n (c, v)) := by
    rw [show ii 20 = ii ((20 : Nat) : Int) from rfl, show ii 40 = ii ((40 : Nat) : Int) from rfl, ← hw, ii_long (a := (w : Int)) (by omega) (by omega), shll_n _ (by decide), shll_n _ (by decide), orl_n, orl_n, or3 b1 b2]
    unfold lfk
    rw [show ((c, v).2 + 1).toNat = w by show (v + 1).toNat = w; omega]
  have mx := max_ii (a := (P : Int)) (b := (d : Int)) (by omega) (by omega) (by omega) (by omega)
  have mx2 : (if (P : Int) < d then (d : Int) else P) = ((max P d : Nat) : Int) := by
    split <;> omega
  rw [mx2] at mx
  have fin : ∀ x : Nat, (x = if 0 ≤ v then 1 else 0) → fX6_addLeaf (ii v) (ii d) (ii A.n) σ = some (stI (stI (stI (stL σ 22 0 L (ll (lfk A.n (c, v)))) 6 0 2 (ii ((L + 1 : Nat)))) 6 0 3 (ii ((D + x : Nat)))) 6 0 4 (ii ((max P d : Nat)))) := by
    intro x hx
    unfold fX6_addLeaf fX6_addLeaf_0
    rw [e2, if_pos (by show ii (L : Int) < ii 4096; rw [ii_lt (by omega) (by omega) (by omega) (by omega)]; omega), p1, Option.bind_some, p2, Option.bind_some, Option.bind_some]
    simp only [ii_lit, ll_lit, ii_add]
    rw [ii_long (a := ((pkf c.1 A.n : Nat) : Int)) (by omega) (by omega), ii_long (a := ((pkf c.2 A.n : Nat) : Int)) (by omega) (by omega), ev]
    by_cases q : v < 0
    · rw [if_neg (by omega)] at hx
      subst hx
      simp (disch := omega) only [fX6_addLeaf_78, e2, e3, e4, mx, Nat.add_zero, Int.add_zero, if_true, if_false, Option.bind_some, Option.map_some, ii_lit, ll_lit, ii_neg, ll_neg, ii_add, ii_sub, ii_mul, ll_add, ll_sub, ll_mul, ii_le, ii_lt, ii_eq, ii_t, bi_0, bi_1, rd_z, wr_z, rr_z, rl_z, wl_z, tn_n, st_s, st_j, st_i, st_c, st_2, sl_s, sl_j, sl_i, sl_c, sl_1, Int.natCast_add, Int.cast_ofNat_Int, if_pos, if_neg, decide_eq_false_iff_not, decide_eq_true_eq, in_ll, ii_long, Nat.zero_add, Nat.mul_zero, reduceCtorEq]
    · rw [if_pos (by omega)] at hx
      subst hx
      simp (disch := omega) only [fX6_addLeaf_78, e2, e3, e4, mx, if_true, if_false, Option.bind_some, Option.map_some, ii_lit, ll_lit, ii_neg, ll_neg, ii_add, ii_sub, ii_mul, ll_add, ll_sub, ll_mul, ii_le, ii_lt, ii_eq, ii_t, bi_0, bi_1, rd_z, wr_z, rr_z, rl_z, wl_z, tn_n, st_s, st_j, st_i, st_c, st_2, sl_s, sl_j, sl_i, sl_c, sl_1, Int.natCast_add, Int.cast_ofNat_Int, if_pos, if_neg, decide_eq_false_iff_not, decide_eq_true_eq, in_ll, ii_long, Nat.zero_add, Nat.mul_zero, reduceCtorEq]
  refine ⟨_, fin _ rfl, ?_, ?_, ?_, ?_, ?_, ?_, (((Fr.rf _ _ _).sL (by decide)).sI (by decide) (by decide)).sI (by decide) (by decide) |>.sI (by decide) (by decide)⟩
  · rw [st_j _ _ (by decide), st_j _ _ (by decide), st_s]
  · rw [st_j _ _ (by decide), st_s]
  · rw [st_s]
  · intro j hj
    rw [st_j _ _ (by omega), st_j _ _ (by omega), st_j _ _ (by omega)]
    rfl
  · show (stL σ 22 0 L (ll (lfk A.n (c, v)))).2 22 0 L = _
    rw [sl_s]
  · intro j hj
    show (stL σ 22 0 L (ll (lfk A.n (c, v)))).2 22 0 j = _
    rw [sl_j _ _ hj]
