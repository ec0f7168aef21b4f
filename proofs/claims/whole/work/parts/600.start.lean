-- THE START: the cells of both objects, by kind and instance
def EX0 : List gc := [.inl (7, [.inr (some (1)), .inr (some (26)), .inr (some (51)), .inl 0, .inr (some (76)), .inr (some (80)), .inr (some (84)), .inr (some (94)), .inr (some (96)), .inr (some (97)), .inr (some (98))]), .inl (0, [.inl 2, .inr (some (2)), .inr (some (3)), .inr (some (4)), .inl 0, .inr (some (5))]), .inr (.inl (0, 4, [])), .inr (.inl (0, 4, [3, 3, 3, 3])), .inr (.inr (4, 8, [some (10), some (12), some (14), some (16), some (18), some (20), some (22), some (24)])), .inr (.inr (6, 4, [some (6), some (7), some (8), some (9)])), .inr (.inl (0, 4, [1, 0, 0, 0])), .inr (.inl (0, 4, [0, 1, 0, 0])), .inr (.inl (0, 4, [0, 0, 1, 0])), .inr (.inl (0, 4, [0, 0, 0, 1])), .inl (4, [.inl 0, .inl 0, .inl 1, .inr (some (11))]), .inr (.inl (0, 4, [])), .inl (4, [.inl 0, .inl 0, .inl 1, .inr (some (13))]), .inr (.inl (0, 4, [])), .inl (4, [.inl 0, .inl 0, .inl 1, .inr (some (15))]), .inr (.inl (0, 4, [])), .inl (4, [.inl 0, .inl 0, .inl 1, .inr (some (17))]), .inr (.inl (0, 4, [])), .inl (4, [.inl 0, .inl 0, .inl 1, .inr (some (19))]), .inr (.inl (0, 4, [])), .inl (4, [.inl 0, .inl 0, .inl 1, .inr (some (21))]), .inr (.inl (0, 4, [])), .inl (4, [.inl 0, .inl 0, .inl 1, .inr (some (23))]), .inr (.inl (0, 4, [])), .inl (4, [.inl 0, .inl 0, .inl 1, .inr (some (25))]), .inr (.inl (0, 4, [])), .inl (0, [.inl 2, .inr (some (27)), .inr (some (28)), .inr (some (29)), .inl 0, .inr (some (30))]), .inr (.inl (0, 4, [])), .inr (.inl (0, 4, [3, 3, 3, 3])), .inr (.inr (4, 8, [some (35), some (37), some (39), some (41), some (43), some (45), some (47), some (49)])), .inr (.inr (6, 4, [some (31), some (32), some (33), some (34)])), .inr (.inl (0, 4, [1, 0, 0, 0])), .inr (.inl (0, 4, [0, 1, 0, 0])), .inr (.inl (0, 4, [0, 0, 1, 0])), .inr (.inl (0, 4, [0, 0, 0, 1])), .inl (4, [.inl 0, .inl 0, .inl 1, .inr (some (36))]), .inr (.inl (0, 4, [])), .inl (4, [.inl 0, .inl 0, .inl 1, .inr (some (38))]), .inr (.inl (0, 4, [])), .inl (4, [.inl 0, .inl 0, .inl 1, .inr (some (40))]), .inr (.inl (0, 4, [])), .inl (4, [.inl 0, .inl 0, .inl 1, .inr (some (42))]), .inr (.inl (0, 4, [])), .inl (4, [.inl 0, .inl 0, .inl 1, .inr (some (44))]), .inr (.inl (0, 4, [])), .inl (4, [.inl 0, .inl 0, .inl 1, .inr (some (46))]), .inr (.inl (0, 4, [])), .inl (4, [.inl 0, .inl 0, .inl 1, .inr (some (48))]), .inr (.inl (0, 4, [])), .inl (4, [.inl 0, .inl 0, .inl 1, .inr (some (50))]), .inr (.inl (0, 4, [])), .inl (0, [.inl 2, .inr (some (52)), .inr (some (53)), .inr (some (54)), .inl 0, .inr (some (55))]), .inr (.inl (0, 4, [])), .inr (.inl (0, 4, [3, 3, 3, 3])), .inr (.inr (4, 8, [some (60), some (62), some (64), some (66), some (68), some (70), some (72), some (74)])), .inr (.inr (6, 4, [some (56), some (57), some (58), some (59)])), .inr (.inl (0, 4, [1, 0, 0, 0])), .inr (.inl (0, 4, [0, 1, 0, 0])), .inr (.inl (0, 4, [0, 0, 1, 0])), .inr (.inl (0, 4, [0, 0, 0, 1])), .inl (4, [.inl 0, .inl 0, .inl 1, .inr (some (61))]), .inr (.inl (0, 4, [])), .inl (4, [.inl 0, .inl 0, .inl 1, .inr (some (63))]), .inr (.inl (0, 4, [])), .inl (4, [.inl 0, .inl 0, .inl 1, .inr (some (65))]), .inr (.inl (0, 4, [])), .inl (4, [.inl 0, .inl 0, .inl 1, .inr (some (67))]), .inr (.inl (0, 4, [])), .inl (4, [.inl 0, .inl 0, .inl 1, .inr (some (69))]), .inr (.inl (0, 4, [])), .inl (4, [.inl 0, .inl 0, .inl 1, .inr (some (71))]), .inr (.inl (0, 4, [])), .inl (4, [.inl 0, .inl 0, .inl 1, .inr (some (73))]), .inr (.inl (0, 4, [])), .inl (4, [.inl 0, .inl 0, .inl 1, .inr (some (75))]), .inr (.inl (0, 4, [])), .inl (1, [.inl 1, .inl 0, .inl 0, .inl 0, .inl 0, .inl 0, .inl 0, .inl (-1), .inr (some (77)), .inr (some (78)), .inr (some (79))]), .inr (.inl (0, 4096, [])), .inr (.inl (0, 4, [])), .inr (.inl (0, 4, [])), .inl (6, [.inl 1, .inl 0, .inl 0, .inl 0, .inl 0, .inr (some (81)), .inr (some (82)), .inr (some (83))]), .inr (.inl (1, 4096, [])), .inr (.inl (0, 4, [])), .inr (.inl (0, 4, [])), .inl (2, [.inr (some (85)), .inr (some (90)), .inl 0, .inl 0, .inr (some (91)), .inr (some (92)), .inr (some (93))]), .inr (.inr (7, 4, [some (86), some (87), some (88), some (89)])), .inr (.inl (1, 4, [])), .inr (.inl (1, 4, [])), .inr (.inl (1, 4, [])), .inr (.inl (1, 4, [])), .inr (.inl (0, 4, [])), .inr (.inl (1, 4, [])), .inr (.inl (1, 4, [])), .inr (.inl (0, 4, [])), .inl (3, [.inl 0, .inr (some (95)), .inl 0, .inl 0, .inl 0, .inl 0]), .inr (.inl (2, 120, [])), .inr (.inr (5, 4, [some (99), some (101), some (103), some (105)])), .inr (.inl (0, 7, [])), .inr (.inl (0, 4, [])), .inl (5, [.inl 0, .inl 0, .inr (some (100))]), .inr (.inl (1, 40, [])), .inl (5, [.inl 0, .inl 0, .inr (some (102))]), .inr (.inl (1, 40, [])), .inl (5, [.inl 0, .inl 0, .inr (some (104))]), .inr (.inl (1, 40, [])), .inl (5, [.inl 0, .inl 0, .inr (some (106))]), .inr (.inl (1, 40, []))]
def EM0 : List gc := [.inl (8, [.inr (some (108)), .inl 2, .inr (some (109)), .inr (some (110)), .inl 0, .inr (some (111)), .inr (some (112)), .inr (some (113)), .inr (some (114)), .inr (some (115)), .inr (some (116)), .inl 0, .inl 0, .inl 0, .inl 0, .inr (some (117)), .inr (some (118)), .inr (some (119)), .inl 0, .inl 0, .inl 0, .inl 0, .inr (some (120)), .inr (some (121)), .inl 0, .inr (some (122)), .inr (some (123)), .inr (some (124)), .inl 0, .inl 0, .inl 0, .inl 0, .inl 0, .inl 0, .inr (some (125)), .inr (some (126)), .inr (some (127)), .inr (some (128)), .inr (some (129)), .inr (some (130)), .inr (some (131)), .inl 0]), .inr (.inl (0, 7, [])), .inr (.inl (0, 4, [])), .inr (.inl (0, 4, [3, 3, 3, 3])), .inr (.inl (0, 56, [])), .inr (.inl (0, 16, [1, 0, 0, 0, 0, 1, 0, 0, 0, 0, 1, 0, 0, 0, 0, 1])), .inr (.inl (0, 400, [])), .inr (.inl (1, 4, [])), .inr (.inl (0, 4096, [])), .inr (.inl (0, 4096, [])), .inr (.inl (0, 4, [])), .inr (.inl (0, 4, [])), .inr (.inl (0, 45056, [])), .inr (.inl (0, 801, [])), .inr (.inl (0, 16, [])), .inr (.inl (1, 4, [])), .inr (.inl (0, 4, [])), .inr (.inl (0, 120, [])), .inr (.inl (3, 80, [114, 111, 119, 32, 32, 32, 32, 32, 116, 105, 101, 32, 32, 32, 32, 32, 98, 97, 110, 100, 32, 32, 32, 32, 99, 111, 109, 98, 32, 32, 32, 32, 111, 102, 102, 32, 32, 32, 32, 32, 108, 101, 97, 115, 116, 32, 32, 32, 108, 101, 116, 116, 101, 114, 115, 32, 98, 111, 120, 32, 32, 32, 32, 32, 98, 111, 117, 110, 100, 32, 32, 32, 119, 105, 116, 104, 105, 110, 32, 32])), .inr (.inl (0, 4, [])), .inr (.inl (0, 4, [])), .inr (.inl (1, 160, [])), .inr (.inl (1, 40, [])), .inr (.inl (0, 82, [])), .inr (.inl (0, 82, []))]
def E0 : List gc := EX0 ++ EM0
def adt : List (List Nat) := [[1, 26, 51], [76], [84], [94], [10, 12, 14, 16, 18, 20, 22, 24, 35, 37, 39, 41, 43, 45, 47, 49, 60, 62, 64, 66, 68, 70, 72, 74], [99, 101, 103, 105], [80], [0], [2, 27, 52], [3, 28, 53], [11, 13, 15, 17, 19, 21, 23, 25, 36, 38, 40, 42, 44, 46, 48, 50, 61, 63, 65, 67, 69, 71, 73, 75], [6, 7, 8, 9, 31, 32, 33, 34, 56, 57, 58, 59], [77], [78], [79], [82], [83], [90], [93], [97], [98], [95], [81], [86, 87, 88, 89], [91], [92], [100, 102, 104, 106], [4, 29, 54], [5, 30, 55], [85], [96], [], [107], [], [], [], [], [], [], [], [108], [], [109], [110], [], [111], [112], [113], [114], [115], [116], [], [], [], [], [117], [118], [119], [], [], [], [], [120], [121], [], [122], [123], [124], [], [], [], [], [], [], [125], [126], [127], [128], [129], [130], [131]]
def adp (c i : Nat) : Nat := (adt.getD c []).getD i 0
def f0 (c i j : Nat) : Int32 := match E0[adp c i]? with
  | some (.inl o) => (match o.2[j]? with | some (.inl x) => x | _ => 0)
  | some (.inr (.inl a)) => a.2.2.getD j 0
  | _ => 0
def l0 (c i : Nat) : List Int32 := match E0[adp c i]? with
  | some (.inr (.inl a)) => a.2.2
  | _ => []
/-- the memory at the start -/
def S0 : mm := (f0, fun _ _ _ => 0)
def g0 (c i : Nat) : gc := match kcls c with
  | some q => .inl (q.1, (List.range q.2).map (fun j => match kref c i j with | some r => .inr (some (adp r.1 r.2)) | none => .inl (f0 c i j)))
  | none => if (karr c).1 < 4 then .inr (.inl ((karr c).1, (karr c).2, l0 c i)) else .inr (.inr ((karr c).1, (karr c).2, (List.range (karr c).2).map (fun j => some (adp (kel c i j).1 (kel c i j).2))))
def oq (a b : Option Nat) : Bool := match a, b with
  | none, none => true
  | some x, some y => Nat.beq x y
  | _, _ => false
theorem oq_eq {a b : Option Nat} (h : oq a b = true) : a = b := by
  cases a <;> cases b
  · rfl
  · cases h
  · cases h
  · exact congrArg some (Nat.eq_of_beq_eq_true h)
def gvq (a b : gv) : Bool := match a, b with
  | .inl x, .inl y => decide (x = y)
  | .inr x, .inr y => oq x y
  | _, _ => false
theorem gvq_eq {a b : gv} (h : gvq a b = true) : a = b := by
  rcases a with x | x <;> rcases b with y | y
  · exact congrArg Sum.inl (of_decide_eq_true h)
  · cases h
  · cases h
  · exact congrArg Sum.inr (oq_eq h)
def lq {α : Type} (f : α → α → Bool) : List α → List α → Bool
  | [], [] => true
  | a :: l, b :: m => f a b && lq f l m
  | _, _ => false
theorem lq_eq {α : Type} {f : α → α → Bool} (hf : ∀ a b, f a b = true → a = b) : ∀ (l m : List α), lq f l m = true → l = m
  | [], [], _ => rfl
  | a :: l, b :: m, h => by
    unfold lq at h
    rw [Bool.and_eq_true] at h
    rw [hf a b h.1, lq_eq hf l m h.2]
  | [], b :: m, h => by cases h
  | a :: l, [], h => by cases h
def gcq (a b : gc) : Bool := match a, b with
  | .inl x, .inl y => Nat.beq x.1 y.1 && lq gvq x.2 y.2
  | .inr (.inl x), .inr (.inl y) => Nat.beq x.1 y.1 && (Nat.beq x.2.1 y.2.1 && lq (fun a b => decide (a = b)) x.2.2 y.2.2)
  | .inr (.inr x), .inr (.inr y) => Nat.beq x.1 y.1 && (Nat.beq x.2.1 y.2.1 && lq oq x.2.2 y.2.2)
  | _, _ => false
theorem gcq_eq {a b : gc} (h : gcq a b = true) : a = b := by
  rcases a with ⟨x1, x2⟩ | ⟨x1, x2, x3⟩ | ⟨x1, x2, x3⟩ <;> rcases b with ⟨y1, y2⟩ | ⟨y1, y2, y3⟩ | ⟨y1, y2, y3⟩
  · have h : (Nat.beq x1 y1 && lq gvq x2 y2) = true := h
    rw [Bool.and_eq_true] at h
    rw [Nat.eq_of_beq_eq_true h.1, lq_eq (fun a b => gvq_eq) _ _ h.2]
  · cases h
  · cases h
  · cases h
  · have h : (Nat.beq x1 y1 && (Nat.beq x2 y2 && lq (fun a b => decide (a = b)) x3 y3)) = true := h
    rw [Bool.and_eq_true, Bool.and_eq_true] at h
    rw [Nat.eq_of_beq_eq_true h.1, Nat.eq_of_beq_eq_true h.2.1, lq_eq (fun a b h => of_decide_eq_true h) _ _ h.2.2]
  · cases h
  · cases h
  · cases h
  · have h : (Nat.beq x1 y1 && (Nat.beq x2 y2 && lq oq x3 y3)) = true := h
    rw [Bool.and_eq_true, Bool.and_eq_true] at h
    rw [Nat.eq_of_beq_eq_true h.1, Nat.eq_of_beq_eq_true h.2.1, lq_eq (fun a b => oq_eq) _ _ h.2.2]
theorem chk8 : (allk.all fun q => Nat.blt (adp q.1 q.2) E0.length && gcq (E0.getD (adp q.1 q.2) (.inr (.inl (0, 0, [])))) (g0 q.1 q.2)) = true := by decide +kernel
theorem chk9 (q : Nat × Nat) (hq : q ∈ allk) : adp q.1 q.2 < E0.length ∧ E0.getD (adp q.1 q.2) (.inr (.inl (0, 0, []))) = g0 q.1 q.2 := by
  have h := List.all_eq_true.mp chk8 q hq
  rw [Bool.and_eq_true] at h
  exact ⟨Nat.blt_eq.mp h.1, gcq_eq h.2⟩
theorem chk0 (q : Nat × Nat) (hq : q ∈ allk) : E0[adp q.1 q.2]? = some (g0 q.1 q.2) := by
  obtain ⟨h1, h2⟩ := chk9 q hq
  rw [List.getD_eq_getElem?_getD] at h2
  rw [List.getElem?_eq_getElem h1] at h2 ⊢
  exact congrArg some h2
theorem chk1 : allk.length = E0.length ∧ (allk.map (fun q => adp q.1 q.2)).Nodup := by decide +kernel
theorem chk2 : ∀ q ∈ allk, kcls q.1 = none → (karr q.1).1 = 1 → l0 q.1 q.2 = [] := by decide +kernel
theorem f0_arr {c i : Nat} (h : (c, i) ∈ allk) (hk : kcls c = none) (h4 : (karr c).1 < 4) (j : Nat) : f0 c i j = (l0 c i).getD j 0 := by
  have h1 := chk0 (c, i) h
  unfold g0 at h1
  simp only [hk, h4, if_true] at h1
  unfold f0
  rw [h1]
theorem arr_cong (cI : ClassId) {N : Nat} {f g : Nat → Value} (h : ∀ j, j < N → f j = g j) : arrV cI N f = arrV cI N g := by
  unfold arrV
  congr 1
  apply congrArg
  funext j
  exact h j.val j.isLt
theorem kref_lt {c i j : Nat} {r : Nat × Nat} (h : kref c i j = some r) : r.1 < 90 := by
  unfold kref at h
  split at h <;> (try split at h) <;> cases h <;> (simp only []; omega)
theorem kel_lt (c i j : Nat) : (kel c i j).1 < 90 := by
  unfold kel
  split <;> (simp only []; omega)
/-- the addresses: those of the two objects' cells from b on, and what lies outside -/
def adx (b : Nat) (xa : Nat → Nat → Nat) (c i : Nat) : Nat := if c < 90 then b + adp c i else xa c i
theorem adx_l {b : Nat} {xa : Nat → Nat → Nat} {c i : Nat} (h : c < 90) : adx b xa c i = b + adp c i := if_pos h
theorem gtv_f {b : Nat} {xa : Nat → Nat → Nat} (c i j : Nat) : gtv b (match kref c i j with | some r => .inr (some (adp r.1 r.2)) | none => .inl (f0 c i j)) = fcel (adx b xa) (S0, S0) c i j := by
  unfold fcel
  cases h : kref c i j with
  | none =>
    show Value.int (f0 c i j) = Value.int (gI (S0, S0) c i j)
    unfold gI
    split <;> rfl
  | some r =>
    show Value.ref (b + adp r.1 r.2) = Value.ref (adx b xa r.1 r.2)
    rw [adx_l (kref_lt h)]
theorem allk_lt : ∀ q ∈ allk, q.1 < 90 := by decide +kernel
theorem start_at {D : va_G} {cA : Nat → ClassId} {b : Nat} {xa : Nat → Nat → Nat} {H : Heap} (h : va_P D vwCl (gw cA b E0) H) : va_P D vwCl (wl cA (adx b xa) (S0, S0)) H := by
  intro k q hk
  unfold wl at hk
  rw [List.getElem?_map] at hk
  cases hy : allk[k]? with
  | none => rw [hy] at hk; cases hk
  | some y =>
    rw [hy] at hk
    cases hk
    obtain ⟨c, i⟩ := y
    have hin : (c, i) ∈ allk := List.mem_of_getElem? hy
    have h1 := h (adp c i) _ (gw_at (chk0 (c, i) hin))
    have hc : c < 90 := allk_lt (c, i) hin
    show va_at D vwCl (adx b xa c i, cel cA (adx b xa) (S0, S0) c i) H
    rw [adx_l hc]
    have h1 : va_at D vwCl (b + adp c i, gce cA b (g0 c i)) H := h1
    unfold g0 at h1
    unfold cel
    cases hkc : kcls c with
    | some r =>
      rw [hkc] at h1
      simp only [] at h1 ⊢
      have e : gce cA b (.inl (r.1, (List.range r.2).map (fun j => match kref c i j with | some r => .inr (some (adp r.1 r.2)) | none => .inl (f0 c i j)))) = .inr (r.1, (List.range r.2).map (fun j => fcel (adx b xa) (S0, S0) c i j)) := by
        show Sum.inr (r.1, ((List.range r.2).map (fun j => (match kref c i j with | some r => .inr (some (adp r.1 r.2)) | none => .inl (f0 c i j) : gv))).map (gtv b)) = _
        rw [List.map_map]
        congr 2
        apply List.map_congr_left
        intro j _
        exact gtv_f c i j
      rw [e] at h1
      exact h1
    | none =>
      rw [hkc] at h1
      simp only [] at h1 ⊢
      unfold acel
      by_cases h4 : (karr c).1 < 4
      · rw [if_pos h4] at h1
        by_cases hl : (karr c).1 = 1
        · rw [if_pos hl]
          have e : gL (S0, S0) c i = fun _ => 0 := by
            unfold gL
            split <;> rfl
          rw [e]
          have h2 : va_at D vwCl (b + adp c i, .inl (cA (karr c).1, (karr c).2, if (karr c).1 = 1 then .inr (.inl (fun _ => 0)) else .inl (fun j => (l0 c i).getD j 0))) H := h1
          rw [if_pos hl] at h2
          exact h2
        · rw [if_neg hl, if_pos h4]
          have e : gI (S0, S0) c i = fun j => (l0 c i).getD j 0 := by
            funext j
            rw [← f0_arr hin hkc h4 j]
            unfold gI
            split <;> rfl
          rw [e]
          have h2 : va_at D vwCl (b + adp c i, .inl (cA (karr c).1, (karr c).2, if (karr c).1 = 1 then .inr (.inl (fun _ => 0)) else .inl (fun j => (l0 c i).getD j 0))) H := h1
          rw [if_neg hl] at h2
          exact h2
      · rw [if_neg h4] at h1
        rw [if_neg (by omega), if_neg h4]
        have h2 : H[b + adp c i]? = some (vp_cell (cA (karr c).1) ((karr c).2, .inr (.inr (.inr (.inr (fun j => (((List.range (karr c).2).map (fun j => some (adp (kel c i j).1 (kel c i j).2))).getD j none).map (fun p => b + p))))))) := h1
        show H[b + adp c i]? = some (vp_cell (cA (karr c).1) ((karr c).2, .inr (.inr (.inr (.inr (fun j => some (adx b xa (kel c i j).1 (kel c i j).2)))))))
        rw [h2, vp_cell_q, vp_cell_q]
        refine congrArg some (arr_cong _ (fun j hj => ?_))
        rw [List.getD_eq_getElem?_getD, List.getElem?_map, List.getElem?_range hj, adx_l (kel_lt c i j)]
        rfl
theorem start_D {cA : Nat → ClassId} {b : Nat} {xa : Nat → Nat → Nat} (M : mm × mm) : va_D (Aw (adx b xa)) (wl cA (adx b xa) M) := by
  have key : ∀ (k : Nat) (q : Nat × va_E), (wl cA (adx b xa) M)[k]? = some q → ∃ y, allk[k]? = some y ∧ q.1 = b + adp y.1 y.2 := by
    intro k q hk
    unfold wl at hk
    rw [List.getElem?_map] at hk
    cases hy : allk[k]? with
    | none => rw [hy] at hk; cases hk
    | some y =>
      rw [hy] at hk
      cases hk
      exact ⟨y, rfl, adx_l (allk_lt y (List.mem_of_getElem? hy))⟩
  refine ⟨fun i j p q hi hj hpq => ?_, fun k q hk => ?_⟩
  · obtain ⟨y, h1, h2⟩ := key i p hi
    obtain ⟨z, h3, h4⟩ := key j q hj
    have e : adp y.1 y.2 = adp z.1 z.2 := by omega
    have n := chk1.2
    have a1 : (allk.map (fun q => adp q.1 q.2))[i]? = some (adp y.1 y.2) := by rw [List.getElem?_map, h1]; rfl
    have a2 : (allk.map (fun q => adp q.1 q.2))[j]? = some (adp y.1 y.2) := by rw [List.getElem?_map, h3, e]; rfl
    exact (List.getElem?_inj (List.getElem?_eq_some_iff.mp a1).1 n).mp (a1.trans a2.symm)
  · obtain ⟨y, h1, h2⟩ := key k q hk
    exact ⟨y, List.mem_of_getElem? h1, by rw [h2, adx_l (allk_lt y (List.mem_of_getElem? h1))]⟩
theorem start_A {b : Nat} {xa : Nat → Nat → Nat} {q : Nat} (h : Aw (adx b xa) q) : b ≤ q := by
  obtain ⟨y, h1, h2⟩ := h
  rw [h2, adx_l (allk_lt y h1)]
  exact Nat.le_add_right _ _
-- the start is related to the start
def A0 : bdy := (2, 0, fun _ => 0, fun _ => 3, fun _ _ => 0, fun v l => if v = l then 1 else 0)
theorem st_lo : ∀ l : Fin 4, f0 8 0 l.val = ii 0 ∧ f0 42 0 l.val = ii 0 ∧ f0 9 0 l.val = ii 3 ∧ f0 43 0 l.val = ii 3 := by decide +kernel
theorem st_ve : ∀ v l : Fin 4, f0 11 (4 * 0 + v.val) l.val = ii (if v.val = l.val then 1 else 0) ∧ f0 46 0 (4 * v.val + l.val) = ii (if v.val = l.val then 1 else 0) := by decide +kernel
theorem st_fs : f0 0 0 0 = ii 2 ∧ f0 0 0 4 = ii 0 ∧ f0 32 0 1 = ii 2 ∧ f0 32 0 4 = ii 0 ∧ f0 1 0 0 = ii 1 ∧ f0 6 0 0 = ii 1 ∧ f0 7 0 3 = ii 0 ∧ f0 32 0 41 = ii 0 ∧ f0 3 0 0 = ii 0 ∧ f0 32 0 28 = ii 0 := by decide +kernel
theorem st_sh : ∀ s : Fin 4, f0 5 s.val 0 = ii 0 ∧ f0 75 0 s.val = ii 0 ∧ f0 5 s.val 1 = ii 0 ∧ f0 76 0 s.val = ii 0 := by decide +kernel
theorem st_fd : ∀ k : Fin 7, f0 19 0 k.val = f0 40 0 k.val := by decide +kernel
theorem st_wd : ∀ k : Fin 80, f0 74 0 k.val = ii (wrd.getD k.val 0) := by decide +kernel
theorem start_rel : Rel S0 S0 := by
  obtain ⟨a1, a2, a3, a4, a5, a6, a7, a8, a9, a10⟩ := st_fs
  refine ⟨A0, ⟨⟨⟨by decide, by decide⟩, a1, a2, fun l hl => (st_lo ⟨l, hl⟩).1, fun l hl => (st_lo ⟨l, hl⟩).2.2.1, fun r w hr => absurd hr (Nat.not_lt_zero r), fun r w hr => absurd hr (Nat.not_lt_zero r), fun v l hv hl => (st_ve ⟨v, hv⟩ ⟨l, hl⟩).1⟩,
    ⟨⟨by decide, by decide⟩, a3, a4, fun l hl => (st_lo ⟨l, hl⟩).2.1, fun l hl => (st_lo ⟨l, hl⟩).2.2.2, fun r w hr => absurd hr (Nat.not_lt_zero r), fun v l hv hl => (st_ve ⟨v, hv⟩ ⟨l, hl⟩).2⟩,
    ⟨by decide, by decide⟩, by decide, fun l hl => ?_, fun r hr => absurd hr (Nat.not_lt_zero r), fun v l hv hl => ?_, by decide⟩, ⟨Or.inl a5, Or.inl a6⟩, Or.inl ⟨a7, a8⟩, ⟨0, fun _ => 0, by decide, a9, a10, fun k hk => absurd hk (Nat.not_lt_zero k)⟩, fun s hs => ⟨0, 0, Or.inl rfl, by omega, (st_sh ⟨s, hs⟩).1, (st_sh ⟨s, hs⟩).2.1, (st_sh ⟨s, hs⟩).2.2.1, (st_sh ⟨s, hs⟩).2.2.2, fun i hi => rfl⟩, fun k hk => st_fd ⟨k, hk⟩, fun k hk => st_wd ⟨k, hk⟩⟩
  · show -9 ≤ (0 : Int) ∧ (0 : Int) ≤ 3 ∧ (3 : Int) ≤ 9
    omega
  · show -4 ≤ (if v = l then (1 : Int) else 0) ∧ (if v = l then (1 : Int) else 0) ≤ 4
    split <;> omega

