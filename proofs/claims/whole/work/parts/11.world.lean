-- THE WORLD: which cells there are, by kind and instance, and what they hold
abbrev vwCl : List vw_C := [(RX0, TX0, 6), (RX1, TX1, 11), (RX2, TX2, 7), (RX3, TX3, 6), (RX4, TX4, 4), (RX5, TX5, 3), (RX6, TX6, 8), (RX7, TX7, 11), (RX8, TX8, 42)]
/-- an object's class, by its number, and how many fields it has -/
def kcls (c : Nat) : Option (Nat × Nat) := match c with
  | 0 => some (0, 6) | 1 => some (1, 11) | 2 => some (2, 7) | 3 => some (3, 6) | 4 => some (4, 4) | 5 => some (5, 3) | 6 => some (6, 8) | 7 => some (7, 11) | 32 => some (8, 42) | _ => none
/-- which cell a field points to -/
def kref (c i j : Nat) : Option (Nat × Nat) := match c with
  | 0 => (match j with | 1 => some (8, i) | 2 => some (9, i) | 3 => some (27, i) | 5 => some (28, i) | _ => none)
  | 1 => (match j with | 8 => some (12, 0) | 9 => some (13, 0) | 10 => some (14, 0) | _ => none)
  | 2 => (match j with | 0 => some (29, 0) | 1 => some (17, 0) | 4 => some (24, 0) | 5 => some (25, 0) | 6 => some (18, 0) | _ => none)
  | 3 => (match j with | 1 => some (21, 0) | _ => none)
  | 4 => (match j with | 3 => some (10, i) | _ => none)
  | 5 => (match j with | 2 => some (26, i) | _ => none)
  | 6 => (match j with | 5 => some (22, 0) | 6 => some (15, 0) | 7 => some (16, 0) | _ => none)
  | 7 => (match j with | 0 => some (0, 0) | 1 => some (0, 1) | 2 => some (0, 2) | 4 => some (1, 0) | 5 => some (6, 0) | 6 => some (2, 0) | 7 => some (3, 0) | 8 => some (30, 0) | 9 => some (19, 0) | 10 => some (20, 0) | _ => none)
  | 32 => (match j with | 0 => some (40, 0) | 2 => some (42, 0) | 3 => some (43, 0) | 5 => some (45, 0) | 6 => some (46, 0) | 7 => some (47, 0) | 8 => some (48, 0) | 9 => some (49, 0) | 10 => some (50, 0) | 15 => some (55, 0) | 16 => some (56, 0) | 17 => some (57, 0) | 22 => some (62, 0) | 23 => some (63, 0) | 25 => some (65, 0) | 26 => some (66, 0) | 27 => some (67, 0) | 34 => some (74, 0) | 35 => some (75, 0) | 36 => some (76, 0) | 37 => some (77, 0) | 38 => some (78, 0) | 39 => some (79, 0) | 40 => some (80, 0) | _ => none)
  | _ => none
/-- an array's sort (0 int, 1 long, 2 byte, 3 char, 4 rows, 5 sheets, 6 int[], 7 long[]) and length -/
def karr (c : Nat) : Nat × Nat := match c with
  | 8 => (0, 4) | 9 => (0, 4) | 10 => (0, 4) | 11 => (0, 4) | 12 => (0, 4096) | 13 => (0, 4) | 14 => (0, 4) | 15 => (0, 4) | 16 => (0, 4) | 17 => (0, 4) | 18 => (0, 4) | 19 => (0, 7) | 20 => (0, 4) | 21 => (2, 120)
  | 22 => (1, 4096) | 23 => (1, 4) | 24 => (1, 4) | 25 => (1, 4) | 26 => (1, 40) | 27 => (4, 8) | 28 => (6, 4) | 29 => (7, 4) | 30 => (5, 4)
  | 40 => (0, 7) | 42 => (0, 4) | 43 => (0, 4) | 45 => (0, 56) | 46 => (0, 16) | 47 => (0, 400) | 48 => (1, 4) | 49 => (0, 4096) | 50 => (0, 4096) | 55 => (0, 4) | 56 => (0, 4) | 57 => (0, 45056) | 62 => (0, 801) | 63 => (0, 16) | 65 => (1, 4) | 66 => (0, 4) | 67 => (0, 120) | 74 => (3, 80) | 75 => (0, 4) | 76 => (0, 4) | 77 => (1, 160) | 78 => (1, 40) | 79 => (0, 82) | 80 => (0, 82)
  | _ => (0, 0)
/-- what a place of an array of references points to -/
def kel (c i j : Nat) : Nat × Nat := match c with
  | 27 => (4, 8 * i + j) | 28 => (11, 4 * i + j) | 29 => (23, j) | 30 => (5, j) | _ => (0, 0)
def kinds : List (Nat × Nat) := [(0, 3), (1, 1), (2, 1), (3, 1), (4, 24), (5, 4), (6, 1), (7, 1), (8, 3), (9, 3), (10, 24), (11, 12), (12, 1), (13, 1), (14, 1), (15, 1), (16, 1), (17, 1), (18, 1), (19, 1), (20, 1), (21, 1), (22, 1), (23, 4), (24, 1), (25, 1), (26, 4), (27, 3), (28, 3), (29, 1), (30, 1), (32, 1), (40, 1), (42, 1), (43, 1), (45, 1), (46, 1), (47, 1), (48, 1), (49, 1), (50, 1), (55, 1), (56, 1), (57, 1), (62, 1), (63, 1), (65, 1), (66, 1), (67, 1), (74, 1), (75, 1), (76, 1), (77, 1), (78, 1), (79, 1), (80, 1)]
def allk : List (Nat × Nat) := kinds.flatMap (fun q => (List.range q.2).map (fun i => (q.1, i)))
theorem allk_nodup : allk.Nodup := by decide +kernel
theorem ink {c n i : Nat} (h : (c, n) ∈ kinds) (hi : i < n) : (c, i) ∈ allk := List.mem_flatMap.mpr ⟨(c, n), h, List.mem_map.mpr ⟨i, List.mem_range.mpr hi, rfl⟩⟩
def gI (M : mm × mm) (c : Nat) : Nat → Nat → Int32 := if c < 32 then M.1.1 c else M.2.1 c
def gL (M : mm × mm) (c : Nat) : Nat → Nat → Int64 := if c < 32 then M.1.2 c else M.2.2 c
def fcel (ad : Nat → Nat → Nat) (M : mm × mm) (c i j : Nat) : Value := match kref c i j with
  | some r => .ref (ad r.1 r.2)
  | none => .int (gI M c i j)
def acel (ad : Nat → Nat → Nat) (M : mm × mm) (c i : Nat) : (Nat → Int32) ⊕ (Nat → Int64) ⊕ (Nat → UInt32) ⊕ (Nat → UInt64) ⊕ (Nat → Option Nat) :=
  if (karr c).1 = 1 then .inr (.inl (gL M c i)) else if (karr c).1 < 4 then .inl (gI M c i) else .inr (.inr (.inr (.inr (fun j => some (ad (kel c i j).1 (kel c i j).2)))))
def cel (cA : Nat → ClassId) (ad : Nat → Nat → Nat) (M : mm × mm) (c i : Nat) : va_E := match kcls c with
  | some q => .inr (q.1, (List.range q.2).map (fun j => fcel ad M c i j))
  | none => .inl (cA (karr c).1, (karr c).2, acel ad M c i)
def wl (cA : Nat → ClassId) (ad : Nat → Nat → Nat) (M : mm × mm) : va_W := allk.map (fun q => (ad q.1 q.2, cel cA ad M q.1 q.2))
def tysw (cA : Nat → ClassId) : List (ClassId × FieldType) := [(cA 0, .int), (cA 1, .long), (cA 2, .byte), (cA 3, .char), (cA 4, .object "ThinBodies$Row"), (cA 5, .object "ThinBodies$Sheet"), (cA 6, .array .int), (cA 7, .array .long)]
def Aw (ad : Nat → Nat → Nat) : Nat → Prop := fun q => ∃ p ∈ allk, q = ad p.1 p.2
theorem wl_at {cA : Nat → ClassId} {ad : Nat → Nat → Nat} {M : mm × mm} {c i : Nat} (h : (c, i) ∈ allk) : ∃ k : Nat, allk[k]? = some (c, i) ∧ (wl cA ad M)[k]? = some (ad c i, cel cA ad M c i) := by
  obtain ⟨k, hk⟩ := List.getElem?_of_mem h
  exact ⟨k, hk, by unfold wl; rw [List.getElem?_map, hk]; rfl⟩
theorem map_set {α β : Type} {f g : α → β} {L : List α} {k : Nat} {x : α} (hn : L.Nodup) (hk : L[k]? = some x) (hfg : ∀ y ∈ L, y ≠ x → f y = g y) : (L.map f).set k (g x) = L.map g := by
  apply List.ext_getElem?
  intro j
  rw [List.getElem?_set]
  by_cases hj : k = j
  · subst hj
    rw [if_pos rfl, List.length_map, if_pos (List.getElem?_eq_some_iff.mp hk).1, List.getElem?_map, hk]
    rfl
  · rw [if_neg hj, List.getElem?_map, List.getElem?_map]
    cases hy : L[j]? with
    | none => rfl
    | some y =>
      simp only [Option.map_some]
      rw [hfg y (List.mem_of_getElem? hy) (fun e => hj ?_)]
      subst e
      exact (List.getElem?_inj (List.getElem?_eq_some_iff.mp hk).1 hn).mp (hk.trans hy.symm)
/-- one cell is written: the world of the new memory -/
theorem wl_set {cA : Nat → ClassId} {ad : Nat → Nat → Nat} {M M' : mm × mm} {c i k : Nat} (hk : allk[k]? = some (c, i)) (hx : ∀ c' i', (c', i') ≠ (c, i) → cel cA ad M c' i' = cel cA ad M' c' i') : (wl cA ad M).set k (ad c i, cel cA ad M' c i) = wl cA ad M' :=
  map_set (f := fun q : Nat × Nat => (ad q.1 q.2, cel cA ad M q.1 q.2)) (g := fun q : Nat × Nat => (ad q.1 q.2, cel cA ad M' q.1 q.2)) allk_nodup hk (fun y _ hy => by
    show (ad y.1 y.2, cel cA ad M y.1 y.2) = (ad y.1 y.2, cel cA ad M' y.1 y.2)
    rw [hx y.1 y.2 hy])
theorem up1_same {α : Type} (f : Nat → α) (k : Nat) (v : α) : up1 f k v k = v := if_pos rfl
theorem up1_ne {α : Type} (f : Nat → α) {k j : Nat} (v : α) (h : j ≠ k) : up1 f k v j = f j := if_neg h
theorem up3_ne {α : Type} (f : Nat → Nat → Nat → α) {c i c' i' : Nat} (j : Nat) (v : α) (h : (c', i') ≠ (c, i)) : up3 f c i j v c' i' = f c' i' := by
  unfold up3
  by_cases h1 : c' = c
  · subst h1
    rw [up1_same]
    exact up1_ne _ _ (fun e => h (by rw [e]))
  · rw [up1_ne _ _ h1]
theorem up3_same {α : Type} (f : Nat → Nat → Nat → α) (c i j : Nat) (v : α) : up3 f c i j v c i = up1 (f c i) j v := by
  unfold up3
  rw [up1_same, up1_same]
/-- what changes of the memory shows in one cell alone -/
theorem cel_ne {cA : Nat → ClassId} {ad : Nat → Nat → Nat} {M M' : mm × mm} {c i : Nat} (h1 : gI M c i = gI M' c i) (h2 : gL M c i = gL M' c i) : cel cA ad M c i = cel cA ad M' c i := by
  unfold cel acel fcel
  rw [h1, h2]
theorem gI_x (M : mm × mm) {c : Nat} (h : c < 32) : gI M c = M.1.1 c := if_pos h
theorem gI_m (M : mm × mm) {c : Nat} (h : ¬ c < 32) : gI M c = M.2.1 c := if_neg h
theorem gL_x (M : mm × mm) {c : Nat} (h : c < 32) : gL M c = M.1.2 c := if_pos h
theorem gL_m (M : mm × mm) {c : Nat} (h : ¬ c < 32) : gL M c = M.2.2 c := if_neg h
theorem cel_xI {cA : Nat → ClassId} {ad : Nat → Nat → Nat} {σ σ' τ : mm} {c i : Nat} {g : Nat → Int32} (hc : c < 32) (h : ∀ c' i', (c', i') ≠ (c, i) → σ.1 c' i' = σ'.1 c' i') (h2 : σ.2 = σ'.2) (c' i' : Nat) (hne : (c', i') ≠ (c, i)) : cel cA ad (σ, τ) c' i' = cel cA ad (σ', τ) c' i' := by
  apply cel_ne
  · unfold gI
    split
    · exact h c' i' hne
    · rfl
  · unfold gL
    split
    · show σ.2 c' i' = σ'.2 c' i'
      rw [h2]
    · rfl
theorem cel_mI {cA : Nat → ClassId} {ad : Nat → Nat → Nat} {σ τ τ' : mm} {c i : Nat} (h : ∀ c' i', (c', i') ≠ (c, i) → τ.1 c' i' = τ'.1 c' i') (h2 : ∀ c' i', (c', i') ≠ (c, i) → τ.2 c' i' = τ'.2 c' i') (c' i' : Nat) (hne : (c', i') ≠ (c, i)) : cel cA ad (σ, τ) c' i' = cel cA ad (σ, τ') c' i' := by
  apply cel_ne
  · unfold gI
    split
    · rfl
    · exact h c' i' hne
  · unfold gL
    split
    · rfl
    · exact h2 c' i' hne
theorem cel_x {cA : Nat → ClassId} {ad : Nat → Nat → Nat} {σ σ' τ : mm} {c i : Nat} (h : ∀ c' i', (c', i') ≠ (c, i) → σ.1 c' i' = σ'.1 c' i') (h2 : ∀ c' i', (c', i') ≠ (c, i) → σ.2 c' i' = σ'.2 c' i') (c' i' : Nat) (hne : (c', i') ≠ (c, i)) : cel cA ad (σ, τ) c' i' = cel cA ad (σ', τ) c' i' := by
  apply cel_ne
  · unfold gI
    split
    · exact h c' i' hne
    · rfl
  · unfold gL
    split
    · exact h2 c' i' hne
    · rfl
/-- the words that stay: all that the methods lean on -/
def tg : List Cond := lw_tbl.filter goodWord
theorem tg_of {w : Cond} (i : Nat) (h : lw_tbl[i]? = some w) (g : goodWord w = true) : w ∈ tg := List.mem_filter.mpr ⟨List.mem_of_getElem? h, g⟩
theorem tg_good {w : Cond} (h : w ∈ tg) : w ∈ lw_tbl ∧ ((w.onTables && w.keeps) = true ∨ ∃ ty, w = .arrayClass ty) := ⟨(List.mem_filter.mp h).1, good_of_word (List.mem_filter.mp h).2⟩
/-- what lies outside, and never changes: the static array (kind 90), the constants' texts (kinds 92, 93), two statics of the library -/
def xun : Nat → Value := fun j => .int ([-1, 0, 0, 1, 2, 0].getD j 0)
def xlen : List Nat := [7, 3, 5, 6, 3, 3, 4, 4, 3, 5]
def xtx : List String := ["letters", "box", "bound", "within", "row", "tie", "band", "comb", "off", "least"]
def xby : List (List Int32) := xtx.map (fun t => t.toList.map (fun c => Int32.ofNat c.toNat))
def xat : Nat → Nat := fun i => [73, 78, 130, 134, 57, 63, 65, 67, 69, 71].getD i 0
def xnM : List (String × Nat × MethodName × String) := [(RX1, 75, yX7_pack, RX7), (RX1, 90, yX7_unpack, RX7), (RX6, 97, yX7_pack, RX7), (RX6, 106, yX7_unpack, RX7), (RX4, 34, yX7_unpack, RX7)]
def xt (A : Nat → Prop) (ad : Nat → Nat → Nat) (U : State) (H : Heap) : Prop :=
  va_Z "ThinBodies" "UNDER" "[I" (.ref (ad 90 0)) A U H ∧ va_T .int (ad 90 0) 6 xun A U H ∧ vk_S 10 xlen xby (ad 92) (ad 93) A U H ∧ (∀ i, i < 10 → vk_R "ThinBodies$Reader" (xat i) (xtx.getD i "") (ad 92 i) U) ∧
  va_Z "java/lang/String" "COMPACT_STRINGS" "Z" (.int 1) A U H ∧ va_Zq "jdk/internal/util/Preconditions" "SIOOBE_FORMATTER" "Ljava/util/function/BiFunction;" A U H ∧
  (∀ q ∈ xnM, va_Nw (.methodLinkNest q.1 q.2.1 q.2.2.1 q.2.2.2) U) ∧ va_Nw (.fieldLinkNest RX4 31 RX7 "UNDER" "[I" RX7) U
theorem xt.warm {A : Nat → Prop} {ad : Nat → Nat → Nat} {s U : State} {H : Heap} (hW : s.WarmedH U.vm) (h : xt A ad s H) : xt A ad U H :=
  ⟨h.1.moved hW.alike, h.2.1.moved hW.alike, h.2.2.1.moved hW.alike, fun i hi => (h.2.2.2.1 i hi).warm hW, h.2.2.2.2.1.moved hW.alike, h.2.2.2.2.2.1.moved hW.alike, fun q hq => va_Nw.warmM hW (h.2.2.2.2.2.2.1 q hq), va_Nw.warmF hW h.2.2.2.2.2.2.2⟩
theorem xt.vm {A : Nat → Prop} {ad : Nat → Nat → Nat} {s U : State} {H : Heap} (hv : U.vm = s.vm) (h : xt A ad s H) : xt A ad U H :=
  have hA : s.vm.Alike U.vm := by rw [hv]; exact Vm.Alike.refl _
  ⟨h.1.moved hA, h.2.1.moved hA, h.2.2.1.moved hA, fun i hi => (h.2.2.2.1 i hi).same hv, h.2.2.2.2.1.moved hA, h.2.2.2.2.2.1.moved hA, fun q hq => va_Nw.same rfl hv.symm (h.2.2.2.2.2.2.1 q hq), va_Nw.same rfl hv.symm h.2.2.2.2.2.2.2⟩
theorem xt.kept {A : Nat → Prop} {ad : Nat → Nat → Nat} {U : State} {H H1 : Heap} (h : xt A ad U H) (hq : ∀ a : Nat, a < H.size → ¬ A a → H1[a]? = H[a]?) : xt A ad U H1 :=
  ⟨h.1.kept hq, h.2.1.kept hq, h.2.2.1.kept hq, h.2.2.2.1, h.2.2.2.2.1.kept hq, h.2.2.2.2.2.1.kept hq, h.2.2.2.2.2.2.1, h.2.2.2.2.2.2.2⟩
