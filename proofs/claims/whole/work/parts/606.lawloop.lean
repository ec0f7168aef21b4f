-- THE LAW'S LOOP
theorem i_n (x : Int32) : ∃ k : Nat, x = ii (k : Nat) := by
  refine ⟨x.toBitVec.toNat, ?_⟩
  rw [← ii_nat]
  apply Int32.toBitVec_inj.1
  rw [Int32.toBitVec_ofNat']
  simp
theorem and63 (x : Int32) : ∃ k : Nat, k < 64 ∧ x &&& 63 = ii (k : Nat) := by
  obtain ⟨k, rfl⟩ := i_n x
  refine ⟨k % 64, Nat.mod_lt _ (by decide), ?_⟩
  show ii (k : Nat) &&& ii ((63 : Nat) : Int) = _
  rw [and_n, show (63 : Nat) = 2 ^ 6 - 1 from rfl, Nat.and_two_pow_sub_one_eq_mod]
theorem law_next {L i : Nat} {xs : Nat → Int32} {M : mm × mm} (k : Lm L xs 18 (lvL (i + 6)) [] M) : Lm L xs 1504 (lvL i) [] M := by
  refine Lm.iinc (x := ii (i : Nat)) (v := ii ((i + 6 : Nat) : Int)) 0 dL_law_1504 rfl rfl (by show ii (i : Nat) + ii 6 = _; rw [ii_add]; rfl) (by decide) rfl ?_
  exact Lm.goto 18 dL_law_1507 (by decide) k
theorem law_sw {L i : Nat} {xs : Nat → Int32} {σ τ : mm} (hL : L ≤ 3072) (hi : i + 6 ≤ L) (h : Rel σ τ) (kk : ∀ σ' τ', Rel σ' τ' → Lm L xs 1504 (lvL i) [] (σ', τ')) {k : Nat} (hk : k < 64) : Lm L xs 33 (lvL i) [.inl (ii (k : Nat))] (σ, τ) := by
  have e : (ii (k : Nat)).toInt = (k : Int) := ii_t (by omega) (by omega)
  by_cases h45 : k < 45
  · have h1 : ¬ (ii (k : Nat)).toInt < 0 := by omega
    have h2 : ¬ (44 : Int) < (ii (k : Nat)).toInt := by omega
    have e2 : ((ii (k : Nat)).toInt - 0).toNat = k := by omega
    have hq : k = 0 ∨ k = 1 ∨ k = 2 ∨ k = 3 ∨ k = 4 ∨ k = 5 ∨ k = 6 ∨ k = 7 ∨ k = 8 ∨ k = 9 ∨ k = 10 ∨ k = 11 ∨ k = 12 ∨ k = 13 ∨ k = 14 ∨ k = 15 ∨ k = 16 ∨ k = 17 ∨ k = 18 ∨ k = 19 ∨ k = 20 ∨ k = 21 ∨ k = 22 ∨ k = 23 ∨ k = 24 ∨ k = 25 ∨ k = 26 ∨ k = 27 ∨ k = 28 ∨ k = 29 ∨ k = 30 ∨ k = 31 ∨ k = 32 ∨ k = 33 ∨ k = 34 ∨ k = 35 ∨ k = 36 ∨ k = 37 ∨ k = 38 ∨ k = 39 ∨ k = 40 ∨ k = 41 ∨ k = 42 ∨ k = 43 ∨ k = 44 := by omega
    rcases hq with rfl | rfl | rfl | rfl | rfl | rfl | rfl | rfl | rfl | rfl | rfl | rfl | rfl | rfl | rfl | rfl | rfl | rfl | rfl | rfl | rfl | rfl | rfl | rfl | rfl | rfl | rfl | rfl | rfl | rfl | rfl | rfl | rfl | rfl | rfl | rfl | rfl | rfl | rfl | rfl | rfl | rfl | rfl | rfl | rfl
    · exact Lm.tableIn 228 dL_law_33 h1 h2 (off := 195) (by rw [e2]; rfl) (by decide) (law_letters hL hi h kk)
    · exact Lm.tableIn 251 dL_law_33 h1 h2 (off := 218) (by rw [e2]; rfl) (by decide) (law_box hL hi h kk)
    · exact Lm.tableIn 294 dL_law_33 h1 h2 (off := 261) (by rw [e2]; rfl) (by decide) (law_boxOf hL hi h kk)
    · exact Lm.tableIn 327 dL_law_33 h1 h2 (off := 294) (by rw [e2]; rfl) (by decide) (law_row hL hi h kk)
    · exact Lm.tableIn 370 dL_law_33 h1 h2 (off := 337) (by rw [e2]; rfl) (by decide) (law_of hL hi h kk)
    · exact Lm.tableIn 403 dL_law_33 h1 h2 (off := 370) (by rw [e2]; rfl) (by decide) (law_change hL hi h kk)
    · exact Lm.tableIn 446 dL_law_33 h1 h2 (off := 413) (by rw [e2]; rfl) (by decide) (law_as hL hi h kk)
    · exact Lm.tableIn 479 dL_law_33 h1 h2 (off := 446) (by rw [e2]; rfl) (by decide) (law_drop hL hi h kk)
    · exact Lm.tableIn 492 dL_law_33 h1 h2 (off := 459) (by rw [e2]; rfl) (by decide) (law_many hL hi h kk)
    · exact Lm.tableIn 505 dL_law_33 h1 h2 (off := 472) (by rw [e2]; rfl) (by decide) (law_point hL hi h kk)
    · exact Lm.tableIn 538 dL_law_33 h1 h2 (off := 505) (by rw [e2]; rfl) (by decide) (law_holds hL hi h kk)
    · exact Lm.tableIn 561 dL_law_33 h1 h2 (off := 528) (by rw [e2]; rfl) (by decide) (law_best hL hi h kk)
    · exact Lm.tableIn 594 dL_law_33 h1 h2 (off := 561) (by rw [e2]; rfl) (by decide) (law_thin hL hi h kk)
    · exact Lm.tableIn 617 dL_law_33 h1 h2 (off := 584) (by rw [e2]; rfl) (by decide) (law_mean hL hi h kk)
    · exact Lm.tableIn 650 dL_law_33 h1 h2 (off := 617) (by rw [e2]; rfl) (by decide) (law_round hL hi h kk)
    · exact Lm.tableIn 673 dL_law_33 h1 h2 (off := 640) (by rw [e2]; rfl) (by decide) (law_tree hL hi h kk)
    · exact Lm.tableIn 696 dL_law_33 h1 h2 (off := 663) (by rw [e2]; rfl) (by decide) (law_leaf hL hi h kk)
    · exact Lm.tableIn 729 dL_law_33 h1 h2 (off := 696) (by rw [e2]; rfl) (by decide) (law_side hL hi h kk)
    · exact Lm.tableIn 772 dL_law_33 h1 h2 (off := 739) (by rw [e2]; rfl) (by decide) (law_where hL hi h kk)
    · exact Lm.tableIn 795 dL_law_33 h1 h2 (off := 762) (by rw [e2]; rfl) (by decide) (law_judge hL hi h kk)
    · exact Lm.tableIn 818 dL_law_33 h1 h2 (off := 785) (by rw [e2]; rfl) (by decide) (law_needs hL hi h kk)
    · exact Lm.tableIn 831 dL_law_33 h1 h2 (off := 798) (by rw [e2]; rfl) (by decide) (law_without hL hi h kk)
    · exact Lm.tableIn 844 dL_law_33 h1 h2 (off := 811) (by rw [e2]; rfl) (by decide) (law_kind hL hi h kk)
    · exact Lm.tableIn 867 dL_law_33 h1 h2 (off := 834) (by rw [e2]; rfl) (by decide) (law_boundFor hL hi h kk)
    · exact Lm.tableIn 890 dL_law_33 h1 h2 (off := 857) (by rw [e2]; rfl) (by decide) (law_base hL hi h kk)
    · exact Lm.tableIn 933 dL_law_33 h1 h2 (off := 900) (by rw [e2]; rfl) (by decide) (law_baseOf hL hi h kk)
    · exact Lm.tableIn 966 dL_law_33 h1 h2 (off := 933) (by rw [e2]; rfl) (by decide) (law_mix hL hi h kk)
    · exact Lm.tableIn 1009 dL_law_33 h1 h2 (off := 976) (by rw [e2]; rfl) (by decide) (law_swap hL hi h kk)
    · exact Lm.tableIn 1042 dL_law_33 h1 h2 (off := 1009) (by rw [e2]; rfl) (by decide) (law_det hL hi h kk)
    · exact Lm.tableIn 1055 dL_law_33 h1 h2 (off := 1022) (by rw [e2]; rfl) (by decide) (law_form hL hi h kk)
    · exact Lm.tableIn 1088 dL_law_33 h1 h2 (off := 1055) (by rw [e2]; rfl) (by decide) (law_shortest hL hi h kk)
    · exact Lm.tableIn 1111 dL_law_33 h1 h2 (off := 1078) (by rw [e2]; rfl) (by decide) (law_common hL hi h kk)
    · exact Lm.tableIn 1124 dL_law_33 h1 h2 (off := 1091) (by rw [e2]; rfl) (by decide) (law_lies hL hi h kk)
    · exact Lm.tableIn 1147 dL_law_33 h1 h2 (off := 1114) (by rw [e2]; rfl) (by decide) (law_feed hL hi h kk)
    · exact Lm.tableIn 1180 dL_law_33 h1 h2 (off := 1147) (by rw [e2]; rfl) (by decide) (law_wipe hL hi h kk)
    · exact Lm.tableIn 1193 dL_law_33 h1 h2 (off := 1160) (by rw [e2]; rfl) (by decide) (law_text hL hi h kk)
    · exact Lm.tableIn 1206 dL_law_33 h1 h2 (off := 1173) (by rw [e2]; rfl) (by decide) (law_sheet hL hi h kk)
    · exact Lm.tableIn 1249 dL_law_33 h1 h2 (off := 1216) (by rw [e2]; rfl) (by decide) (law_write hL hi h kk)
    · exact Lm.tableIn 1323 dL_law_33 h1 h2 (off := 1290) (by rw [e2]; rfl) (by decide) (law_copy hL hi h kk)
    · exact Lm.tableIn 1386 dL_law_33 h1 h2 (off := 1353) (by rw [e2]; rfl) (by decide) (law_lays hL hi h kk)
    · exact Lm.tableIn 1419 dL_law_33 h1 h2 (off := 1386) (by rw [e2]; rfl) (by decide) (law_image hL hi h kk)
    · exact Lm.tableIn 1432 dL_law_33 h1 h2 (off := 1399) (by rw [e2]; rfl) (by decide) (law_undo hL hi h kk)
    · exact Lm.tableIn 1445 dL_law_33 h1 h2 (off := 1412) (by rw [e2]; rfl) (by decide) (law_tear hL hi h kk)
    · exact Lm.tableIn 1458 dL_law_33 h1 h2 (off := 1425) (by rw [e2]; rfl) (by decide) (law_count hL hi h kk)
    · exact Lm.tableIn 1481 dL_law_33 h1 h2 (off := 1448) (by rw [e2]; rfl) (by decide) (law_status hL hi h kk)
  · exact Lm.tableOut 1504 dL_law_33 (Or.inr (by omega)) (by decide) (kk σ τ h)
theorem law_go {L : Nat} {xs : Nat → Int32} (hL : L ≤ 3072) : ∀ n i σ τ, i ≤ L → L ≤ i + n → Rel σ τ → Lm L xs 18 (lvL i) [] (σ, τ) := by
  intro n
  induction n with
  | zero =>
    intro i σ τ h1 h2 h
    refine Lm.iload_n (x := ii (i : Nat)) 0 dL_law_18 rfl rfl ?_
    refine Lm.aload_n (x := (94, 0)) 3 dL_law_19 rfl rfl ?_
    refine Lm.slen dL_law_20 rfl ?_
    refine Lm.bipush (v := (6 : Int32)) dL_law_21 rfl (by decide) ?_
    refine Lm.isub (z := ii ((L : Int) - 6)) dL_law_23 rfl (by rw [ii_nat, ii_lit, ii_sub]) ?_
    refine Lm.icmp_gt 1510 dL_law_24 (by decide) rfl (fun _ => ?_) (fun h => absurd (by rw [ii_lt (by omega) (by omega) (by omega) (by omega)]; omega) h)
    refine Lm.iconst (v := (1 : Int32)) dL_law_1510 rfl (by decide) ?_
    exact Lm.ret1 dL_law_1511
  | succ n ih =>
    intro i σ τ h1 h2 h
    refine Lm.iload_n (x := ii (i : Nat)) 0 dL_law_18 rfl rfl ?_
    refine Lm.aload_n (x := (94, 0)) 3 dL_law_19 rfl rfl ?_
    refine Lm.slen dL_law_20 rfl ?_
    refine Lm.bipush (v := (6 : Int32)) dL_law_21 rfl (by decide) ?_
    refine Lm.isub (z := ii ((L : Int) - 6)) dL_law_23 rfl (by rw [ii_nat, ii_lit, ii_sub]) ?_
    refine Lm.icmp_gt 1510 dL_law_24 (by decide) rfl (fun _ => ?_) (fun hg => ?_)
    · refine Lm.iconst (v := (1 : Int32)) dL_law_1510 rfl (by decide) ?_
      exact Lm.ret1 dL_law_1511
    · rw [ii_lt (by omega) (by omega) (by omega) (by omega)] at hg
      have hi : i + 6 ≤ L := by omega
      refine Lm.aload_n (x := (94, 0)) 3 dL_law_27 rfl rfl ?_
      refine Lm.iload_n (x := ii (i : Nat)) 0 dL_law_28 rfl rfl ?_
      refine Lm.sld (j := i) dL_law_29 rfl (ii_t (by omega) (by omega)) (by omega) ?_
      refine Lm.bipush (v := (63 : Int32)) dL_law_30 rfl (by decide) ?_
      obtain ⟨k, hk, ek⟩ := and63 (xs i)
      refine Lm.iand (z := ii (k : Nat)) dL_law_32 rfl ek ?_
      exact law_sw hL hi h (fun σ' τ' hr => law_next (ih (i + 6) σ' τ' hi (by omega) hr)) hk
