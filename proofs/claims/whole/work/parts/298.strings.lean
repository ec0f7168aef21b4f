-- String.length and String.charAt of the constants
theorem dJ0_length_8abf5_0 : decode cJ0_length_8abf5 0 = .ok (.aload_n 0, 1) := by decide +kernel
theorem dJ0_length_8abf5_1 : decode cJ0_length_8abf5 1 = .ok (.getfield 9, 3) := by decide +kernel
theorem dJ0_length_8abf5_4 : decode cJ0_length_8abf5 4 = .ok (.arraylength, 1) := by decide +kernel
theorem dJ0_length_8abf5_5 : decode cJ0_length_8abf5 5 = .ok (.aload_n 0, 1) := by decide +kernel
theorem dJ0_length_8abf5_6 : decode cJ0_length_8abf5 6 = .ok (.invokevirtual 335, 3) := by decide +kernel
theorem dJ0_length_8abf5_9 : decode cJ0_length_8abf5 9 = .ok (.ishr, 1) := by decide +kernel
theorem dJ0_length_8abf5_10 : decode cJ0_length_8abf5 10 = .ok (.ireturn, 1) := by decide +kernel
theorem dJ0_charAt_5068e_0 : decode cJ0_charAt_5068e 0 = .ok (.aload_n 0, 1) := by decide +kernel
theorem dJ0_charAt_5068e_1 : decode cJ0_charAt_5068e 1 = .ok (.invokevirtual 492, 3) := by decide +kernel
theorem dJ0_charAt_5068e_4 : decode cJ0_charAt_5068e 4 = .ok (.ifCond .eq 12, 3) := by decide +kernel
theorem dJ0_charAt_5068e_7 : decode cJ0_charAt_5068e 7 = .ok (.aload_n 0, 1) := by decide +kernel
theorem dJ0_charAt_5068e_8 : decode cJ0_charAt_5068e 8 = .ok (.getfield 9, 3) := by decide +kernel
theorem dJ0_charAt_5068e_11 : decode cJ0_charAt_5068e 11 = .ok (.iload_n 1, 1) := by decide +kernel
theorem dJ0_charAt_5068e_12 : decode cJ0_charAt_5068e 12 = .ok (.invokestatic 495, 3) := by decide +kernel
theorem dJ0_charAt_5068e_15 : decode cJ0_charAt_5068e 15 = .ok (.ireturn, 1) := by decide +kernel
theorem dJ0_charAt_5068e_16 : decode cJ0_charAt_5068e 16 = .ok (.aload_n 0, 1) := by decide +kernel
theorem dJ0_charAt_5068e_17 : decode cJ0_charAt_5068e 17 = .ok (.getfield 9, 3) := by decide +kernel
theorem dJ0_charAt_5068e_20 : decode cJ0_charAt_5068e 20 = .ok (.iload_n 1, 1) := by decide +kernel
theorem dJ0_charAt_5068e_21 : decode cJ0_charAt_5068e 21 = .ok (.invokestatic 498, 3) := by decide +kernel
theorem dJ0_charAt_5068e_24 : decode cJ0_charAt_5068e 24 = .ok (.ireturn, 1) := by decide +kernel
theorem dJ0_coder_7d493_0 : decode cJ0_coder_7d493 0 = .ok (.getstatic 38, 3) := by decide +kernel
theorem dJ0_coder_7d493_3 : decode cJ0_coder_7d493 3 = .ok (.ifCond .eq 10, 3) := by decide +kernel
theorem dJ0_coder_7d493_6 : decode cJ0_coder_7d493 6 = .ok (.aload_n 0, 1) := by decide +kernel
theorem dJ0_coder_7d493_7 : decode cJ0_coder_7d493 7 = .ok (.getfield 15, 3) := by decide +kernel
theorem dJ0_coder_7d493_10 : decode cJ0_coder_7d493 10 = .ok (.goto 4, 3) := by decide +kernel
theorem dJ0_coder_7d493_13 : decode cJ0_coder_7d493 13 = .ok (.iconst 1, 1) := by decide +kernel
theorem dJ0_coder_7d493_14 : decode cJ0_coder_7d493 14 = .ok (.ireturn, 1) := by decide +kernel
theorem dJ0_isLatin1_aae02_0 : decode cJ0_isLatin1_aae02 0 = .ok (.getstatic 38, 3) := by decide +kernel
theorem dJ0_isLatin1_aae02_3 : decode cJ0_isLatin1_aae02 3 = .ok (.ifCond .eq 14, 3) := by decide +kernel
theorem dJ0_isLatin1_aae02_6 : decode cJ0_isLatin1_aae02 6 = .ok (.aload_n 0, 1) := by decide +kernel
theorem dJ0_isLatin1_aae02_7 : decode cJ0_isLatin1_aae02 7 = .ok (.getfield 15, 3) := by decide +kernel
theorem dJ0_isLatin1_aae02_10 : decode cJ0_isLatin1_aae02 10 = .ok (.ifCond .ne 7, 3) := by decide +kernel
theorem dJ0_isLatin1_aae02_13 : decode cJ0_isLatin1_aae02 13 = .ok (.iconst 1, 1) := by decide +kernel
theorem dJ0_isLatin1_aae02_14 : decode cJ0_isLatin1_aae02 14 = .ok (.goto 4, 3) := by decide +kernel
theorem dJ0_isLatin1_aae02_17 : decode cJ0_isLatin1_aae02 17 = .ok (.iconst 0, 1) := by decide +kernel
theorem dJ0_isLatin1_aae02_18 : decode cJ0_isLatin1_aae02 18 = .ok (.ireturn, 1) := by decide +kernel
theorem dJ0_checkIndex_df160_0 : decode cJ0_checkIndex_df160 0 = .ok (.iload_n 0, 1) := by decide +kernel
theorem dJ0_checkIndex_df160_1 : decode cJ0_checkIndex_df160 1 = .ok (.iload_n 1, 1) := by decide +kernel
theorem dJ0_checkIndex_df160_2 : decode cJ0_checkIndex_df160 2 = .ok (.getstatic 1053, 3) := by decide +kernel
theorem dJ0_checkIndex_df160_5 : decode cJ0_checkIndex_df160 5 = .ok (.invokestatic 1059, 3) := by decide +kernel
theorem dJ0_checkIndex_df160_8 : decode cJ0_checkIndex_df160 8 = .ok (.pop, 1) := by decide +kernel
theorem dJ0_checkIndex_df160_9 : decode cJ0_checkIndex_df160 9 = .ok (.return_, 1) := by decide +kernel
theorem dJ1_charAt_3b067_0 : decode cJ1_charAt_3b067 0 = .ok (.iload_n 1, 1) := by decide +kernel
theorem dJ1_charAt_3b067_1 : decode cJ1_charAt_3b067 1 = .ok (.aload_n 0, 1) := by decide +kernel
theorem dJ1_charAt_3b067_2 : decode cJ1_charAt_3b067 2 = .ok (.arraylength, 1) := by decide +kernel
theorem dJ1_charAt_3b067_3 : decode cJ1_charAt_3b067 3 = .ok (.invokestatic 9, 3) := by decide +kernel
theorem dJ1_charAt_3b067_6 : decode cJ1_charAt_3b067 6 = .ok (.aload_n 0, 1) := by decide +kernel
theorem dJ1_charAt_3b067_7 : decode cJ1_charAt_3b067 7 = .ok (.iload_n 1, 1) := by decide +kernel
theorem dJ1_charAt_3b067_8 : decode cJ1_charAt_3b067 8 = .ok (.baload, 1) := by decide +kernel
theorem dJ1_charAt_3b067_9 : decode cJ1_charAt_3b067 9 = .ok (.sipush 255, 3) := by decide +kernel
theorem dJ1_charAt_3b067_12 : decode cJ1_charAt_3b067 12 = .ok (.iand, 1) := by decide +kernel
theorem dJ1_charAt_3b067_13 : decode cJ1_charAt_3b067 13 = .ok (.i2c, 1) := by decide +kernel
theorem dJ1_charAt_3b067_14 : decode cJ1_charAt_3b067 14 = .ok (.ireturn, 1) := by decide +kernel
theorem dJ3_checkIndex_8e157_0 : decode cJ3_checkIndex_8e157 0 = .ok (.iload_n 0, 1) := by decide +kernel
theorem dJ3_checkIndex_8e157_1 : decode cJ3_checkIndex_8e157 1 = .ok (.ifCond .lt 8, 3) := by decide +kernel
theorem dJ3_checkIndex_8e157_4 : decode cJ3_checkIndex_8e157 4 = .ok (.iload_n 0, 1) := by decide +kernel
theorem dJ3_checkIndex_8e157_5 : decode cJ3_checkIndex_8e157 5 = .ok (.iload_n 1, 1) := by decide +kernel
theorem dJ3_checkIndex_8e157_6 : decode cJ3_checkIndex_8e157 6 = .ok (.if_icmp .lt 10, 3) := by decide +kernel
theorem dJ3_checkIndex_8e157_9 : decode cJ3_checkIndex_8e157 9 = .ok (.aload_n 2, 1) := by decide +kernel
theorem dJ3_checkIndex_8e157_10 : decode cJ3_checkIndex_8e157 10 = .ok (.iload_n 0, 1) := by decide +kernel
theorem dJ3_checkIndex_8e157_11 : decode cJ3_checkIndex_8e157 11 = .ok (.iload_n 1, 1) := by decide +kernel
theorem dJ3_checkIndex_8e157_12 : decode cJ3_checkIndex_8e157 12 = .ok (.invokestatic 95, 3) := by decide +kernel
theorem dJ3_checkIndex_8e157_15 : decode cJ3_checkIndex_8e157 15 = .ok (.athrow, 1) := by decide +kernel
theorem dJ3_checkIndex_8e157_16 : decode cJ3_checkIndex_8e157 16 = .ok (.iload_n 0, 1) := by decide +kernel
theorem dJ3_checkIndex_8e157_17 : decode cJ3_checkIndex_8e157 17 = .ok (.ireturn, 1) := by decide +kernel
theorem ts_920 : Cond.code yJ0_length_8abf5 cJ0_length_8abf5 1 (some .int) ∈ tg := tg_of 920 (by decide +kernel) rfl
theorem ts_924 : Cond.code yJ0_coder_7d493 cJ0_coder_7d493 1 (some .byte) ∈ tg := tg_of 924 (by decide +kernel) rfl
theorem ts_930 : Cond.code yJ0_charAt_5068e cJ0_charAt_5068e 2 (some .char) ∈ tg := tg_of 930 (by decide +kernel) rfl
theorem ts_934 : Cond.code yJ0_isLatin1_aae02 cJ0_isLatin1_aae02 1 (some .boolean) ∈ tg := tg_of 934 (by decide +kernel) rfl
theorem ts_940 : Cond.code yJ0_checkIndex_df160 cJ0_checkIndex_df160 2 none ∈ tg := tg_of 940 (by decide +kernel) rfl
theorem ts_937 : Cond.code yJ1_charAt_3b067 cJ1_charAt_3b067 2 (some .char) ∈ tg := tg_of 937 (by decide +kernel) rfl
theorem ts_945 : Cond.code yJ3_checkIndex_8e157 cJ3_checkIndex_8e157 3 (some .int) ∈ tg := tg_of 945 (by decide +kernel) rfl
theorem ts_921 : Cond.methodLink RJ0 335 yJ0_coder_7d493 ∈ tg := tg_of 921 (by decide +kernel) rfl
theorem ts_922 : Cond.instanceMethod yJ0_coder_7d493 ∈ tg := tg_of 922 (by decide +kernel) rfl
theorem ts_923 : Cond.selects RJ0 yJ0_coder_7d493 yJ0_coder_7d493 ∈ tg := tg_of 923 (by decide +kernel) rfl
theorem ts_97 : Cond.initialized RJ0 ∈ tg := tg_of 97 (by decide +kernel) rfl
theorem ts_931 : Cond.methodLink RJ0 492 yJ0_isLatin1_aae02 ∈ tg := tg_of 931 (by decide +kernel) rfl
theorem ts_932 : Cond.instanceMethod yJ0_isLatin1_aae02 ∈ tg := tg_of 932 (by decide +kernel) rfl
theorem ts_933 : Cond.selects RJ0 yJ0_isLatin1_aae02 yJ0_isLatin1_aae02 ∈ tg := tg_of 933 (by decide +kernel) rfl
theorem ts_935 : Cond.methodLink RJ0 495 yJ1_charAt_3b067 ∈ tg := tg_of 935 (by decide +kernel) rfl
theorem ts_936 : Cond.static yJ1_charAt_3b067 ∈ tg := tg_of 936 (by decide +kernel) rfl
theorem ts_98 : Cond.initialized RJ1 ∈ tg := tg_of 98 (by decide +kernel) rfl
theorem ts_938 : Cond.methodLink RJ1 9 yJ0_checkIndex_df160 ∈ tg := tg_of 938 (by decide +kernel) rfl
theorem ts_939 : Cond.static yJ0_checkIndex_df160 ∈ tg := tg_of 939 (by decide +kernel) rfl
theorem ts_943 : Cond.methodLink RJ0 1059 yJ3_checkIndex_8e157 ∈ tg := tg_of 943 (by decide +kernel) rfl
theorem ts_944 : Cond.static yJ3_checkIndex_8e157 ∈ tg := tg_of 944 (by decide +kernel) rfl
theorem ts_99 : Cond.initialized RJ3 ∈ tg := tg_of 99 (by decide +kernel) rfl
theorem ts_1625 : Cond.fieldLink RJ0 9 RJ0 "value" "[B" ∈ tg := tg_of 1625 (by decide +kernel) rfl
theorem ts_1626 : Cond.fieldLink RJ0 15 RJ0 "coder" "B" ∈ tg := tg_of 1626 (by decide +kernel) rfl
theorem ts_925 : Cond.fieldLink RJ0 38 RJ0 "COMPACT_STRINGS" "Z" ∈ tg := tg_of 925 (by decide +kernel) rfl
theorem ts_941 : Cond.fieldLink RJ0 1053 RJ3 "SIOOBE_FORMATTER" "Ljava/util/function/BiFunction;" ∈ tg := tg_of 941 (by decide +kernel) rfl
def mJ0_length_8abf5 : md := (yJ0_length_8abf5, cJ0_length_8abf5, 1, (some .int))
theorem omJ0_length_8abf5 : okm mJ0_length_8abf5 0 := ⟨ts_920, by decide +kernel, Nat.le_of_ble_eq_true rfl⟩
def mJ0_coder_7d493 : md := (yJ0_coder_7d493, cJ0_coder_7d493, 1, (some .byte))
theorem omJ0_coder_7d493 : okm mJ0_coder_7d493 0 := ⟨ts_924, by decide +kernel, Nat.le_of_ble_eq_true rfl⟩
def mJ0_charAt_5068e : md := (yJ0_charAt_5068e, cJ0_charAt_5068e, 2, (some .char))
theorem omJ0_charAt_5068e : okm mJ0_charAt_5068e 1 := ⟨ts_930, by decide +kernel, Nat.le_of_ble_eq_true rfl⟩
def mJ0_isLatin1_aae02 : md := (yJ0_isLatin1_aae02, cJ0_isLatin1_aae02, 1, (some .boolean))
theorem omJ0_isLatin1_aae02 : okm mJ0_isLatin1_aae02 0 := ⟨ts_934, by decide +kernel, Nat.le_of_ble_eq_true rfl⟩
def mJ0_checkIndex_df160 : md := (yJ0_checkIndex_df160, cJ0_checkIndex_df160, 2, none)
theorem omJ0_checkIndex_df160 : okm mJ0_checkIndex_df160 2 := ⟨ts_940, by decide +kernel, Nat.le_of_ble_eq_true rfl⟩
def mJ1_charAt_3b067 : md := (yJ1_charAt_3b067, cJ1_charAt_3b067, 2, (some .char))
theorem omJ1_charAt_3b067 : okm mJ1_charAt_3b067 2 := ⟨ts_937, by decide +kernel, Nat.le_of_ble_eq_true rfl⟩
def mJ3_checkIndex_8e157 : md := (yJ3_checkIndex_8e157, cJ3_checkIndex_8e157, 3, (some .int))
theorem omJ3_checkIndex_8e157 : okm mJ3_checkIndex_8e157 3 := ⟨ts_945, by decide +kernel, Nat.le_of_ble_eq_true rfl⟩
theorem wv_RJ0_335 : okV RJ0 335 yJ0_coder_7d493 := ⟨ts_921, ts_922, ts_923, ts_97⟩
theorem wv_RJ0_492 : okV RJ0 492 yJ0_isLatin1_aae02 := ⟨ts_931, ts_932, ts_933, ts_97⟩
theorem wv_RJ0_495 : okS RJ0 495 yJ1_charAt_3b067 := ⟨ts_935, ts_936, ts_98⟩
theorem wv_RJ1_9 : okS RJ1 9 yJ0_checkIndex_df160 := ⟨ts_938, ts_939, ts_97⟩
theorem wv_RJ0_1059 : okS RJ0 1059 yJ3_checkIndex_8e157 := ⟨ts_943, ts_944, ts_99⟩
theorem wx_9 : Cond.fieldLink RJ0 9 "java/lang/String" "value" "[B" ∈ tg := ts_1625
theorem wx_15 : Cond.fieldLink RJ0 15 "java/lang/String" "coder" "B" ∈ tg := ts_1626
theorem wx_38 : Cond.fieldLink RJ0 38 "java/lang/String" "COMPACT_STRINGS" "Z" ∈ tg := ts_925
theorem wx_1053 : Cond.fieldLink RJ0 1053 "jdk/internal/util/Preconditions" "SIOOBE_FORMATTER" "Ljava/util/function/BiFunction;" ∈ tg := ts_941
section VST
variable {X Y : md} {d d' pc n idx np w : Nat} {lv : List (Nat × mv)} {st rest as : List mv} {M M' M1 : mm × mm} {r r1 : Option mv}
theorem Vm.getSv (hd : decode X.2.1 pc = .ok (.getfield 9, 3)) (hn : pc + 3 = n) (ho : X.1.cls = RJ0) (hw : w < 10) (k : Vm X d n lv (.inr (.inr (93, w)) :: st) M r M') : Vm X d pc lv (.inr (.inr (92, w)) :: st) M r M' := by
  subst hn
  intro p l e R s m args below meth c D cA ad H locs ls C hP hD hS hl0
  exact vk_getf (own := RJ0) C.1 C.2.1 (C.2.2.2.2.2.2.2.2.2.2.2.1.1 w hw).2.2.1 hS (by rw [← ho]; exact C.2.2.2.1) (C.2.2.2.2.1 _ (List.mem_cons_of_mem _ wx_9)) (fun _ h => h) hd (k p l e R s m args below meth c D cA ad H locs ls C hP hD hS hl0)
theorem Vm.getSc (hd : decode X.2.1 pc = .ok (.getfield 15, 3)) (hn : pc + 3 = n) (ho : X.1.cls = RJ0) (hw : w < 10) (k : Vm X d n lv (.inl 0 :: st) M r M') : Vm X d pc lv (.inr (.inr (92, w)) :: st) M r M' := by
  subst hn
  intro p l e R s m args below meth c D cA ad H locs ls C hP hD hS hl0
  exact vk_getf (own := RJ0) C.1 C.2.1 (C.2.2.2.2.2.2.2.2.2.2.2.1.1 w hw).2.1 hS (by rw [← ho]; exact C.2.2.2.1) (C.2.2.2.2.1 _ (List.mem_cons_of_mem _ wx_15)) (fun _ h => h) hd (k p l e R s m args below meth c D cA ad H locs ls C hP hD hS hl0)
theorem Vm.getCS (hd : decode X.2.1 pc = .ok (.getstatic 38, 3)) (hn : pc + 3 = n) (ho : X.1.cls = RJ0) (k : Vm X d n lv (.inl 1 :: st) M r M') : Vm X d pc lv st M r M' := by
  subst hn
  intro p l e R s m args below meth c D cA ad H locs ls C hP hD hS hl0
  exact va_gets (own := RJ0) C.1 C.2.1 C.2.2.2.2.2.2.2.2.2.2.2.2.2.1 hS (by rw [← ho]; exact C.2.2.2.1) (C.2.2.2.2.1 _ (List.mem_cons_of_mem _ wx_38)) (fun _ h => h) hd (k p l e R s m args below meth c D cA ad H locs ls C hP hD hS hl0)
theorem Vm.alenS (hd : decode X.2.1 pc = .ok (.arraylength, 1)) (hn : pc + 1 = n) (hw : w < 10) (k : Vm X d n lv (.inl (xln w) :: st) M r M') : Vm X d pc lv (.inr (.inr (93, w)) :: st) M r M' := by
  subst hn
  intro p l e R s m args below meth c D cA ad H locs ls C hP hD hS hl0
  exact va_tlen C.1 C.2.1 (C.2.2.2.2.2.2.2.2.2.2.2.1.1 w hw).2.2.2 hS rfl hd (k p l e R s m args below meth c D cA ad H locs ls C hP hD hS hl0)
theorem Vm.baldS {x v : Int32} (hd : decode X.2.1 pc = .ok (.baload, 1)) (hn : pc + 1 = n) (hw : w < 10) (h : xch w x = some v) (k : Vm X d n lv (.inl v :: st) M r M') : Vm X d pc lv (.inl x :: .inr (.inr (93, w)) :: st) M r M' := by
  subst hn
  unfold xch at h
  split at h
  · rename_i hin
    cases h
    intro p l e R s m args below meth c D cA ad H locs ls C hP hD hS hl0
    exact va_tb C.1 C.2.1 (C.2.2.2.2.2.2.2.2.2.2.2.1.1 w hw).2.2.2 hS (in_of hin) rfl hd (k p l e R s m args below meth c D cA ad H locs ls C hP hD hS hl0)
  · cases h
theorem Vm.callE {v : mv} (as : List mv) (hd : decode X.2.1 pc = .ok (.invokevirtual idx, 3)) (hn : pc + 3 = n) (hw : okV X.1.cls idx Y.1) (hY : okm Y np) (hlen : as.length = np) (hi : w < 10) (hcl : Y.1.cls = "java/lang/String") (hst : st = as.reverse ++ .inr (.inr (92, w)) :: rest) (hroom : (rest.map mcat).sum ≤ 8) (hdd : d' + 1 ≤ d) (hC : Cx Y d' (.inr (.inr (92, w)) :: as) M (some v) M1) (k : Vm X d n lv (v :: rest) M1 r M') : Vm X d pc lv st M r M' := by
  refine Vm.callB (M := M) (st := st) (r1 := some v) k hn ?_
  intro p l e R s m args below meth co D cA ad H locs ls C hP hD hS hl0
  refine ⟨(tv ad (.inr (.inr (92, w))) :: as.map (tv ad)).toArray, ?_⟩
  have hR := C.2.2.2.2.2.2.2.1
  refine va_runV (C := Y.1.cls) (b := ad 92 w) (As := as.map (tv ad)) (n := np) ⟨C.1, C.2.1, C.2.2.1, C.2.2.2.1, C.2.2.2.2.1⟩ (hC l D cA ad) ⟨ctx_cb C hY hw.1 hw.2.2.2 hdd, C.2.2.2.2.1 _ (List.mem_cons_of_mem _ hw.2.1), C.2.2.2.2.1 _ (List.mem_cons_of_mem _ hw.2.2.1)⟩ ⟨Pcm_blind, ?_, fun U hU hW => ⟨rfl, ctx_pre C hP hD hS U hU hW⟩⟩ rfl (by rw [List.length_map]; exact hlen) hl0.1 ?_ (lv_room (by rw [mcat_sum]; exact hroom)) hd ⟨by rw [hR]; exact Nat.le_refl _, by rw [hR]; exact Nat.le_refl _⟩
  · rw [hcl]
    exact vk_recv C.2.2.2.2.2.2.2.2.2.2.2.1 hi hS
  · rw [hst, List.map_append, List.map_reverse]
    rfl
/-- a byte or char answer -/
theorem Vm.nret {v : Int32} {ty : FieldType} (hd : decode X.2.1 pc = .ok (.ireturn, 1)) (hr : X.2.2.2 = some ty) (hv : narrow ty (.int v) = .int v) (h1 : r = some (.inl v)) (h2 : M = M') : Vm X d pc lv [.inl v] M r M' := by
  subst h1
  subst h2
  intro p l e R s m args below meth c D cA ad H locs ls C hP hD hS hl0
  exact W.zret C.1 C.2.1 (C.2.2.2.2.2.1.trans hr) hv (fun t ht hW => ⟨rfl, by rw [ht]; exact hP, hS.F ht⟩) hS.2.2 hd (hlocks := C.2.2.2.2.2.2.1)
end VST
theorem kJ_coder {w : Nat} {M : mm × mm} (hw : w < 10) : Cx mJ0_coder_7d493 0 [.inr (.inr (92, w))] M (some (.inl 0)) M := by
  refine Cx.ofF (lv := [(0, .inr (.inr (92, w)))]) (by decide +kernel) (fun ad => Nat.le_of_ble_eq_true rfl) (fun ad => rfl) ?_
  refine Vm.getCS (n := 3) dJ0_coder_7d493_0 rfl rfl ?_
  refine Vm.if_eq (n := 6) 13 dJ0_coder_7d493_3 rfl rfl (fun c => absurd c (by decide)) (fun _ => ?_)
  refine Vm.aload_n (n := 7) 0 dJ0_coder_7d493_6 rfl rfl ?_
  refine Vm.getSc (n := 10) dJ0_coder_7d493_7 rfl rfl hw ?_
  refine Vm.goto 14 dJ0_coder_7d493_10 rfl ?_
  exact Vm.nret (ty := .byte) dJ0_coder_7d493_14 rfl rfl rfl rfl
theorem kJ_length {w : Nat} {M : mm × mm} (hw : w < 10) : Cx mJ0_length_8abf5 1 [.inr (.inr (92, w))] M (some (.inl (xln w))) M := by
  refine Cx.ofF (lv := [(0, .inr (.inr (92, w)))]) (by decide +kernel) (fun ad => Nat.le_of_ble_eq_true rfl) (fun ad => rfl) ?_
  refine Vm.aload_n (n := 1) 0 dJ0_length_8abf5_0 rfl rfl ?_
  refine Vm.getSv (n := 4) dJ0_length_8abf5_1 rfl rfl hw ?_
  refine Vm.alenS (n := 5) dJ0_length_8abf5_4 rfl hw ?_
  refine Vm.aload_n (n := 6) 0 dJ0_length_8abf5_5 rfl rfl ?_
  refine Vm.callE (Y := mJ0_coder_7d493) (n := 9) [] dJ0_length_8abf5_6 rfl wv_RJ0_335 omJ0_coder_7d493 rfl hw rfl rfl (Nat.le_of_ble_eq_true rfl) (by decide) (kJ_coder hw) ?_
  refine Vm.ishr (n := 10) dJ0_length_8abf5_9 rfl ?_
  have e : xln w >>> ((0 : Int32) &&& 31) = xln w := by
    rcases (show w = 0 ∨ w = 1 ∨ w = 2 ∨ w = 3 ∨ w = 4 ∨ w = 5 ∨ w = 6 ∨ w = 7 ∨ w = 8 ∨ w = 9 by omega) with rfl | rfl | rfl | rfl | rfl | rfl | rfl | rfl | rfl | rfl <;> decide
  refine Vm.top e ?_
  exact Vm.iret dJ0_length_8abf5_10 rfl rfl rfl
theorem kJ_latin {w : Nat} {M : mm × mm} (hw : w < 10) : Cx mJ0_isLatin1_aae02 0 [.inr (.inr (92, w))] M (some (.inl 1)) M := by
  refine Cx.ofF (lv := [(0, .inr (.inr (92, w)))]) (by decide +kernel) (fun ad => Nat.le_of_ble_eq_true rfl) (fun ad => rfl) ?_
  refine Vm.getCS (n := 3) dJ0_isLatin1_aae02_0 rfl rfl ?_
  refine Vm.if_eq (n := 6) 17 dJ0_isLatin1_aae02_3 rfl rfl (fun c => absurd c (by decide)) (fun _ => ?_)
  refine Vm.aload_n (n := 7) 0 dJ0_isLatin1_aae02_6 rfl rfl ?_
  refine Vm.getSc (n := 10) dJ0_isLatin1_aae02_7 rfl rfl hw ?_
  refine Vm.if_ne (n := 13) 17 dJ0_isLatin1_aae02_10 rfl rfl (fun c => absurd rfl c) (fun _ => ?_)
  refine Vm.iconst (n := 14) (v := (1 : Int32)) dJ0_isLatin1_aae02_13 rfl (by decide) ?_
  refine Vm.goto 18 dJ0_isLatin1_aae02_14 rfl ?_
  exact Vm.zret (b := true) dJ0_isLatin1_aae02_18 rfl rfl rfl rfl
/-- Preconditions.checkIndex within the bounds, whatever the third argument is -/
theorem metPre {M : mm × mm} {i n : Int32} (h0 : ¬ i < 0) (h1 : i < n) (l : Launch) (D : va_G) (cA : Nat → ClassId) (ad : Nat → Nat → Nat) (v : Value) (hv : v.category = 1) : Met l yJ3_checkIndex_8e157 (wsm mJ3_checkIndex_8e157) (rmd 0) (fun a U => a = ([.int i, .int n, v] : List Value).toArray ∧ wdS D cA ad M U) (Qcm D cA ad (some (.inl i)) M) 0 0 (Aw ad) := by
  refine va_MetF (cc := cJ3_checkIndex_8e157) (maxL := 3) (ret := some .int) (by decide +kernel) rfl ?_
  intro p e s m args below meth c s₁ B hml hv9
  obtain ⟨rfl, hP, hK, hD, hE⟩ := hv9
  have hcat : (if v.category = 2 then ([Slot.val v, Slot.second] : List Slot) else [Slot.val v]) = [Slot.val v] := by rw [hv]; rfl
  have hl := lv_entry ([.int i, .int n, v] : List Value) (n := 3) (by
    show (([Slot.val (Value.int i)] : List Slot) ++ ([Slot.val (Value.int n)] ++ ((if v.category = 2 then ([Slot.val v, Slot.second] : List Slot) else [Slot.val v]) ++ []))).length ≤ 3
    rw [hcat]
    exact Nat.le_refl 3)
  rw [lg_entry_eq]
  generalize (lg_sl ([.int i, .int n, v] : List Value) ++ List.replicate (3 - (lg_sl ([.int i, .int n, v] : List Value)).length) Slot.unset).toArray = ls at hl ⊢
  have hl2 : lv_has ls 3 (lm ad [(0, .inl i), (1, .inl n)]) := lv_sub hl [0, 1] rfl
  have k : Vm mJ3_checkIndex_8e157 0 0 [(0, .inl i), (1, .inl n)] [] M (some (.inl i)) M := by
    refine Vm.iload_n (n := 1) 0 dJ3_checkIndex_8e157_0 rfl rfl ?_
    refine Vm.if_lt (n := 4) 9 dJ3_checkIndex_8e157_1 rfl rfl (fun c => absurd c h0) (fun _ => ?_)
    refine Vm.iload_n (n := 5) 0 dJ3_checkIndex_8e157_4 rfl rfl ?_
    refine Vm.iload_n (n := 6) 1 dJ3_checkIndex_8e157_5 rfl rfl ?_
    refine Vm.icmp_lt (n := 9) 16 dJ3_checkIndex_8e157_6 rfl rfl (fun _ => ?_) (fun c => absurd h1 c)
    refine Vm.iload_n (n := 17) 0 dJ3_checkIndex_8e157_16 rfl rfl ?_
    exact Vm.iret dJ3_checkIndex_8e157_17 rfl rfl rfl
  exact k p l e _ s m _ below meth c D cA ad s.heap [] ls ⟨B.exec, B.bytes, hml, findClass_of_methodNamed B.named, atoms_spec (ws := wsm mJ3_checkIndex_8e157) B.pre, B.returns, B.notSynchronized, rfl, hK, hE⟩ hP hD va_S.rf hl2
theorem preBlind {D : va_G} {cA : Nat → ClassId} {ad : Nat → Nat → Nat} {av : List Value} {M : mm × mm} : FrameBlind (fun a U => a = av.toArray ∧ wdS D cA ad M U) := by
  intro a U g mk h
  obtain ⟨h1, h2, h3, h4, h5⟩ := h
  exact ⟨h1, h2, va_K.moved (u := U) (U := U.calling g mk a) (Vm.Alike.refl U.vm) h3, h4, xt.vm (s := U) rfl h5⟩
theorem kJ_check {M : mm × mm} {i n : Int32} (h0 : ¬ i < 0) (h1 : i < n) : Cx mJ0_checkIndex_df160 1 [.inl i, .inl n] M none M := by
  refine Cx.ofF (lv := [(0, .inl i), (1, .inl n)]) (by decide +kernel) (fun ad => Nat.le_of_ble_eq_true rfl) (fun ad => rfl) ?_
  refine Vm.iload_n (n := 1) 0 dJ0_checkIndex_df160_0 rfl rfl ?_
  refine Vm.iload_n (n := 2) 1 dJ0_checkIndex_df160_1 rfl rfl ?_
  intro p l e R s m args below meth c D cA ad H locs ls C hP hD hS hl0
  have hR := C.2.2.2.2.2.2.2.1
  have hq : ∃ v : Value, v.category = 1 ∧ va_Z "jdk/internal/util/Preconditions" "SIOOBE_FORMATTER" "Ljava/util/function/BiFunction;" v (Aw ad) s s.heap := by
    rcases C.2.2.2.2.2.2.2.2.2.2.2.2.2.2.1 with h | ⟨t, h⟩
    · exact ⟨_, rfl, h⟩
    · exact ⟨_, rfl, h⟩
  obtain ⟨v, hvc, hZ⟩ := hq
  refine va_gets (own := RJ0) C.1 C.2.1 hZ hS C.2.2.2.1 (C.2.2.2.2.1 _ (List.mem_cons_of_mem _ wx_1053)) (fun _ h => h) dJ0_checkIndex_df160_2 ?_
  have k : Vm mJ0_checkIndex_df160 1 8 [(0, .inl i), (1, .inl n)] [.inl i] M none M := by
    refine Vm.pop (n := 9) dJ0_checkIndex_df160_8 rfl rfl ?_
    exact Vm.vret dJ0_checkIndex_df160_9 rfl rfl rfl
  intro T hT X0
  have hrun := va_runS (p := p) (e := e) (R := R) (below := below) (meth := meth) (locs := locs) (cells := 0) (slots := 0) (g := F0 m 5 ls [v, .int n, .int i]) (rest := []) (As := [.int i, .int n, v]) (n := 3) ⟨C.1, C.2.1, C.2.2.1, C.2.2.2.1, C.2.2.2.2.1⟩ (metPre (M := M) h0 h1 l D cA ad v hvc) ⟨ctx_cb (Y := mJ3_checkIndex_8e157) (d' := 0) C omJ3_checkIndex_8e157 wv_RJ0_1059.1 wv_RJ0_1059.2.2 (by decide), C.2.2.2.2.1 _ (List.mem_cons_of_mem _ wv_RJ0_1059.2.1)⟩ ⟨preBlind, fun U hU hW => ⟨rfl, ctx_pre C hP hD hS U hU hW⟩⟩ rfl rfl hl0.1 rfl (lv_room (Nat.le_of_ble_eq_true rfl)) dJ0_checkIndex_df160_5 ⟨by rw [hR]; exact Nat.le_refl _, by rw [hR]; exact Nat.le_refl _⟩
  obtain ⟨v1, st₀, t, T', L, h9, X', hL, e1, e2, ⟨hv1, hP1, hz, hk⟩, go⟩ := hrun T hT X0
  have hv1 : v1 = some (.int i) := by injection hv1
  subst hv1
  rw [h9] at hz hk
  have hS1 : va_S (Aw ad) s.heap T'.heap (locs ++ L) := ⟨Nat.le_trans hS.1 (by rw [e1]; exact hz), fun q h1 h2 => by rw [e1, hk q (Nat.lt_of_lt_of_le h1 hS.1) h2]; exact hS.2.1 q h1 h2, fun q hq => by
      rcases List.mem_append.mp hq with h | h
      · exact hS.2.2 q h
      · exact hL q h⟩
  obtain ⟨t2, a1, b1⟩ := k p l e R s m args below meth c D cA ad T'.heap (locs ++ L) ls C (by rw [e1]; exact hP1) (vaD_any hD) hS1 hl0 T' rfl X'
  exact ⟨t2, go t2 a1, b1⟩
theorem xch_dec : ∀ w, w < 10 → ∀ k, k < 8 → narrow .char (.int ((xby.getD w []).getD k 0)) = .int ((xby.getD w []).getD k 0) ∧ ((((xby.getD w []).getD k 0) &&& 255).toUInt32 % 65536).toInt32 = (xby.getD w []).getD k 0 := by decide +kernel
theorem xln_dec : ∀ w, w < 10 → (xln w).toInt = ((xlen.getD w 0 : Nat) : Int) ∧ xlen.getD w 0 < 8 := by decide +kernel
theorem xch_in {w : Nat} {x v : Int32} (hw : w < 10) (h : xch w x = some v) : ¬ x < 0 ∧ x < xln w ∧ narrow .char (.int v) = .int v ∧ ((v &&& 255).toUInt32 % 65536).toInt32 = v := by
  unfold xch at h
  split at h
  · rename_i hin
    cases h
    obtain ⟨h1, h2⟩ := xln_dec w hw
    obtain ⟨h3, h4⟩ := xch_dec w hw x.toInt.toNat (by omega)
    exact ⟨nlt_of hin.1, by rw [Int32.lt_iff_toInt_lt, h1]; exact hin.2, h3, h4⟩
  · cases h
theorem kJ_lat {w : Nat} {x v : Int32} {M : mm × mm} (hw : w < 10) (h : xch w x = some v) : Cx mJ1_charAt_3b067 2 [.inr (.inr (93, w)), .inl x] M (some (.inl v)) M := by
  obtain ⟨g1, g2, g3, g4⟩ := xch_in hw h
  refine Cx.ofF (lv := [(0, .inr (.inr (93, w))), (1, .inl x)]) (by decide +kernel) (fun ad => Nat.le_of_ble_eq_true rfl) (fun ad => rfl) ?_
  refine Vm.iload_n (n := 1) 1 dJ1_charAt_3b067_0 rfl rfl ?_
  refine Vm.aload_n (n := 2) 0 dJ1_charAt_3b067_1 rfl rfl ?_
  refine Vm.alenS (n := 3) dJ1_charAt_3b067_2 rfl hw ?_
  refine Vm.callS0 (Y := mJ0_checkIndex_df160) (n := 6) (as := [.inl x, .inl (xln w)]) (rest := []) (r1 := none) (d' := 1) dJ1_charAt_3b067_3 rfl wv_RJ1_9 omJ0_checkIndex_df160 rfl rfl (Nat.le_of_ble_eq_true rfl) (by decide) (kJ_check g1 g2) ?_
  show Vm _ _ _ _ [] _ _ _
  refine Vm.aload_n (n := 7) 0 dJ1_charAt_3b067_6 rfl rfl ?_
  refine Vm.iload_n (n := 8) 1 dJ1_charAt_3b067_7 rfl rfl ?_
  refine Vm.baldS (n := 9) dJ1_charAt_3b067_8 rfl hw h ?_
  refine Vm.sipush (n := 12) (v := (255 : Int32)) dJ1_charAt_3b067_9 rfl (by decide) ?_
  refine Vm.iand (n := 13) dJ1_charAt_3b067_12 rfl ?_
  refine Vm.i2c (n := 14) dJ1_charAt_3b067_13 rfl ?_
  refine Vm.top g4 ?_
  exact Vm.nret (ty := .char) dJ1_charAt_3b067_14 rfl g3 rfl rfl
theorem kJ_charAt {w : Nat} {x v : Int32} {M : mm × mm} (hw : w < 10) (h : xch w x = some v) : Cx mJ0_charAt_5068e 3 [.inr (.inr (92, w)), .inl x] M (some (.inl v)) M := by
  obtain ⟨g1, g2, g3, g4⟩ := xch_in hw h
  refine Cx.ofF (lv := [(0, .inr (.inr (92, w))), (1, .inl x)]) (by decide +kernel) (fun ad => Nat.le_of_ble_eq_true rfl) (fun ad => rfl) ?_
  refine Vm.aload_n (n := 1) 0 dJ0_charAt_5068e_0 rfl rfl ?_
  refine Vm.callE (Y := mJ0_isLatin1_aae02) (n := 4) [] dJ0_charAt_5068e_1 rfl wv_RJ0_492 omJ0_isLatin1_aae02 rfl hw rfl rfl (Nat.le_of_ble_eq_true rfl) (by decide) (kJ_latin hw) ?_
  refine Vm.if_eq (n := 7) 16 dJ0_charAt_5068e_4 rfl rfl (fun c => absurd c (by decide)) (fun _ => ?_)
  refine Vm.aload_n (n := 8) 0 dJ0_charAt_5068e_7 rfl rfl ?_
  refine Vm.getSv (n := 11) dJ0_charAt_5068e_8 rfl rfl hw ?_
  refine Vm.iload_n (n := 12) 1 dJ0_charAt_5068e_11 rfl rfl ?_
  refine Vm.callS (Y := mJ1_charAt_3b067) (n := 15) [.inr (.inr (93, w)), .inl x] dJ0_charAt_5068e_12 rfl wv_RJ0_495 omJ1_charAt_3b067 rfl rfl (Nat.le_of_ble_eq_true rfl) (by decide) (kJ_lat hw h) ?_
  exact Vm.nret (ty := .char) dJ0_charAt_5068e_15 rfl g3 rfl rfl
section VSX
variable {X : md} {d pc n : Nat} {lv : List (Nat × mv)} {st : List mv} {M M' : mm × mm} {r : Option mv} {idx : Nat}
theorem Vm.strlen {w : Nat} (hd : decode X.2.1 pc = .ok (.invokevirtual idx, 3)) (hn : pc + 3 = n) (hw : okV X.1.cls idx yJ0_length_8abf5) (hi : w < 10) (hdd : 6 ≤ d) (hroom : (st.map mcat).sum ≤ 8) (k : Vm X d n lv (.inl (xln w) :: st) M r M') : Vm X d pc lv (.inr (.inr (92, w)) :: st) M r M' :=
  Vm.callE (Y := mJ0_length_8abf5) (d' := 1) [] hd hn hw omJ0_length_8abf5 rfl hi rfl rfl hroom (by omega) (kJ_length hi) k
theorem Vm.strch {w : Nat} {x v : Int32} (hd : decode X.2.1 pc = .ok (.invokevirtual idx, 3)) (hn : pc + 3 = n) (hw : okV X.1.cls idx yJ0_charAt_5068e) (hi : w < 10) (hdd : 6 ≤ d) (hroom : (st.map mcat).sum ≤ 8) (h : xch w x = some v) (k : Vm X d n lv (.inl v :: st) M r M') : Vm X d pc lv (.inl x :: .inr (.inr (92, w)) :: st) M r M' :=
  Vm.callE (Y := mJ0_charAt_5068e) (d' := 3) [.inl x] hd hn hw omJ0_charAt_5068e rfl hi rfl rfl hroom (by omega) (kJ_charAt hi h) k
end VSX

