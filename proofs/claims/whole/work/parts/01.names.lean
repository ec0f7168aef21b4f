-- ===== PART A: goes FIRST, ahead of the names: the tables' words, and 'selects' of the private methods out of them =====
/-- a private method of a class that the tables say can be made, by its rows of tables_1 -/
def lw_okq (q : MethodName × Nat) : Prop := (q.1.cls ≠ "java/lang/invoke/MethodHandle" ∧ q.1.cls ≠ "java/lang/invoke/VarHandle") ∧ Cond.instantiable q.1.cls q.2 ∈ tables_1 ∧ Cond.privateMethod q.1 ∈ tables_1 ∧ Cond.instanceMethod q.1 ∈ tables_1
theorem lw_p0 : lw_okq (⟨"ThinBodies$Body", "resetVectors", "()V"⟩, 6) := ⟨⟨by decide +kernel, by decide +kernel⟩, List.mem_of_getElem? (i := 26) (by decide +kernel), List.mem_of_getElem? (i := 60) (by decide +kernel), List.mem_of_getElem? (i := 61) (by decide +kernel)⟩
theorem lw_p1 : lw_okq (⟨"ThinBodies", "finding", "(I)I"⟩, 11) := ⟨⟨by decide +kernel, by decide +kernel⟩, List.mem_of_getElem? (i := 18) (by decide +kernel), List.mem_of_getElem? (i := 305) (by decide +kernel), List.mem_of_getElem? (i := 306) (by decide +kernel)⟩
theorem lw_p2 : lw_okq (⟨"ThinBodies", "bodyChanged", "()V"⟩, 11) := ⟨⟨by decide +kernel, by decide +kernel⟩, List.mem_of_getElem? (i := 18) (by decide +kernel), List.mem_of_getElem? (i := 318) (by decide +kernel), List.mem_of_getElem? (i := 319) (by decide +kernel)⟩
theorem lw_p3 : lw_okq (⟨"ThinBodies$Cloud", "stepOn", "(LThinBodies$Body;)V"⟩, 11) := ⟨⟨by decide +kernel, by decide +kernel⟩, List.mem_of_getElem? (i := 102) (by decide +kernel), List.mem_of_getElem? (i := 443) (by decide +kernel), List.mem_of_getElem? (i := 444) (by decide +kernel)⟩
theorem lw_p4 : lw_okq (⟨"ThinBodies$Cloud", "brokenAt", "(I)I"⟩, 11) := ⟨⟨by decide +kernel, by decide +kernel⟩, List.mem_of_getElem? (i := 102) (by decide +kernel), List.mem_of_getElem? (i := 459) (by decide +kernel), List.mem_of_getElem? (i := 460) (by decide +kernel)⟩
theorem lw_p5 : lw_okq (⟨"ThinBodies", "smallPointTrouble", "(I)I"⟩, 11) := ⟨⟨by decide +kernel, by decide +kernel⟩, List.mem_of_getElem? (i := 18) (by decide +kernel), List.mem_of_getElem? (i := 474) (by decide +kernel), List.mem_of_getElem? (i := 475) (by decide +kernel)⟩
theorem lw_p6 : lw_okq (⟨"ThinBodies", "pointTrouble", "(I)I"⟩, 11) := ⟨⟨by decide +kernel, by decide +kernel⟩, List.mem_of_getElem? (i := 18) (by decide +kernel), List.mem_of_getElem? (i := 478) (by decide +kernel), List.mem_of_getElem? (i := 479) (by decide +kernel)⟩
theorem lw_p7 : lw_okq (⟨"ThinBodies", "sheetTrouble", "(I)I"⟩, 11) := ⟨⟨by decide +kernel, by decide +kernel⟩, List.mem_of_getElem? (i := 18) (by decide +kernel), List.mem_of_getElem? (i := 482) (by decide +kernel), List.mem_of_getElem? (i := 483) (by decide +kernel)⟩
theorem lw_p8 : lw_okq (⟨"ThinBodies", "readSpot", "(LThinBodies$Sheet;)V"⟩, 11) := ⟨⟨by decide +kernel, by decide +kernel⟩, List.mem_of_getElem? (i := 18) (by decide +kernel), List.mem_of_getElem? (i := 491) (by decide +kernel), List.mem_of_getElem? (i := 492) (by decide +kernel)⟩
theorem lw_p9 : lw_okq (⟨"ThinBodies$Cloud", "weightAt", "(II)I"⟩, 11) := ⟨⟨by decide +kernel, by decide +kernel⟩, List.mem_of_getElem? (i := 102) (by decide +kernel), List.mem_of_getElem? (i := 508) (by decide +kernel), List.mem_of_getElem? (i := 509) (by decide +kernel)⟩
theorem lw_p10 : lw_okq (⟨"ThinBodies$Cloud", "squareBetween", "(III)I"⟩, 11) := ⟨⟨by decide +kernel, by decide +kernel⟩, List.mem_of_getElem? (i := 102) (by decide +kernel), List.mem_of_getElem? (i := 551) (by decide +kernel), List.mem_of_getElem? (i := 552) (by decide +kernel)⟩
theorem lw_p11 : lw_okq (⟨"ThinBodies$Tree", "grow", "(LThinBodies$Body;I)V"⟩, 8) := ⟨⟨by decide +kernel, by decide +kernel⟩, List.mem_of_getElem? (i := 150) (by decide +kernel), List.mem_of_getElem? (i := 565) (by decide +kernel), List.mem_of_getElem? (i := 566) (by decide +kernel)⟩
theorem lw_p12 : lw_okq (⟨"ThinBodies$Tree", "verdictOf", "(LThinBodies$Body;)I"⟩, 8) := ⟨⟨by decide +kernel, by decide +kernel⟩, List.mem_of_getElem? (i := 150) (by decide +kernel), List.mem_of_getElem? (i := 569) (by decide +kernel), List.mem_of_getElem? (i := 570) (by decide +kernel)⟩
theorem lw_p13 : lw_okq (⟨"ThinBodies$Tree", "addLeaf", "(III)V"⟩, 8) := ⟨⟨by decide +kernel, by decide +kernel⟩, List.mem_of_getElem? (i := 150) (by decide +kernel), List.mem_of_getElem? (i := 587) (by decide +kernel), List.mem_of_getElem? (i := 588) (by decide +kernel)⟩
theorem lw_p14 : lw_okq (⟨"ThinBodies$Tree", "widest", "(I)I"⟩, 8) := ⟨⟨by decide +kernel, by decide +kernel⟩, List.mem_of_getElem? (i := 150) (by decide +kernel), List.mem_of_getElem? (i := 593) (by decide +kernel), List.mem_of_getElem? (i := 594) (by decide +kernel)⟩
theorem lw_p15 : lw_okq (⟨"ThinBodies$Tree", "isWith", "(I[JI)Z"⟩, 8) := ⟨⟨by decide +kernel, by decide +kernel⟩, List.mem_of_getElem? (i := 150) (by decide +kernel), List.mem_of_getElem? (i := 640) (by decide +kernel), List.mem_of_getElem? (i := 641) (by decide +kernel)⟩
def lw_privs_1 : List (MethodName × Nat) := [(⟨"ThinBodies$Body", "resetVectors", "()V"⟩, 6), (⟨"ThinBodies", "finding", "(I)I"⟩, 11), (⟨"ThinBodies", "bodyChanged", "()V"⟩, 11), (⟨"ThinBodies$Cloud", "stepOn", "(LThinBodies$Body;)V"⟩, 11), (⟨"ThinBodies$Cloud", "brokenAt", "(I)I"⟩, 11), (⟨"ThinBodies", "smallPointTrouble", "(I)I"⟩, 11), (⟨"ThinBodies", "pointTrouble", "(I)I"⟩, 11), (⟨"ThinBodies", "sheetTrouble", "(I)I"⟩, 11), (⟨"ThinBodies", "readSpot", "(LThinBodies$Sheet;)V"⟩, 11), (⟨"ThinBodies$Cloud", "weightAt", "(II)I"⟩, 11), (⟨"ThinBodies$Cloud", "squareBetween", "(III)I"⟩, 11), (⟨"ThinBodies$Tree", "grow", "(LThinBodies$Body;I)V"⟩, 8), (⟨"ThinBodies$Tree", "verdictOf", "(LThinBodies$Body;)I"⟩, 8), (⟨"ThinBodies$Tree", "addLeaf", "(III)V"⟩, 8), (⟨"ThinBodies$Tree", "widest", "(I)I"⟩, 8), (⟨"ThinBodies$Tree", "isWith", "(I[JI)Z"⟩, 8)]
theorem lw_r1 : ∀ q ∈ lw_privs_1, lw_okq q := List.forall_mem_cons.mpr ⟨lw_p0, List.forall_mem_cons.mpr ⟨lw_p1, List.forall_mem_cons.mpr ⟨lw_p2, List.forall_mem_cons.mpr ⟨lw_p3, List.forall_mem_cons.mpr ⟨lw_p4, List.forall_mem_cons.mpr ⟨lw_p5, List.forall_mem_cons.mpr ⟨lw_p6, List.forall_mem_cons.mpr ⟨lw_p7, List.forall_mem_cons.mpr ⟨lw_p8, List.forall_mem_cons.mpr ⟨lw_p9, List.forall_mem_cons.mpr ⟨lw_p10, List.forall_mem_cons.mpr ⟨lw_p11, List.forall_mem_cons.mpr ⟨lw_p12, List.forall_mem_cons.mpr ⟨lw_p13, List.forall_mem_cons.mpr ⟨lw_p14, List.forall_mem_cons.mpr ⟨lw_p15, fun _ h => absurd h List.not_mem_nil⟩⟩⟩⟩⟩⟩⟩⟩⟩⟩⟩⟩⟩⟩⟩⟩
theorem lw_p16 : lw_okq (⟨"ThinBodies$Cloud", "isInWithout", "(II)Z"⟩, 11) := ⟨⟨by decide +kernel, by decide +kernel⟩, List.mem_of_getElem? (i := 102) (by decide +kernel), List.mem_of_getElem? (i := 676) (by decide +kernel), List.mem_of_getElem? (i := 677) (by decide +kernel)⟩
theorem lw_p17 : lw_okq (⟨"ThinBodies", "isPair", "(II)Z"⟩, 11) := ⟨⟨by decide +kernel, by decide +kernel⟩, List.mem_of_getElem? (i := 18) (by decide +kernel), List.mem_of_getElem? (i := 718) (by decide +kernel), List.mem_of_getElem? (i := 719) (by decide +kernel)⟩
theorem lw_p18 : lw_okq (⟨"ThinBodies$Lattice", "clearBelow", "(II)I"⟩, 7) := ⟨⟨by decide +kernel, by decide +kernel⟩, List.mem_of_getElem? (i := 187) (by decide +kernel), List.mem_of_getElem? (i := 734) (by decide +kernel), List.mem_of_getElem? (i := 735) (by decide +kernel)⟩
theorem lw_p19 : lw_okq (⟨"ThinBodies$Lattice", "addTimes", "(IIJ)V"⟩, 7) := ⟨⟨by decide +kernel, by decide +kernel⟩, List.mem_of_getElem? (i := 187) (by decide +kernel), List.mem_of_getElem? (i := 738) (by decide +kernel), List.mem_of_getElem? (i := 739) (by decide +kernel)⟩
theorem lw_p20 : lw_okq (⟨"ThinBodies$Lattice", "lowerAbove", "()V"⟩, 7) := ⟨⟨by decide +kernel, by decide +kernel⟩, List.mem_of_getElem? (i := 187) (by decide +kernel), List.mem_of_getElem? (i := 743) (by decide +kernel), List.mem_of_getElem? (i := 744) (by decide +kernel)⟩
theorem lw_p21 : lw_okq (⟨"ThinBodies$Lattice", "tryLetter", "(II)V"⟩, 7) := ⟨⟨by decide +kernel, by decide +kernel⟩, List.mem_of_getElem? (i := 187) (by decide +kernel), List.mem_of_getElem? (i := 764) (by decide +kernel), List.mem_of_getElem? (i := 765) (by decide +kernel)⟩
theorem lw_p22 : lw_okq (⟨"ThinBodies$Reader", "nextToken", "()V"⟩, 6) := ⟨⟨by decide +kernel, by decide +kernel⟩, List.mem_of_getElem? (i := 220) (by decide +kernel), List.mem_of_getElem? (i := 816) (by decide +kernel), List.mem_of_getElem? (i := 817) (by decide +kernel)⟩
theorem lw_p23 : lw_okq (⟨"ThinBodies$Reader", "sortAt", "(I)I"⟩, 6) := ⟨⟨by decide +kernel, by decide +kernel⟩, List.mem_of_getElem? (i := 220) (by decide +kernel), List.mem_of_getElem? (i := 820) (by decide +kernel), List.mem_of_getElem? (i := 821) (by decide +kernel)⟩
theorem lw_p24 : lw_okq (⟨"ThinBodies$Reader", "readItem", "(LThinBodies$Body;)Z"⟩, 6) := ⟨⟨by decide +kernel, by decide +kernel⟩, List.mem_of_getElem? (i := 220) (by decide +kernel), List.mem_of_getElem? (i := 825) (by decide +kernel), List.mem_of_getElem? (i := 826) (by decide +kernel)⟩
theorem lw_p25 : lw_okq (⟨"ThinBodies$Reader", "isWord", "(Ljava/lang/String;)Z"⟩, 6) := ⟨⟨by decide +kernel, by decide +kernel⟩, List.mem_of_getElem? (i := 220) (by decide +kernel), List.mem_of_getElem? (i := 830) (by decide +kernel), List.mem_of_getElem? (i := 831) (by decide +kernel)⟩
theorem lw_p26 : lw_okq (⟨"ThinBodies$Reader", "readLetters", "(LThinBodies$Body;)Z"⟩, 6) := ⟨⟨by decide +kernel, by decide +kernel⟩, List.mem_of_getElem? (i := 220) (by decide +kernel), List.mem_of_getElem? (i := 882) (by decide +kernel), List.mem_of_getElem? (i := 883) (by decide +kernel)⟩
theorem lw_p27 : lw_okq (⟨"ThinBodies$Reader", "seesNumber", "(II)Z"⟩, 6) := ⟨⟨by decide +kernel, by decide +kernel⟩, List.mem_of_getElem? (i := 220) (by decide +kernel), List.mem_of_getElem? (i := 886) (by decide +kernel), List.mem_of_getElem? (i := 887) (by decide +kernel)⟩
theorem lw_p28 : lw_okq (⟨"ThinBodies$Reader", "readBox", "(LThinBodies$Body;)Z"⟩, 6) := ⟨⟨by decide +kernel, by decide +kernel⟩, List.mem_of_getElem? (i := 220) (by decide +kernel), List.mem_of_getElem? (i := 893) (by decide +kernel), List.mem_of_getElem? (i := 894) (by decide +kernel)⟩
theorem lw_p29 : lw_okq (⟨"ThinBodies$Reader", "seesSigned", "(II)Z"⟩, 6) := ⟨⟨by decide +kernel, by decide +kernel⟩, List.mem_of_getElem? (i := 220) (by decide +kernel), List.mem_of_getElem? (i := 897) (by decide +kernel), List.mem_of_getElem? (i := 898) (by decide +kernel)⟩
theorem lw_p30 : lw_okq (⟨"ThinBodies$Reader", "kindOfWord", "()I"⟩, 6) := ⟨⟨by decide +kernel, by decide +kernel⟩, List.mem_of_getElem? (i := 220) (by decide +kernel), List.mem_of_getElem? (i := 903) (by decide +kernel), List.mem_of_getElem? (i := 904) (by decide +kernel)⟩
theorem lw_p31 : lw_okq (⟨"ThinBodies$Reader", "readRow", "(LThinBodies$Body;I)Z"⟩, 6) := ⟨⟨by decide +kernel, by decide +kernel⟩, List.mem_of_getElem? (i := 220) (by decide +kernel), List.mem_of_getElem? (i := 913) (by decide +kernel), List.mem_of_getElem? (i := 914) (by decide +kernel)⟩
def lw_privs_2 : List (MethodName × Nat) := [(⟨"ThinBodies$Cloud", "isInWithout", "(II)Z"⟩, 11), (⟨"ThinBodies", "isPair", "(II)Z"⟩, 11), (⟨"ThinBodies$Lattice", "clearBelow", "(II)I"⟩, 7), (⟨"ThinBodies$Lattice", "addTimes", "(IIJ)V"⟩, 7), (⟨"ThinBodies$Lattice", "lowerAbove", "()V"⟩, 7), (⟨"ThinBodies$Lattice", "tryLetter", "(II)V"⟩, 7), (⟨"ThinBodies$Reader", "nextToken", "()V"⟩, 6), (⟨"ThinBodies$Reader", "sortAt", "(I)I"⟩, 6), (⟨"ThinBodies$Reader", "readItem", "(LThinBodies$Body;)Z"⟩, 6), (⟨"ThinBodies$Reader", "isWord", "(Ljava/lang/String;)Z"⟩, 6), (⟨"ThinBodies$Reader", "readLetters", "(LThinBodies$Body;)Z"⟩, 6), (⟨"ThinBodies$Reader", "seesNumber", "(II)Z"⟩, 6), (⟨"ThinBodies$Reader", "readBox", "(LThinBodies$Body;)Z"⟩, 6), (⟨"ThinBodies$Reader", "seesSigned", "(II)Z"⟩, 6), (⟨"ThinBodies$Reader", "kindOfWord", "()I"⟩, 6), (⟨"ThinBodies$Reader", "readRow", "(LThinBodies$Body;I)Z"⟩, 6)]
theorem lw_r2 : ∀ q ∈ lw_privs_2, lw_okq q := List.forall_mem_cons.mpr ⟨lw_p16, List.forall_mem_cons.mpr ⟨lw_p17, List.forall_mem_cons.mpr ⟨lw_p18, List.forall_mem_cons.mpr ⟨lw_p19, List.forall_mem_cons.mpr ⟨lw_p20, List.forall_mem_cons.mpr ⟨lw_p21, List.forall_mem_cons.mpr ⟨lw_p22, List.forall_mem_cons.mpr ⟨lw_p23, List.forall_mem_cons.mpr ⟨lw_p24, List.forall_mem_cons.mpr ⟨lw_p25, List.forall_mem_cons.mpr ⟨lw_p26, List.forall_mem_cons.mpr ⟨lw_p27, List.forall_mem_cons.mpr ⟨lw_p28, List.forall_mem_cons.mpr ⟨lw_p29, List.forall_mem_cons.mpr ⟨lw_p30, List.forall_mem_cons.mpr ⟨lw_p31, fun _ h => absurd h List.not_mem_nil⟩⟩⟩⟩⟩⟩⟩⟩⟩⟩⟩⟩⟩⟩⟩⟩
theorem lw_p32 : lw_okq (⟨"ThinBodiesModel", "squares", "()V"⟩, 42) := ⟨⟨by decide +kernel, by decide +kernel⟩, List.mem_of_getElem? (i := 969) (by decide +kernel), List.mem_of_getElem? (i := 976) (by decide +kernel), List.mem_of_getElem? (i := 977) (by decide +kernel)⟩
theorem lw_p33 : lw_okq (⟨"ThinBodiesModel", "finds", "(I)I"⟩, 42) := ⟨⟨by decide +kernel, by decide +kernel⟩, List.mem_of_getElem? (i := 969) (by decide +kernel), List.mem_of_getElem? (i := 1117) (by decide +kernel), List.mem_of_getElem? (i := 1118) (by decide +kernel)⟩
theorem lw_p34 : lw_okq (⟨"ThinBodiesModel", "hasLetters", "(I)Z"⟩, 42) := ⟨⟨by decide +kernel, by decide +kernel⟩, List.mem_of_getElem? (i := 969) (by decide +kernel), List.mem_of_getElem? (i := 1121) (by decide +kernel), List.mem_of_getElem? (i := 1122) (by decide +kernel)⟩
theorem lw_p35 : lw_okq (⟨"ThinBodiesModel", "isLetter", "(I)Z"⟩, 42) := ⟨⟨by decide +kernel, by decide +kernel⟩, List.mem_of_getElem? (i := 969) (by decide +kernel), List.mem_of_getElem? (i := 1130) (by decide +kernel), List.mem_of_getElem? (i := 1131) (by decide +kernel)⟩
theorem lw_p36 : lw_okq (⟨"ThinBodiesModel", "hasBox", "(III)Z"⟩, 42) := ⟨⟨by decide +kernel, by decide +kernel⟩, List.mem_of_getElem? (i := 969) (by decide +kernel), List.mem_of_getElem? (i := 1136) (by decide +kernel), List.mem_of_getElem? (i := 1137) (by decide +kernel)⟩
theorem lw_p37 : lw_okq (⟨"ThinBodiesModel", "points", "()I"⟩, 42) := ⟨⟨by decide +kernel, by decide +kernel⟩, List.mem_of_getElem? (i := 969) (by decide +kernel), List.mem_of_getElem? (i := 1140) (by decide +kernel), List.mem_of_getElem? (i := 1141) (by decide +kernel)⟩
theorem lw_p38 : lw_okq (⟨"ThinBodiesModel", "adds", "(III)V"⟩, 42) := ⟨⟨by decide +kernel, by decide +kernel⟩, List.mem_of_getElem? (i := 969) (by decide +kernel), List.mem_of_getElem? (i := 1159) (by decide +kernel), List.mem_of_getElem? (i := 1160) (by decide +kernel)⟩
theorem lw_p39 : lw_okq (⟨"ThinBodiesModel", "isRow", "(I)Z"⟩, 42) := ⟨⟨by decide +kernel, by decide +kernel⟩, List.mem_of_getElem? (i := 969) (by decide +kernel), List.mem_of_getElem? (i := 1167) (by decide +kernel), List.mem_of_getElem? (i := 1168) (by decide +kernel)⟩
theorem lw_p40 : lw_okq (⟨"ThinBodiesModel", "whole", "()V"⟩, 42) := ⟨⟨by decide +kernel, by decide +kernel⟩, List.mem_of_getElem? (i := 969) (by decide +kernel), List.mem_of_getElem? (i := 1172) (by decide +kernel), List.mem_of_getElem? (i := 1173) (by decide +kernel)⟩
theorem lw_p41 : lw_okq (⟨"ThinBodiesModel", "at", "(II)I"⟩, 42) := ⟨⟨by decide +kernel, by decide +kernel⟩, List.mem_of_getElem? (i := 969) (by decide +kernel), List.mem_of_getElem? (i := 1176) (by decide +kernel), List.mem_of_getElem? (i := 1177) (by decide +kernel)⟩
theorem lw_p42 : lw_okq (⟨"ThinBodiesModel", "least", "(II)I"⟩, 42) := ⟨⟨by decide +kernel, by decide +kernel⟩, List.mem_of_getElem? (i := 969) (by decide +kernel), List.mem_of_getElem? (i := 1180) (by decide +kernel), List.mem_of_getElem? (i := 1181) (by decide +kernel)⟩
theorem lw_p43 : lw_okq (⟨"ThinBodiesModel", "edge", "(III)I"⟩, 42) := ⟨⟨by decide +kernel, by decide +kernel⟩, List.mem_of_getElem? (i := 969) (by decide +kernel), List.mem_of_getElem? (i := 1184) (by decide +kernel), List.mem_of_getElem? (i := 1185) (by decide +kernel)⟩
theorem lw_p44 : lw_okq (⟨"ThinBodiesModel", "most", "(II)I"⟩, 42) := ⟨⟨by decide +kernel, by decide +kernel⟩, List.mem_of_getElem? (i := 969) (by decide +kernel), List.mem_of_getElem? (i := 1188) (by decide +kernel), List.mem_of_getElem? (i := 1189) (by decide +kernel)⟩
theorem lw_p45 : lw_okq (⟨"ThinBodiesModel", "looks", "()V"⟩, 42) := ⟨⟨by decide +kernel, by decide +kernel⟩, List.mem_of_getElem? (i := 969) (by decide +kernel), List.mem_of_getElem? (i := 1211) (by decide +kernel), List.mem_of_getElem? (i := 1212) (by decide +kernel)⟩
theorem lw_p46 : lw_okq (⟨"ThinBodiesModel", "goesTo", "(I)V"⟩, 42) := ⟨⟨by decide +kernel, by decide +kernel⟩, List.mem_of_getElem? (i := 969) (by decide +kernel), List.mem_of_getElem? (i := 1215) (by decide +kernel), List.mem_of_getElem? (i := 1216) (by decide +kernel)⟩
theorem lw_p47 : lw_okq (⟨"ThinBodiesModel", "holding", "()I"⟩, 42) := ⟨⟨by decide +kernel, by decide +kernel⟩, List.mem_of_getElem? (i := 969) (by decide +kernel), List.mem_of_getElem? (i := 1219) (by decide +kernel), List.mem_of_getElem? (i := 1220) (by decide +kernel)⟩
def lw_privs_3 : List (MethodName × Nat) := [(⟨"ThinBodiesModel", "squares", "()V"⟩, 42), (⟨"ThinBodiesModel", "finds", "(I)I"⟩, 42), (⟨"ThinBodiesModel", "hasLetters", "(I)Z"⟩, 42), (⟨"ThinBodiesModel", "isLetter", "(I)Z"⟩, 42), (⟨"ThinBodiesModel", "hasBox", "(III)Z"⟩, 42), (⟨"ThinBodiesModel", "points", "()I"⟩, 42), (⟨"ThinBodiesModel", "adds", "(III)V"⟩, 42), (⟨"ThinBodiesModel", "isRow", "(I)Z"⟩, 42), (⟨"ThinBodiesModel", "whole", "()V"⟩, 42), (⟨"ThinBodiesModel", "at", "(II)I"⟩, 42), (⟨"ThinBodiesModel", "least", "(II)I"⟩, 42), (⟨"ThinBodiesModel", "edge", "(III)I"⟩, 42), (⟨"ThinBodiesModel", "most", "(II)I"⟩, 42), (⟨"ThinBodiesModel", "looks", "()V"⟩, 42), (⟨"ThinBodiesModel", "goesTo", "(I)V"⟩, 42), (⟨"ThinBodiesModel", "holding", "()I"⟩, 42)]
theorem lw_r3 : ∀ q ∈ lw_privs_3, lw_okq q := List.forall_mem_cons.mpr ⟨lw_p32, List.forall_mem_cons.mpr ⟨lw_p33, List.forall_mem_cons.mpr ⟨lw_p34, List.forall_mem_cons.mpr ⟨lw_p35, List.forall_mem_cons.mpr ⟨lw_p36, List.forall_mem_cons.mpr ⟨lw_p37, List.forall_mem_cons.mpr ⟨lw_p38, List.forall_mem_cons.mpr ⟨lw_p39, List.forall_mem_cons.mpr ⟨lw_p40, List.forall_mem_cons.mpr ⟨lw_p41, List.forall_mem_cons.mpr ⟨lw_p42, List.forall_mem_cons.mpr ⟨lw_p43, List.forall_mem_cons.mpr ⟨lw_p44, List.forall_mem_cons.mpr ⟨lw_p45, List.forall_mem_cons.mpr ⟨lw_p46, List.forall_mem_cons.mpr ⟨lw_p47, fun _ h => absurd h List.not_mem_nil⟩⟩⟩⟩⟩⟩⟩⟩⟩⟩⟩⟩⟩⟩⟩⟩
theorem lw_p48 : lw_okq (⟨"ThinBodiesModel", "sumOf", "(I)J"⟩, 42) := ⟨⟨by decide +kernel, by decide +kernel⟩, List.mem_of_getElem? (i := 969) (by decide +kernel), List.mem_of_getElem? (i := 1223) (by decide +kernel), List.mem_of_getElem? (i := 1224) (by decide +kernel)⟩
theorem lw_p49 : lw_okq (⟨"ThinBodiesModel", "allRows", "()I"⟩, 42) := ⟨⟨by decide +kernel, by decide +kernel⟩, List.mem_of_getElem? (i := 969) (by decide +kernel), List.mem_of_getElem? (i := 1230) (by decide +kernel), List.mem_of_getElem? (i := 1231) (by decide +kernel)⟩
theorem lw_p50 : lw_okq (⟨"ThinBodiesModel", "isIn", "(I)Z"⟩, 42) := ⟨⟨by decide +kernel, by decide +kernel⟩, List.mem_of_getElem? (i := 969) (by decide +kernel), List.mem_of_getElem? (i := 1238) (by decide +kernel), List.mem_of_getElem? (i := 1239) (by decide +kernel)⟩
theorem lw_p51 : lw_okq (⟨"ThinBodiesModel", "takes", "(I)I"⟩, 42) := ⟨⟨by decide +kernel, by decide +kernel⟩, List.mem_of_getElem? (i := 969) (by decide +kernel), List.mem_of_getElem? (i := 1246) (by decide +kernel), List.mem_of_getElem? (i := 1247) (by decide +kernel)⟩
theorem lw_p52 : lw_okq (⟨"ThinBodiesModel", "isNear", "()Z"⟩, 42) := ⟨⟨by decide +kernel, by decide +kernel⟩, List.mem_of_getElem? (i := 969) (by decide +kernel), List.mem_of_getElem? (i := 1256) (by decide +kernel), List.mem_of_getElem? (i := 1257) (by decide +kernel)⟩
theorem lw_p53 : lw_okq (⟨"ThinBodiesModel", "directions", "()I"⟩, 42) := ⟨⟨by decide +kernel, by decide +kernel⟩, List.mem_of_getElem? (i := 969) (by decide +kernel), List.mem_of_getElem? (i := 1265) (by decide +kernel), List.mem_of_getElem? (i := 1266) (by decide +kernel)⟩
theorem lw_p54 : lw_okq (⟨"ThinBodiesModel", "measures", "(I)V"⟩, 42) := ⟨⟨by decide +kernel, by decide +kernel⟩, List.mem_of_getElem? (i := 969) (by decide +kernel), List.mem_of_getElem? (i := 1270) (by decide +kernel), List.mem_of_getElem? (i := 1271) (by decide +kernel)⟩
theorem lw_p55 : lw_okq (⟨"ThinBodiesModel", "grows", "()V"⟩, 42) := ⟨⟨by decide +kernel, by decide +kernel⟩, List.mem_of_getElem? (i := 969) (by decide +kernel), List.mem_of_getElem? (i := 1293) (by decide +kernel), List.mem_of_getElem? (i := 1294) (by decide +kernel)⟩
theorem lw_p56 : lw_okq (⟨"ThinBodiesModel", "parts", "(I)V"⟩, 42) := ⟨⟨by decide +kernel, by decide +kernel⟩, List.mem_of_getElem? (i := 969) (by decide +kernel), List.mem_of_getElem? (i := 1297) (by decide +kernel), List.mem_of_getElem? (i := 1298) (by decide +kernel)⟩
theorem lw_p57 : lw_okq (⟨"ThinBodiesModel", "deadRow", "(I)I"⟩, 42) := ⟨⟨by decide +kernel, by decide +kernel⟩, List.mem_of_getElem? (i := 969) (by decide +kernel), List.mem_of_getElem? (i := 1301) (by decide +kernel), List.mem_of_getElem? (i := 1302) (by decide +kernel)⟩
theorem lw_p58 : lw_okq (⟨"ThinBodiesModel", "mayHold", "(III)Z"⟩, 42) := ⟨⟨by decide +kernel, by decide +kernel⟩, List.mem_of_getElem? (i := 969) (by decide +kernel), List.mem_of_getElem? (i := 1305) (by decide +kernel), List.mem_of_getElem? (i := 1306) (by decide +kernel)⟩
theorem lw_p59 : lw_okq (⟨"ThinBodiesModel", "anyOf", "(III)Z"⟩, 42) := ⟨⟨by decide +kernel, by decide +kernel⟩, List.mem_of_getElem? (i := 969) (by decide +kernel), List.mem_of_getElem? (i := 1309) (by decide +kernel), List.mem_of_getElem? (i := 1310) (by decide +kernel)⟩
theorem lw_p60 : lw_okq (⟨"ThinBodiesModel", "isWhole", "(I)Z"⟩, 42) := ⟨⟨by decide +kernel, by decide +kernel⟩, List.mem_of_getElem? (i := 969) (by decide +kernel), List.mem_of_getElem? (i := 1313) (by decide +kernel), List.mem_of_getElem? (i := 1314) (by decide +kernel)⟩
theorem lw_p61 : lw_okq (⟨"ThinBodiesModel", "mustHold", "(III)Z"⟩, 42) := ⟨⟨by decide +kernel, by decide +kernel⟩, List.mem_of_getElem? (i := 969) (by decide +kernel), List.mem_of_getElem? (i := 1317) (by decide +kernel), List.mem_of_getElem? (i := 1318) (by decide +kernel)⟩
theorem lw_p62 : lw_okq (⟨"ThinBodiesModel", "leafAt", "(II)V"⟩, 42) := ⟨⟨by decide +kernel, by decide +kernel⟩, List.mem_of_getElem? (i := 969) (by decide +kernel), List.mem_of_getElem? (i := 1321) (by decide +kernel), List.mem_of_getElem? (i := 1322) (by decide +kernel)⟩
theorem lw_p63 : lw_okq (⟨"ThinBodiesModel", "areTwo", "(II)Z"⟩, 42) := ⟨⟨by decide +kernel, by decide +kernel⟩, List.mem_of_getElem? (i := 969) (by decide +kernel), List.mem_of_getElem? (i := 1376) (by decide +kernel), List.mem_of_getElem? (i := 1377) (by decide +kernel)⟩
def lw_privs_4 : List (MethodName × Nat) := [(⟨"ThinBodiesModel", "sumOf", "(I)J"⟩, 42), (⟨"ThinBodiesModel", "allRows", "()I"⟩, 42), (⟨"ThinBodiesModel", "isIn", "(I)Z"⟩, 42), (⟨"ThinBodiesModel", "takes", "(I)I"⟩, 42), (⟨"ThinBodiesModel", "isNear", "()Z"⟩, 42), (⟨"ThinBodiesModel", "directions", "()I"⟩, 42), (⟨"ThinBodiesModel", "measures", "(I)V"⟩, 42), (⟨"ThinBodiesModel", "grows", "()V"⟩, 42), (⟨"ThinBodiesModel", "parts", "(I)V"⟩, 42), (⟨"ThinBodiesModel", "deadRow", "(I)I"⟩, 42), (⟨"ThinBodiesModel", "mayHold", "(III)Z"⟩, 42), (⟨"ThinBodiesModel", "anyOf", "(III)Z"⟩, 42), (⟨"ThinBodiesModel", "isWhole", "(I)Z"⟩, 42), (⟨"ThinBodiesModel", "mustHold", "(III)Z"⟩, 42), (⟨"ThinBodiesModel", "leafAt", "(II)V"⟩, 42), (⟨"ThinBodiesModel", "areTwo", "(II)Z"⟩, 42)]
theorem lw_r4 : ∀ q ∈ lw_privs_4, lw_okq q := List.forall_mem_cons.mpr ⟨lw_p48, List.forall_mem_cons.mpr ⟨lw_p49, List.forall_mem_cons.mpr ⟨lw_p50, List.forall_mem_cons.mpr ⟨lw_p51, List.forall_mem_cons.mpr ⟨lw_p52, List.forall_mem_cons.mpr ⟨lw_p53, List.forall_mem_cons.mpr ⟨lw_p54, List.forall_mem_cons.mpr ⟨lw_p55, List.forall_mem_cons.mpr ⟨lw_p56, List.forall_mem_cons.mpr ⟨lw_p57, List.forall_mem_cons.mpr ⟨lw_p58, List.forall_mem_cons.mpr ⟨lw_p59, List.forall_mem_cons.mpr ⟨lw_p60, List.forall_mem_cons.mpr ⟨lw_p61, List.forall_mem_cons.mpr ⟨lw_p62, List.forall_mem_cons.mpr ⟨lw_p63, fun _ h => absurd h List.not_mem_nil⟩⟩⟩⟩⟩⟩⟩⟩⟩⟩⟩⟩⟩⟩⟩⟩
theorem lw_p64 : lw_okq (⟨"ThinBodiesModel", "forms", "()I"⟩, 42) := ⟨⟨by decide +kernel, by decide +kernel⟩, List.mem_of_getElem? (i := 969) (by decide +kernel), List.mem_of_getElem? (i := 1389) (by decide +kernel), List.mem_of_getElem? (i := 1390) (by decide +kernel)⟩
theorem lw_p65 : lw_okq (⟨"ThinBodiesModel", "clears", "(I)Z"⟩, 42) := ⟨⟨by decide +kernel, by decide +kernel⟩, List.mem_of_getElem? (i := 969) (by decide +kernel), List.mem_of_getElem? (i := 1393) (by decide +kernel), List.mem_of_getElem? (i := 1394) (by decide +kernel)⟩
theorem lw_p66 : lw_okq (⟨"ThinBodiesModel", "changesRows", "(II)V"⟩, 42) := ⟨⟨by decide +kernel, by decide +kernel⟩, List.mem_of_getElem? (i := 969) (by decide +kernel), List.mem_of_getElem? (i := 1397) (by decide +kernel), List.mem_of_getElem? (i := 1398) (by decide +kernel)⟩
theorem lw_p67 : lw_okq (⟨"ThinBodiesModel", "takesOff", "(III)V"⟩, 42) := ⟨⟨by decide +kernel, by decide +kernel⟩, List.mem_of_getElem? (i := 969) (by decide +kernel), List.mem_of_getElem? (i := 1401) (by decide +kernel), List.mem_of_getElem? (i := 1402) (by decide +kernel)⟩
theorem lw_p68 : lw_okq (⟨"ThinBodiesModel", "shortSquares", "()I"⟩, 42) := ⟨⟨by decide +kernel, by decide +kernel⟩, List.mem_of_getElem? (i := 969) (by decide +kernel), List.mem_of_getElem? (i := 1413) (by decide +kernel), List.mem_of_getElem? (i := 1414) (by decide +kernel)⟩
theorem lw_p69 : lw_okq (⟨"ThinBodiesModel", "isInLattice", "()Z"⟩, 42) := ⟨⟨by decide +kernel, by decide +kernel⟩, List.mem_of_getElem? (i := 969) (by decide +kernel), List.mem_of_getElem? (i := 1417) (by decide +kernel), List.mem_of_getElem? (i := 1418) (by decide +kernel)⟩
theorem lw_p70 : lw_okq (⟨"ThinBodiesModel", "keeps", "([I)V"⟩, 42) := ⟨⟨by decide +kernel, by decide +kernel⟩, List.mem_of_getElem? (i := 969) (by decide +kernel), List.mem_of_getElem? (i := 1441) (by decide +kernel), List.mem_of_getElem? (i := 1442) (by decide +kernel)⟩
theorem lw_p71 : lw_okq (⟨"ThinBodiesModel", "next", "()V"⟩, 42) := ⟨⟨by decide +kernel, by decide +kernel⟩, List.mem_of_getElem? (i := 969) (by decide +kernel), List.mem_of_getElem? (i := 1445) (by decide +kernel), List.mem_of_getElem? (i := 1446) (by decide +kernel)⟩
theorem lw_p72 : lw_okq (⟨"ThinBodiesModel", "byteAt", "(I)I"⟩, 42) := ⟨⟨by decide +kernel, by decide +kernel⟩, List.mem_of_getElem? (i := 969) (by decide +kernel), List.mem_of_getElem? (i := 1449) (by decide +kernel), List.mem_of_getElem? (i := 1450) (by decide +kernel)⟩
theorem lw_p73 : lw_okq (⟨"ThinBodiesModel", "isWordFrom", "(I)Z"⟩, 42) := ⟨⟨by decide +kernel, by decide +kernel⟩, List.mem_of_getElem? (i := 969) (by decide +kernel), List.mem_of_getElem? (i := 1455) (by decide +kernel), List.mem_of_getElem? (i := 1456) (by decide +kernel)⟩
theorem lw_p74 : lw_okq (⟨"ThinBodiesModel", "readsItem", "()Z"⟩, 42) := ⟨⟨by decide +kernel, by decide +kernel⟩, List.mem_of_getElem? (i := 969) (by decide +kernel), List.mem_of_getElem? (i := 1461) (by decide +kernel), List.mem_of_getElem? (i := 1462) (by decide +kernel)⟩
theorem lw_p75 : lw_okq (⟨"ThinBodiesModel", "readsRow", "(I)Z"⟩, 42) := ⟨⟨by decide +kernel, by decide +kernel⟩, List.mem_of_getElem? (i := 969) (by decide +kernel), List.mem_of_getElem? (i := 1465) (by decide +kernel), List.mem_of_getElem? (i := 1466) (by decide +kernel)⟩
theorem lw_p76 : lw_okq (⟨"ThinBodiesModel", "takesSigned", "(II)Z"⟩, 42) := ⟨⟨by decide +kernel, by decide +kernel⟩, List.mem_of_getElem? (i := 969) (by decide +kernel), List.mem_of_getElem? (i := 1469) (by decide +kernel), List.mem_of_getElem? (i := 1470) (by decide +kernel)⟩
theorem lw_p77 : lw_okq (⟨"ThinBodiesModel", "seesSigned", "(II)Z"⟩, 42) := ⟨⟨by decide +kernel, by decide +kernel⟩, List.mem_of_getElem? (i := 969) (by decide +kernel), List.mem_of_getElem? (i := 1473) (by decide +kernel), List.mem_of_getElem? (i := 1474) (by decide +kernel)⟩
theorem lw_p78 : lw_okq (⟨"ThinBodiesModel", "seesNumber", "(III)Z"⟩, 42) := ⟨⟨by decide +kernel, by decide +kernel⟩, List.mem_of_getElem? (i := 969) (by decide +kernel), List.mem_of_getElem? (i := 1477) (by decide +kernel), List.mem_of_getElem? (i := 1478) (by decide +kernel)⟩
theorem lw_p79 : lw_okq (⟨"ThinBodiesModel", "isWord", "(I)Z"⟩, 42) := ⟨⟨by decide +kernel, by decide +kernel⟩, List.mem_of_getElem? (i := 969) (by decide +kernel), List.mem_of_getElem? (i := 1481) (by decide +kernel), List.mem_of_getElem? (i := 1482) (by decide +kernel)⟩
def lw_privs_5 : List (MethodName × Nat) := [(⟨"ThinBodiesModel", "forms", "()I"⟩, 42), (⟨"ThinBodiesModel", "clears", "(I)Z"⟩, 42), (⟨"ThinBodiesModel", "changesRows", "(II)V"⟩, 42), (⟨"ThinBodiesModel", "takesOff", "(III)V"⟩, 42), (⟨"ThinBodiesModel", "shortSquares", "()I"⟩, 42), (⟨"ThinBodiesModel", "isInLattice", "()Z"⟩, 42), (⟨"ThinBodiesModel", "keeps", "([I)V"⟩, 42), (⟨"ThinBodiesModel", "next", "()V"⟩, 42), (⟨"ThinBodiesModel", "byteAt", "(I)I"⟩, 42), (⟨"ThinBodiesModel", "isWordFrom", "(I)Z"⟩, 42), (⟨"ThinBodiesModel", "readsItem", "()Z"⟩, 42), (⟨"ThinBodiesModel", "readsRow", "(I)Z"⟩, 42), (⟨"ThinBodiesModel", "takesSigned", "(II)Z"⟩, 42), (⟨"ThinBodiesModel", "seesSigned", "(II)Z"⟩, 42), (⟨"ThinBodiesModel", "seesNumber", "(III)Z"⟩, 42), (⟨"ThinBodiesModel", "isWord", "(I)Z"⟩, 42)]
theorem lw_r5 : ∀ q ∈ lw_privs_5, lw_okq q := List.forall_mem_cons.mpr ⟨lw_p64, List.forall_mem_cons.mpr ⟨lw_p65, List.forall_mem_cons.mpr ⟨lw_p66, List.forall_mem_cons.mpr ⟨lw_p67, List.forall_mem_cons.mpr ⟨lw_p68, List.forall_mem_cons.mpr ⟨lw_p69, List.forall_mem_cons.mpr ⟨lw_p70, List.forall_mem_cons.mpr ⟨lw_p71, List.forall_mem_cons.mpr ⟨lw_p72, List.forall_mem_cons.mpr ⟨lw_p73, List.forall_mem_cons.mpr ⟨lw_p74, List.forall_mem_cons.mpr ⟨lw_p75, List.forall_mem_cons.mpr ⟨lw_p76, List.forall_mem_cons.mpr ⟨lw_p77, List.forall_mem_cons.mpr ⟨lw_p78, List.forall_mem_cons.mpr ⟨lw_p79, fun _ h => absurd h List.not_mem_nil⟩⟩⟩⟩⟩⟩⟩⟩⟩⟩⟩⟩⟩⟩⟩⟩
theorem lw_p80 : lw_okq (⟨"ThinBodiesModel", "takesNumber", "(II)Z"⟩, 42) := ⟨⟨by decide +kernel, by decide +kernel⟩, List.mem_of_getElem? (i := 969) (by decide +kernel), List.mem_of_getElem? (i := 1485) (by decide +kernel), List.mem_of_getElem? (i := 1486) (by decide +kernel)⟩
theorem lw_p81 : lw_okq (⟨"ThinBodiesModel", "readsLetters", "()Z"⟩, 42) := ⟨⟨by decide +kernel, by decide +kernel⟩, List.mem_of_getElem? (i := 969) (by decide +kernel), List.mem_of_getElem? (i := 1489) (by decide +kernel), List.mem_of_getElem? (i := 1490) (by decide +kernel)⟩
theorem lw_p82 : lw_okq (⟨"ThinBodiesModel", "readsBox", "()Z"⟩, 42) := ⟨⟨by decide +kernel, by decide +kernel⟩, List.mem_of_getElem? (i := 969) (by decide +kernel), List.mem_of_getElem? (i := 1493) (by decide +kernel), List.mem_of_getElem? (i := 1494) (by decide +kernel)⟩
theorem lw_p83 : lw_okq (⟨"ThinBodiesModel", "comesBack", "([I)V"⟩, 42) := ⟨⟨by decide +kernel, by decide +kernel⟩, List.mem_of_getElem? (i := 969) (by decide +kernel), List.mem_of_getElem? (i := 1497) (by decide +kernel), List.mem_of_getElem? (i := 1498) (by decide +kernel)⟩
def lw_privs_6 : List (MethodName × Nat) := [(⟨"ThinBodiesModel", "takesNumber", "(II)Z"⟩, 42), (⟨"ThinBodiesModel", "readsLetters", "()Z"⟩, 42), (⟨"ThinBodiesModel", "readsBox", "()Z"⟩, 42), (⟨"ThinBodiesModel", "comesBack", "([I)V"⟩, 42)]
theorem lw_r6 : ∀ q ∈ lw_privs_6, lw_okq q := List.forall_mem_cons.mpr ⟨lw_p80, List.forall_mem_cons.mpr ⟨lw_p81, List.forall_mem_cons.mpr ⟨lw_p82, List.forall_mem_cons.mpr ⟨lw_p83, fun _ h => absurd h List.not_mem_nil⟩⟩⟩⟩
def lw_privs : List (MethodName × Nat) := lw_privs_1 ++ (lw_privs_2 ++ (lw_privs_3 ++ (lw_privs_4 ++ (lw_privs_5 ++ (lw_privs_6)))))
def lw_tbl : List Cond := k2_sels lw_privs ++ tables_1
theorem lw_privs_ok : ∀ q ∈ lw_privs, lw_okq q := by
  show ∀ q ∈ lw_privs_1 ++ (lw_privs_2 ++ (lw_privs_3 ++ (lw_privs_4 ++ (lw_privs_5 ++ (lw_privs_6))))), lw_okq q
  exact List.forall_mem_append.mpr ⟨lw_r1, List.forall_mem_append.mpr ⟨lw_r2, List.forall_mem_append.mpr ⟨lw_r3, List.forall_mem_append.mpr ⟨lw_r4, List.forall_mem_append.mpr ⟨lw_r5, lw_r6⟩⟩⟩⟩⟩
def RX0 : String := "ThinBodies$Body"
def TX0 : u_T := fun k => match k with
  | 0 => ("ThinBodies$Body", "n", "I", false)
  | 1 => ("ThinBodies$Body", "lows", "[I", true)
  | 2 => ("ThinBodies$Body", "highs", "[I", true)
  | 3 => ("ThinBodies$Body", "rows", "[LThinBodies$Row;", true)
  | 4 => ("ThinBodies$Body", "rowCount", "I", false)
  | _ => ("ThinBodies$Body", "vectors", "[[I", true)
def tyX0 : Nat → FieldType := fun k => match k with
  | 0 => .int
  | 1 => .array .int
  | 2 => .array .int
  | 3 => .array (.object "ThinBodies$Row")
  | 4 => .int
  | _ => .array (.array .int)
abbrev wsX00 : List Cond := u_ws RX0 TX0 6
theorem nmX0 : ∀ a, a < 6 → ∀ b, b < 6 → a ≠ b → (TX0 a).2.1 ≠ (TX0 b).2.1 := by decide +kernel
theorem tyX0_ok : ∀ k, k < 6 → parseFieldDescriptor (TX0 k).2.2.1 = some (tyX0 k) := by decide +kernel
abbrev cX0_init : ByteArray := prog_2_method_1_code
def yX0_init : MethodName := ⟨RX0, "<init>", "()V"⟩
abbrev cX0_resetVectors : ByteArray := prog_2_method_2_code
def yX0_resetVectors : MethodName := ⟨RX0, "resetVectors", "()V"⟩
abbrev cX0_take : ByteArray := prog_2_method_3_code
def yX0_take : MethodName := ⟨RX0, "take", "(LThinBodies$Body;)V"⟩
abbrev cX0_hasLetter : ByteArray := prog_2_method_4_code
def yX0_hasLetter : MethodName := ⟨RX0, "hasLetter", "(I)Z"⟩
abbrev cX0_hasRow : ByteArray := prog_2_method_5_code
def yX0_hasRow : MethodName := ⟨RX0, "hasRow", "(I)Z"⟩
abbrev cX0_points : ByteArray := prog_2_method_6_code
def yX0_points : MethodName := ⟨RX0, "points", "()I"⟩
abbrev cX0_pointsWithLetters : ByteArray := prog_2_method_7_code
def yX0_pointsWithLetters : MethodName := ⟨RX0, "pointsWithLetters", "(I)I"⟩
abbrev cX0_pointsWithSide : ByteArray := prog_2_method_8_code
def yX0_pointsWithSide : MethodName := ⟨RX0, "pointsWithSide", "(III)I"⟩
abbrev cX0_setLetters : ByteArray := prog_2_method_9_code
def yX0_setLetters : MethodName := ⟨RX0, "setLetters", "(I)V"⟩
abbrev cX0_setSide : ByteArray := prog_2_method_10_code
def yX0_setSide : MethodName := ⟨RX0, "setSide", "(III)V"⟩
abbrev cX0_addRow : ByteArray := prog_2_method_11_code
def yX0_addRow : MethodName := ⟨RX0, "addRow", "(III)LThinBodies$Row;"⟩
abbrev cX0_brokenIn : ByteArray := prog_2_method_12_code
def yX0_brokenIn : MethodName := ⟨RX0, "brokenIn", "([I)I"⟩
def RX1 : String := "ThinBodies$Cloud"
def TX1 : u_T := fun k => match k with
  | 0 => ("ThinBodies$Cloud", "stale", "Z", false)
  | 1 => ("ThinBodies$Cloud", "size", "I", false)
  | 2 => ("ThinBodies$Cloud", "inside", "I", false)
  | 3 => ("ThinBodies$Cloud", "greatest", "I", false)
  | 4 => ("ThinBodies$Cloud", "least", "I", false)
  | 5 => ("ThinBodies$Cloud", "firstGreatest", "I", false)
  | 6 => ("ThinBodies$Cloud", "thinDirection", "I", false)
  | 7 => ("ThinBodies$Cloud", "thinSpan", "I", false)
  | 8 => ("ThinBodies$Cloud", "spots", "[I", true)
  | 9 => ("ThinBodies$Cloud", "at", "[I", true)
  | _ => ("ThinBodies$Cloud", "weights", "[I", true)
def tyX1 : Nat → FieldType := fun k => match k with
  | 0 => .boolean
  | 1 => .int
  | 2 => .int
  | 3 => .int
  | 4 => .int
  | 5 => .int
  | 6 => .int
  | 7 => .int
  | 8 => .array .int
  | 9 => .array .int
  | _ => .array .int
abbrev wsX10 : List Cond := u_ws RX1 TX1 11
theorem nmX1 : ∀ a, a < 11 → ∀ b, b < 11 → a ≠ b → (TX1 a).2.1 ≠ (TX1 b).2.1 := by decide +kernel
theorem tyX1_ok : ∀ k, k < 11 → parseFieldDescriptor (TX1 k).2.2.1 = some (tyX1 k) := by decide +kernel
abbrev cX1_init : ByteArray := prog_3_method_1_code
def yX1_init : MethodName := ⟨RX1, "<init>", "()V"⟩
abbrev cX1_refresh : ByteArray := prog_3_method_2_code
def yX1_refresh : MethodName := ⟨RX1, "refresh", "(LThinBodies$Body;)V"⟩
abbrev cX1_stepOn : ByteArray := prog_3_method_3_code
def yX1_stepOn : MethodName := ⟨RX1, "stepOn", "(LThinBodies$Body;)V"⟩
abbrev cX1_brokenAt : ByteArray := prog_3_method_4_code
def yX1_brokenAt : MethodName := ⟨RX1, "brokenAt", "(I)I"⟩
abbrev cX1_isIn : ByteArray := prog_3_method_5_code
def yX1_isIn : MethodName := ⟨RX1, "isIn", "(I)Z"⟩
abbrev cX1_letterAt : ByteArray := prog_3_method_6_code
def yX1_letterAt : MethodName := ⟨RX1, "letterAt", "(II)I"⟩
abbrev cX1_readInto : ByteArray := prog_3_method_7_code
def yX1_readInto : MethodName := ⟨RX1, "readInto", "(I[II)V"⟩
abbrev cX1_placeOf : ByteArray := prog_3_method_8_code
def yX1_placeOf : MethodName := ⟨RX1, "placeOf", "(I)I"⟩
abbrev cX1_directions : ByteArray := prog_3_method_9_code
def yX1_directions : MethodName := ⟨RX1, "directions", "(I)I"⟩
abbrev cX1_sweep : ByteArray := prog_3_method_10_code
def yX1_sweep : MethodName := ⟨RX1, "sweep", "(III)V"⟩
abbrev cX1_weightAt : ByteArray := prog_3_method_11_code
def yX1_weightAt : MethodName := ⟨RX1, "weightAt", "(II)I"⟩
abbrev cX1_findThin : ByteArray := prog_3_method_12_code
def yX1_findThin : MethodName := ⟨RX1, "findThin", "(I)V"⟩
abbrev cX1_sumOfLetter : ByteArray := prog_3_method_13_code
def yX1_sumOfLetter : MethodName := ⟨RX1, "sumOfLetter", "(I)I"⟩
abbrev cX1_squareToSides : ByteArray := prog_3_method_14_code
def yX1_squareToSides : MethodName := ⟨RX1, "squareToSides", "(ILThinBodies$Body;)I"⟩
abbrev cX1_squareToBroken : ByteArray := prog_3_method_15_code
def yX1_squareToBroken : MethodName := ⟨RX1, "squareToBroken", "(II)I"⟩
abbrev cX1_squareBetween : ByteArray := prog_3_method_16_code
def yX1_squareBetween : MethodName := ⟨RX1, "squareBetween", "(III)I"⟩
abbrev cX1_fewestBroken : ByteArray := prog_3_method_17_code
def yX1_fewestBroken : MethodName := ⟨RX1, "fewestBroken", "()I"⟩
abbrev cX1_isInWithout : ByteArray := prog_3_method_18_code
def yX1_isInWithout : MethodName := ⟨RX1, "isInWithout", "(II)Z"⟩
abbrev cX1_insideWithout : ByteArray := prog_3_method_19_code
def yX1_insideWithout : MethodName := ⟨RX1, "insideWithout", "(I)I"⟩
abbrev cX1_insideAs : ByteArray := prog_3_method_20_code
def yX1_insideAs : MethodName := ⟨RX1, "insideAs", "(LThinBodies$Body;II)I"⟩
abbrev cX1_leastBound : ByteArray := prog_3_method_21_code
def yX1_leastBound : MethodName := ⟨RX1, "leastBound", "(LThinBodies$Body;I)I"⟩
def RX2 : String := "ThinBodies$Lattice"
def TX2 : u_T := fun k => match k with
  | 0 => ("ThinBodies$Lattice", "rows", "[[J", true)
  | 1 => ("ThinBodies$Lattice", "shortVector", "[I", true)
  | 2 => ("ThinBodies$Lattice", "shortSquare", "I", false)
  | 3 => ("ThinBodies$Lattice", "n", "I", false)
  | 4 => ("ThinBodies$Lattice", "rest", "[J", true)
  | 5 => ("ThinBodies$Lattice", "times", "[J", true)
  | _ => ("ThinBodies$Lattice", "trial", "[I", true)
def tyX2 : Nat → FieldType := fun k => match k with
  | 0 => .array (.array .long)
  | 1 => .array .int
  | 2 => .int
  | 3 => .int
  | 4 => .array .long
  | 5 => .array .long
  | _ => .array .int
abbrev wsX20 : List Cond := u_ws RX2 TX2 7
theorem nmX2 : ∀ a, a < 7 → ∀ b, b < 7 → a ≠ b → (TX2 a).2.1 ≠ (TX2 b).2.1 := by decide +kernel
theorem tyX2_ok : ∀ k, k < 7 → parseFieldDescriptor (TX2 k).2.2.1 = some (tyX2 k) := by decide +kernel
abbrev cX2_init : ByteArray := prog_4_method_1_code
def yX2_init : MethodName := ⟨RX2, "<init>", "()V"⟩
abbrev cX2_makeForm : ByteArray := prog_4_method_2_code
def yX2_makeForm : MethodName := ⟨RX2, "makeForm", "(LThinBodies$Body;)I"⟩
abbrev cX2_clearBelow : ByteArray := prog_4_method_3_code
def yX2_clearBelow : MethodName := ⟨RX2, "clearBelow", "(II)I"⟩
abbrev cX2_addTimes : ByteArray := prog_4_method_4_code
def yX2_addTimes : MethodName := ⟨RX2, "addTimes", "(IIJ)V"⟩
abbrev cX2_lowerAbove : ByteArray := prog_4_method_5_code
def yX2_lowerAbove : MethodName := ⟨RX2, "lowerAbove", "()V"⟩
abbrev cX2_contains : ByteArray := prog_4_method_6_code
def yX2_contains : MethodName := ⟨RX2, "contains", "([I)Z"⟩
abbrev cX2_findShort : ByteArray := prog_4_method_7_code
def yX2_findShort : MethodName := ⟨RX2, "findShort", "(LThinBodies$Body;)V"⟩
abbrev cX2_tryLetter : ByteArray := prog_4_method_8_code
def yX2_tryLetter : MethodName := ⟨RX2, "tryLetter", "(II)V"⟩
def RX3 : String := "ThinBodies$Reader"
def TX3 : u_T := fun k => match k with
  | 0 => ("ThinBodies$Reader", "length", "I", false)
  | 1 => ("ThinBodies$Reader", "bytes", "[B", true)
  | 2 => ("ThinBodies$Reader", "sort", "I", false)
  | 3 => ("ThinBodies$Reader", "first", "I", false)
  | 4 => ("ThinBodies$Reader", "behind", "I", false)
  | _ => ("ThinBodies$Reader", "value", "I", false)
def tyX3 : Nat → FieldType := fun k => match k with
  | 0 => .int
  | 1 => .array .byte
  | 2 => .int
  | 3 => .int
  | 4 => .int
  | _ => .int
abbrev wsX30 : List Cond := u_ws RX3 TX3 6
theorem nmX3 : ∀ a, a < 6 → ∀ b, b < 6 → a ≠ b → (TX3 a).2.1 ≠ (TX3 b).2.1 := by decide +kernel
theorem tyX3_ok : ∀ k, k < 6 → parseFieldDescriptor (TX3 k).2.2.1 = some (tyX3 k) := by decide +kernel
abbrev cX3_init : ByteArray := prog_5_method_1_code
def yX3_init : MethodName := ⟨RX3, "<init>", "()V"⟩
abbrev cX3_add : ByteArray := prog_5_method_2_code
def yX3_add : MethodName := ⟨RX3, "add", "(B)V"⟩
abbrev cX3_read : ByteArray := prog_5_method_3_code
def yX3_read : MethodName := ⟨RX3, "read", "(LThinBodies$Body;)I"⟩
abbrev cX3_nextToken : ByteArray := prog_5_method_4_code
def yX3_nextToken : MethodName := ⟨RX3, "nextToken", "()V"⟩
abbrev cX3_sortAt : ByteArray := prog_5_method_5_code
def yX3_sortAt : MethodName := ⟨RX3, "sortAt", "(I)I"⟩
abbrev cX3_isWord : ByteArray := prog_5_method_6_code
def yX3_isWord : MethodName := ⟨RX3, "isWord", "(Ljava/lang/String;)Z"⟩
abbrev cX3_kindOfWord : ByteArray := prog_5_method_7_code
def yX3_kindOfWord : MethodName := ⟨RX3, "kindOfWord", "()I"⟩
abbrev cX3_seesNumber : ByteArray := prog_5_method_8_code
def yX3_seesNumber : MethodName := ⟨RX3, "seesNumber", "(II)Z"⟩
abbrev cX3_seesSigned : ByteArray := prog_5_method_9_code
def yX3_seesSigned : MethodName := ⟨RX3, "seesSigned", "(II)Z"⟩
abbrev cX3_readItem : ByteArray := prog_5_method_10_code
def yX3_readItem : MethodName := ⟨RX3, "readItem", "(LThinBodies$Body;)Z"⟩
abbrev cX3_readLetters : ByteArray := prog_5_method_11_code
def yX3_readLetters : MethodName := ⟨RX3, "readLetters", "(LThinBodies$Body;)Z"⟩
abbrev cX3_readBox : ByteArray := prog_5_method_12_code
def yX3_readBox : MethodName := ⟨RX3, "readBox", "(LThinBodies$Body;)Z"⟩
abbrev cX3_readRow : ByteArray := prog_5_method_13_code
def yX3_readRow : MethodName := ⟨RX3, "readRow", "(LThinBodies$Body;I)Z"⟩
def RX4 : String := "ThinBodies$Row"
def TX4 : u_T := fun k => match k with
  | 0 => ("ThinBodies$Row", "kind", "I", false)
  | 1 => ("ThinBodies$Row", "bound", "I", false)
  | 2 => ("ThinBodies$Row", "within", "I", false)
  | _ => ("ThinBodies$Row", "numbers", "[I", true)
def tyX4 : Nat → FieldType := fun k => match k with
  | 0 => .int
  | 1 => .int
  | 2 => .int
  | _ => .array .int
abbrev wsX40 : List Cond := u_ws RX4 TX4 4
theorem nmX4 : ∀ a, a < 4 → ∀ b, b < 4 → a ≠ b → (TX4 a).2.1 ≠ (TX4 b).2.1 := by decide +kernel
theorem tyX4_ok : ∀ k, k < 4 → parseFieldDescriptor (TX4 k).2.2.1 = some (tyX4 k) := by decide +kernel
abbrev cX4_init : ByteArray := prog_6_method_1_code
def yX4_init : MethodName := ⟨RX4, "<init>", "()V"⟩
abbrev cX4_begin : ByteArray := prog_6_method_2_code
def yX4_begin : MethodName := ⟨RX4, "begin", "(III)V"⟩
abbrev cX4_take : ByteArray := prog_6_method_3_code
def yX4_take : MethodName := ⟨RX4, "take", "(LThinBodies$Row;)V"⟩
abbrev cX4_takesPart : ByteArray := prog_6_method_4_code
def yX4_takesPart : MethodName := ⟨RX4, "takesPart", "(II)Z"⟩
abbrev cX4_part : ByteArray := prog_6_method_5_code
def yX4_part : MethodName := ⟨RX4, "part", "(I)I"⟩
abbrev cX4_setPart : ByteArray := prog_6_method_6_code
def yX4_setPart : MethodName := ⟨RX4, "setPart", "(II)V"⟩
abbrev cX4_isUnder : ByteArray := prog_6_method_7_code
def yX4_isUnder : MethodName := ⟨RX4, "isUnder", "(II)Z"⟩
abbrev cX4_sumIn : ByteArray := prog_6_method_8_code
def yX4_sumIn : MethodName := ⟨RX4, "sumIn", "([II)I"⟩
abbrev cX4_sumInPacked : ByteArray := prog_6_method_9_code
def yX4_sumInPacked : MethodName := ⟨RX4, "sumInPacked", "(II)I"⟩
abbrev cX4_leastIn : ByteArray := prog_6_method_10_code
def yX4_leastIn : MethodName := ⟨RX4, "leastIn", "([I[II)I"⟩
abbrev cX4_mostIn : ByteArray := prog_6_method_11_code
def yX4_mostIn : MethodName := ⟨RX4, "mostIn", "([I[II)I"⟩
abbrev cX4_allows : ByteArray := prog_6_method_12_code
def yX4_allows : MethodName := ⟨RX4, "allows", "(I)Z"⟩
abbrev cX4_allowsAs : ByteArray := prog_6_method_13_code
def yX4_allowsAs : MethodName := ⟨RX4, "allowsAs", "(II)Z"⟩
abbrev cX4_isDead : ByteArray := prog_6_method_14_code
def yX4_isDead : MethodName := ⟨RX4, "isDead", "(II)Z"⟩
abbrev cX4_isWhole : ByteArray := prog_6_method_15_code
def yX4_isWhole : MethodName := ⟨RX4, "isWhole", "(II)Z"⟩
abbrev cX4_leastBoundFor : ByteArray := prog_6_method_16_code
def yX4_leastBoundFor : MethodName := ⟨RX4, "leastBoundFor", "(I)I"⟩
def RX5 : String := "ThinBodies$Sheet"
def TX5 : u_T := fun k => match k with
  | 0 => ("ThinBodies$Sheet", "bits", "I", false)
  | 1 => ("ThinBodies$Sheet", "size", "I", false)
  | _ => ("ThinBodies$Sheet", "numbers", "[J", true)
def tyX5 : Nat → FieldType := fun k => match k with
  | 0 => .int
  | 1 => .int
  | _ => .array .long
abbrev wsX50 : List Cond := u_ws RX5 TX5 3
theorem nmX5 : ∀ a, a < 3 → ∀ b, b < 3 → a ≠ b → (TX5 a).2.1 ≠ (TX5 b).2.1 := by decide +kernel
theorem tyX5_ok : ∀ k, k < 3 → parseFieldDescriptor (TX5 k).2.2.1 = some (tyX5 k) := by decide +kernel
abbrev cX5_init : ByteArray := prog_7_method_1_code
def yX5_init : MethodName := ⟨RX5, "<init>", "()V"⟩
abbrev cX5_begin : ByteArray := prog_7_method_2_code
def yX5_begin : MethodName := ⟨RX5, "begin", "(II)V"⟩
abbrev cX5_put : ByteArray := prog_7_method_3_code
def yX5_put : MethodName := ⟨RX5, "put", "(IJ)V"⟩
abbrev cX5_hasRange : ByteArray := prog_7_method_4_code
def yX5_hasRange : MethodName := ⟨RX5, "hasRange", "(II)Z"⟩
def RX6 : String := "ThinBodies$Tree"
def TX6 : u_T := fun k => match k with
  | 0 => ("ThinBodies$Tree", "stale", "Z", false)
  | 1 => ("ThinBodies$Tree", "cellCount", "I", false)
  | 2 => ("ThinBodies$Tree", "leafCount", "I", false)
  | 3 => ("ThinBodies$Tree", "deadCount", "I", false)
  | 4 => ("ThinBodies$Tree", "deep", "I", false)
  | 5 => ("ThinBodies$Tree", "leaves", "[J", true)
  | 6 => ("ThinBodies$Tree", "lows", "[I", true)
  | _ => ("ThinBodies$Tree", "highs", "[I", true)
def tyX6 : Nat → FieldType := fun k => match k with
  | 0 => .boolean
  | 1 => .int
  | 2 => .int
  | 3 => .int
  | 4 => .int
  | 5 => .array .long
  | 6 => .array .int
  | _ => .array .int
abbrev wsX60 : List Cond := u_ws RX6 TX6 8
theorem nmX6 : ∀ a, a < 8 → ∀ b, b < 8 → a ≠ b → (TX6 a).2.1 ≠ (TX6 b).2.1 := by decide +kernel
theorem tyX6_ok : ∀ k, k < 8 → parseFieldDescriptor (TX6 k).2.2.1 = some (tyX6 k) := by decide +kernel
abbrev cX6_init : ByteArray := prog_8_method_1_code
def yX6_init : MethodName := ⟨RX6, "<init>", "()V"⟩
abbrev cX6_refresh : ByteArray := prog_8_method_2_code
def yX6_refresh : MethodName := ⟨RX6, "refresh", "(LThinBodies$Body;)V"⟩
abbrev cX6_grow : ByteArray := prog_8_method_3_code
def yX6_grow : MethodName := ⟨RX6, "grow", "(LThinBodies$Body;I)V"⟩
abbrev cX6_verdictOf : ByteArray := prog_8_method_4_code
def yX6_verdictOf : MethodName := ⟨RX6, "verdictOf", "(LThinBodies$Body;)I"⟩
abbrev cX6_widest : ByteArray := prog_8_method_5_code
def yX6_widest : MethodName := ⟨RX6, "widest", "(I)I"⟩
abbrev cX6_addLeaf : ByteArray := prog_8_method_6_code
def yX6_addLeaf : MethodName := ⟨RX6, "addLeaf", "(III)V"⟩
abbrev cX6_hasLeaf : ByteArray := prog_8_method_7_code
def yX6_hasLeaf : MethodName := ⟨RX6, "hasLeaf", "(I)Z"⟩
abbrev cX6_lowOf : ByteArray := prog_8_method_8_code
def yX6_lowOf : MethodName := ⟨RX6, "lowOf", "(II)I"⟩
abbrev cX6_highOf : ByteArray := prog_8_method_9_code
def yX6_highOf : MethodName := ⟨RX6, "highOf", "(II)I"⟩
abbrev cX6_deadRow : ByteArray := prog_8_method_10_code
def yX6_deadRow : MethodName := ⟨RX6, "deadRow", "(I)I"⟩
abbrev cX6_pointsIn : ByteArray := prog_8_method_11_code
def yX6_pointsIn : MethodName := ⟨RX6, "pointsIn", "(II)I"⟩
abbrev cX6_proofOf : ByteArray := prog_8_method_12_code
def yX6_proofOf : MethodName := ⟨RX6, "proofOf", "(II)I"⟩
abbrev cX6_leafWith : ByteArray := prog_8_method_13_code
def yX6_leafWith : MethodName := ⟨RX6, "leafWith", "([JI)I"⟩
abbrev cX6_isWith : ByteArray := prog_8_method_14_code
def yX6_isWith : MethodName := ⟨RX6, "isWith", "(I[JI)Z"⟩
def RX7 : String := "ThinBodies"
def TX7 : u_T := fun k => match k with
  | 0 => ("ThinBodies", "body", "LThinBodies$Body;", true)
  | 1 => ("ThinBodies", "kept", "LThinBodies$Body;", true)
  | 2 => ("ThinBodies", "draft", "LThinBodies$Body;", true)
  | 3 => ("ThinBodies", "keeps", "Z", false)
  | 4 => ("ThinBodies", "cloud", "LThinBodies$Cloud;", true)
  | 5 => ("ThinBodies", "cells", "LThinBodies$Tree;", true)
  | 6 => ("ThinBodies", "lattice", "LThinBodies$Lattice;", true)
  | 7 => ("ThinBodies", "tape", "LThinBodies$Reader;", true)
  | 8 => ("ThinBodies", "sheets", "[LThinBodies$Sheet;", true)
  | 9 => ("ThinBodies", "found", "[I", true)
  | _ => ("ThinBodies", "spot", "[I", true)
def tyX7 : Nat → FieldType := fun k => match k with
  | 0 => .object "ThinBodies$Body"
  | 1 => .object "ThinBodies$Body"
  | 2 => .object "ThinBodies$Body"
  | 3 => .boolean
  | 4 => .object "ThinBodies$Cloud"
  | 5 => .object "ThinBodies$Tree"
  | 6 => .object "ThinBodies$Lattice"
  | 7 => .object "ThinBodies$Reader"
  | 8 => .array (.object "ThinBodies$Sheet")
  | 9 => .array .int
  | _ => .array .int
abbrev wsX70 : List Cond := u_ws RX7 TX7 11
theorem nmX7 : ∀ a, a < 11 → ∀ b, b < 11 → a ≠ b → (TX7 a).2.1 ≠ (TX7 b).2.1 := by decide +kernel
theorem tyX7_ok : ∀ k, k < 11 → parseFieldDescriptor (TX7 k).2.2.1 = some (tyX7 k) := by decide +kernel
abbrev cX7_init : ByteArray := prog_1_method_1_code
def yX7_init : MethodName := ⟨RX7, "<init>", "()V"⟩
abbrev cX7_letters : ByteArray := prog_1_method_2_code
def yX7_letters : MethodName := ⟨RX7, "letters", "(I)I"⟩
abbrev cX7_box : ByteArray := prog_1_method_3_code
def yX7_box : MethodName := ⟨RX7, "box", "(III)I"⟩
abbrev cX7_boxOf : ByteArray := prog_1_method_4_code
def yX7_boxOf : MethodName := ⟨RX7, "boxOf", "(II)I"⟩
abbrev cX7_row : ByteArray := prog_1_method_5_code
def yX7_row : MethodName := ⟨RX7, "row", "(III)I"⟩
abbrev cX7_of : ByteArray := prog_1_method_6_code
def yX7_of : MethodName := ⟨RX7, "of", "(II)I"⟩
abbrev cX7_change : ByteArray := prog_1_method_7_code
def yX7_change : MethodName := ⟨RX7, "change", "(III)I"⟩
abbrev cX7_as : ByteArray := prog_1_method_8_code
def yX7_as : MethodName := ⟨RX7, "as", "(II)I"⟩
abbrev cX7_drop : ByteArray := prog_1_method_9_code
def yX7_drop : MethodName := ⟨RX7, "drop", "()I"⟩
abbrev cX7_many : ByteArray := prog_1_method_10_code
def yX7_many : MethodName := ⟨RX7, "many", "()I"⟩
abbrev cX7_point : ByteArray := prog_1_method_11_code
def yX7_point : MethodName := ⟨RX7, "point", "(II)I"⟩
abbrev cX7_holds : ByteArray := prog_1_method_12_code
def yX7_holds : MethodName := ⟨RX7, "holds", "(I)I"⟩
abbrev cX7_best : ByteArray := prog_1_method_13_code
def yX7_best : MethodName := ⟨RX7, "best", "(II)I"⟩
abbrev cX7_thin : ByteArray := prog_1_method_14_code
def yX7_thin : MethodName := ⟨RX7, "thin", "(I)I"⟩
abbrev cX7_mean : ByteArray := prog_1_method_15_code
def yX7_mean : MethodName := ⟨RX7, "mean", "(II)I"⟩
abbrev cX7_round : ByteArray := prog_1_method_16_code
def yX7_round : MethodName := ⟨RX7, "round", "(I)I"⟩
abbrev cX7_tree : ByteArray := prog_1_method_17_code
def yX7_tree : MethodName := ⟨RX7, "tree", "(I)I"⟩
abbrev cX7_leaf : ByteArray := prog_1_method_18_code
def yX7_leaf : MethodName := ⟨RX7, "leaf", "(II)I"⟩
abbrev cX7_side : ByteArray := prog_1_method_19_code
def yX7_side : MethodName := ⟨RX7, "side", "(III)I"⟩
abbrev cX7_where : ByteArray := prog_1_method_20_code
def yX7_where : MethodName := ⟨RX7, "where", "(I)I"⟩
abbrev cX7_judge : ByteArray := prog_1_method_21_code
def yX7_judge : MethodName := ⟨RX7, "judge", "(I)I"⟩
abbrev cX7_needs : ByteArray := prog_1_method_22_code
def yX7_needs : MethodName := ⟨RX7, "needs", "()I"⟩
abbrev cX7_without : ByteArray := prog_1_method_23_code
def yX7_without : MethodName := ⟨RX7, "without", "()I"⟩
abbrev cX7_kind : ByteArray := prog_1_method_24_code
def yX7_kind : MethodName := ⟨RX7, "kind", "(I)I"⟩
abbrev cX7_boundFor : ByteArray := prog_1_method_25_code
def yX7_boundFor : MethodName := ⟨RX7, "boundFor", "(I)I"⟩
abbrev cX7_base : ByteArray := prog_1_method_26_code
def yX7_base : MethodName := ⟨RX7, "base", "(III)I"⟩
abbrev cX7_baseOf : ByteArray := prog_1_method_27_code
def yX7_baseOf : MethodName := ⟨RX7, "baseOf", "(II)I"⟩
abbrev cX7_mix : ByteArray := prog_1_method_28_code
def yX7_mix : MethodName := ⟨RX7, "mix", "(III)I"⟩
abbrev cX7_swap : ByteArray := prog_1_method_29_code
def yX7_swap : MethodName := ⟨RX7, "swap", "(II)I"⟩
abbrev cX7_det : ByteArray := prog_1_method_30_code
def yX7_det : MethodName := ⟨RX7, "det", "()I"⟩
abbrev cX7_form : ByteArray := prog_1_method_31_code
def yX7_form : MethodName := ⟨RX7, "form", "(II)I"⟩
abbrev cX7_shortest : ByteArray := prog_1_method_32_code
def yX7_shortest : MethodName := ⟨RX7, "shortest", "(I)I"⟩
abbrev cX7_common : ByteArray := prog_1_method_33_code
def yX7_common : MethodName := ⟨RX7, "common", "()I"⟩
abbrev cX7_lies : ByteArray := prog_1_method_34_code
def yX7_lies : MethodName := ⟨RX7, "lies", "(I)I"⟩
abbrev cX7_feed : ByteArray := prog_1_method_35_code
def yX7_feed : MethodName := ⟨RX7, "feed", "(II)I"⟩
abbrev cX7_wipe : ByteArray := prog_1_method_36_code
def yX7_wipe : MethodName := ⟨RX7, "wipe", "()I"⟩
abbrev cX7_text : ByteArray := prog_1_method_37_code
def yX7_text : MethodName := ⟨RX7, "text", "()I"⟩
abbrev cX7_sheet : ByteArray := prog_1_method_38_code
def yX7_sheet : MethodName := ⟨RX7, "sheet", "(III)I"⟩
abbrev cX7_write : ByteArray := prog_1_method_39_code
def yX7_write : MethodName := ⟨RX7, "write", "(IIJ)J"⟩
abbrev cX7_copy : ByteArray := prog_1_method_40_code
def yX7_copy : MethodName := ⟨RX7, "copy", "(IIIII)I"⟩
abbrev cX7_lays : ByteArray := prog_1_method_41_code
def yX7_lays : MethodName := ⟨RX7, "lays", "(II)I"⟩
abbrev cX7_image : ByteArray := prog_1_method_42_code
def yX7_image : MethodName := ⟨RX7, "image", "()I"⟩
abbrev cX7_undo : ByteArray := prog_1_method_43_code
def yX7_undo : MethodName := ⟨RX7, "undo", "()I"⟩
abbrev cX7_tear : ByteArray := prog_1_method_44_code
def yX7_tear : MethodName := ⟨RX7, "tear", "()I"⟩
abbrev cX7_count : ByteArray := prog_1_method_45_code
def yX7_count : MethodName := ⟨RX7, "count", "(I)I"⟩
abbrev cX7_status : ByteArray := prog_1_method_46_code
def yX7_status : MethodName := ⟨RX7, "status", "(I)I"⟩
abbrev cX7_finding : ByteArray := prog_1_method_47_code
def yX7_finding : MethodName := ⟨RX7, "finding", "(I)I"⟩
abbrev cX7_bodyChanged : ByteArray := prog_1_method_48_code
def yX7_bodyChanged : MethodName := ⟨RX7, "bodyChanged", "()V"⟩
abbrev cX7_within : ByteArray := prog_1_method_49_code
def yX7_within : MethodName := ⟨RX7, "within", "(II)Z"⟩
abbrev cX7_isPair : ByteArray := prog_1_method_50_code
def yX7_isPair : MethodName := ⟨RX7, "isPair", "(II)Z"⟩
abbrev cX7_isSheet : ByteArray := prog_1_method_51_code
def yX7_isSheet : MethodName := ⟨RX7, "isSheet", "(I)Z"⟩
abbrev cX7_sheetTrouble : ByteArray := prog_1_method_52_code
def yX7_sheetTrouble : MethodName := ⟨RX7, "sheetTrouble", "(I)I"⟩
abbrev cX7_pointTrouble : ByteArray := prog_1_method_53_code
def yX7_pointTrouble : MethodName := ⟨RX7, "pointTrouble", "(I)I"⟩
abbrev cX7_smallPointTrouble : ByteArray := prog_1_method_54_code
def yX7_smallPointTrouble : MethodName := ⟨RX7, "smallPointTrouble", "(I)I"⟩
abbrev cX7_readSpot : ByteArray := prog_1_method_55_code
def yX7_readSpot : MethodName := ⟨RX7, "readSpot", "(LThinBodies$Sheet;)V"⟩
abbrev cX7_greatestDivisor : ByteArray := prog_1_method_56_code
def yX7_greatestDivisor : MethodName := ⟨RX7, "greatestDivisor", "(II)I"⟩
abbrev cX7_pack : ByteArray := prog_1_method_57_code
def yX7_pack : MethodName := ⟨RX7, "pack", "([II)I"⟩
abbrev cX7_unpack : ByteArray := prog_1_method_58_code
def yX7_unpack : MethodName := ⟨RX7, "unpack", "(II)I"⟩
def RX8 : String := "ThinBodiesModel"
def TX8 : u_T := fun k => match k with
  | 0 => ("ThinBodiesModel", "found", "[I", true)
  | 1 => ("ThinBodiesModel", "n", "I", false)
  | 2 => ("ThinBodiesModel", "low", "[I", true)
  | 3 => ("ThinBodiesModel", "high", "[I", true)
  | 4 => ("ThinBodiesModel", "rows", "I", false)
  | 5 => ("ThinBodiesModel", "row", "[I", true)
  | 6 => ("ThinBodiesModel", "vector", "[I", true)
  | 7 => ("ThinBodiesModel", "cell", "[I", true)
  | 8 => ("ThinBodiesModel", "p", "[J", true)
  | 9 => ("ThinBodiesModel", "held", "[I", true)
  | 10 => ("ThinBodiesModel", "inside", "[I", true)
  | 11 => ("ThinBodiesModel", "many", "I", false)
  | 12 => ("ThinBodiesModel", "top", "I", false)
  | 13 => ("ThinBodiesModel", "first", "I", false)
  | 14 => ("ThinBodiesModel", "span", "I", false)
  | 15 => ("ThinBodiesModel", "way", "[I", true)
  | 16 => ("ThinBodiesModel", "from", "[I", true)
  | 17 => ("ThinBodiesModel", "leaves", "[I", true)
  | 18 => ("ThinBodiesModel", "leafMany", "I", false)
  | 19 => ("ThinBodiesModel", "cells", "I", false)
  | 20 => ("ThinBodiesModel", "deep", "I", false)
  | 21 => ("ThinBodiesModel", "dead", "I", false)
  | 22 => ("ThinBodiesModel", "sums", "[I", true)
  | 23 => ("ThinBodiesModel", "form", "[I", true)
  | 24 => ("ThinBodiesModel", "sign", "I", false)
  | 25 => ("ThinBodiesModel", "left", "[J", true)
  | 26 => ("ThinBodiesModel", "shortOne", "[I", true)
  | 27 => ("ThinBodiesModel", "tape", "[I", true)
  | 28 => ("ThinBodiesModel", "taped", "I", false)
  | 29 => ("ThinBodiesModel", "read", "I", false)
  | 30 => ("ThinBodiesModel", "began", "I", false)
  | 31 => ("ThinBodiesModel", "token", "I", false)
  | 32 => ("ThinBodiesModel", "value", "I", false)
  | 33 => ("ThinBodiesModel", "last", "I", false)
  | 34 => ("ThinBodiesModel", "words", "[C", true)
  | 35 => ("ThinBodiesModel", "bitsOf", "[I", true)
  | 36 => ("ThinBodiesModel", "sizeOf", "[I", true)
  | 37 => ("ThinBodiesModel", "number", "[J", true)
  | 38 => ("ThinBodiesModel", "moved", "[J", true)
  | 39 => ("ThinBodiesModel", "kept", "[I", true)
  | 40 => ("ThinBodiesModel", "aside", "[I", true)
  | _ => ("ThinBodiesModel", "isKept", "Z", false)
def tyX8 : Nat → FieldType := fun k => match k with
  | 0 => .array .int
  | 1 => .int
  | 2 => .array .int
  | 3 => .array .int
  | 4 => .int
  | 5 => .array .int
  | 6 => .array .int
  | 7 => .array .int
  | 8 => .array .long
  | 9 => .array .int
  | 10 => .array .int
  | 11 => .int
  | 12 => .int
  | 13 => .int
  | 14 => .int
  | 15 => .array .int
  | 16 => .array .int
  | 17 => .array .int
  | 18 => .int
  | 19 => .int
  | 20 => .int
  | 21 => .int
  | 22 => .array .int
  | 23 => .array .int
  | 24 => .int
  | 25 => .array .long
  | 26 => .array .int
  | 27 => .array .int
  | 28 => .int
  | 29 => .int
  | 30 => .int
  | 31 => .int
  | 32 => .int
  | 33 => .int
  | 34 => .array .char
  | 35 => .array .int
  | 36 => .array .int
  | 37 => .array .long
  | 38 => .array .long
  | 39 => .array .int
  | 40 => .array .int
  | _ => .boolean
abbrev wsX80 : List Cond := u_ws RX8 TX8 42
theorem nmX8 : ∀ a, a < 42 → ∀ b, b < 42 → a ≠ b → (TX8 a).2.1 ≠ (TX8 b).2.1 := by decide +kernel
theorem tyX8_ok : ∀ k, k < 42 → parseFieldDescriptor (TX8 k).2.2.1 = some (tyX8 k) := by decide +kernel
abbrev cX8_init : ByteArray := prog_10_method_1_code
def yX8_init : MethodName := ⟨RX8, "<init>", "()V"⟩
abbrev cX8_in : ByteArray := prog_10_method_3_code
def yX8_in : MethodName := ⟨RX8, "in", "(JJJ)Z"⟩
abbrev cX8_finds : ByteArray := prog_10_method_4_code
def yX8_finds : MethodName := ⟨RX8, "finds", "(I)I"⟩
abbrev cX8_squares : ByteArray := prog_10_method_5_code
def yX8_squares : MethodName := ⟨RX8, "squares", "()V"⟩
abbrev cX8_isLetter : ByteArray := prog_10_method_6_code
def yX8_isLetter : MethodName := ⟨RX8, "isLetter", "(I)Z"⟩
abbrev cX8_isRow : ByteArray := prog_10_method_7_code
def yX8_isRow : MethodName := ⟨RX8, "isRow", "(I)Z"⟩
abbrev cX8_at : ByteArray := prog_10_method_8_code
def yX8_at : MethodName := ⟨RX8, "at", "(II)I"⟩
abbrev cX8_points : ByteArray := prog_10_method_9_code
def yX8_points : MethodName := ⟨RX8, "points", "()I"⟩
abbrev cX8_hasLetters : ByteArray := prog_10_method_10_code
def yX8_hasLetters : MethodName := ⟨RX8, "hasLetters", "(I)Z"⟩
abbrev cX8_letters : ByteArray := prog_10_method_11_code
def yX8_letters : MethodName := ⟨RX8, "letters", "(I)I"⟩
abbrev cX8_hasBox : ByteArray := prog_10_method_12_code
def yX8_hasBox : MethodName := ⟨RX8, "hasBox", "(III)Z"⟩
abbrev cX8_box : ByteArray := prog_10_method_13_code
def yX8_box : MethodName := ⟨RX8, "box", "(III)I"⟩
abbrev cX8_boxOf : ByteArray := prog_10_method_14_code
def yX8_boxOf : MethodName := ⟨RX8, "boxOf", "(II)I"⟩
abbrev cX8_adds : ByteArray := prog_10_method_15_code
def yX8_adds : MethodName := ⟨RX8, "adds", "(III)V"⟩
abbrev cX8_isOf : ByteArray := prog_10_method_16_code
def yX8_isOf : MethodName := ⟨RX8, "isOf", "(II)Z"⟩
abbrev cX8_row : ByteArray := prog_10_method_17_code
def yX8_row : MethodName := ⟨RX8, "row", "(III)I"⟩
abbrev cX8_edge : ByteArray := prog_10_method_18_code
def yX8_edge : MethodName := ⟨RX8, "edge", "(III)I"⟩
abbrev cX8_whole : ByteArray := prog_10_method_19_code
def yX8_whole : MethodName := ⟨RX8, "whole", "()V"⟩
abbrev cX8_least : ByteArray := prog_10_method_20_code
def yX8_least : MethodName := ⟨RX8, "least", "(II)I"⟩
abbrev cX8_most : ByteArray := prog_10_method_21_code
def yX8_most : MethodName := ⟨RX8, "most", "(II)I"⟩
abbrev cX8_of : ByteArray := prog_10_method_22_code
def yX8_of : MethodName := ⟨RX8, "of", "(II)I"⟩
abbrev cX8_change : ByteArray := prog_10_method_23_code
def yX8_change : MethodName := ⟨RX8, "change", "(III)I"⟩
abbrev cX8_as : ByteArray := prog_10_method_24_code
def yX8_as : MethodName := ⟨RX8, "as", "(II)I"⟩
abbrev cX8_drop : ByteArray := prog_10_method_25_code
def yX8_drop : MethodName := ⟨RX8, "drop", "()I"⟩
abbrev cX8_holdsBy : ByteArray := prog_10_method_26_code
def yX8_holdsBy : MethodName := ⟨RX8, "holdsBy", "(IIJ)Z"⟩
abbrev cX8_sumOf : ByteArray := prog_10_method_27_code
def yX8_sumOf : MethodName := ⟨RX8, "sumOf", "(I)J"⟩
abbrev cX8_holding : ByteArray := prog_10_method_28_code
def yX8_holding : MethodName := ⟨RX8, "holding", "()I"⟩
abbrev cX8_allRows : ByteArray := prog_10_method_29_code
def yX8_allRows : MethodName := ⟨RX8, "allRows", "()I"⟩
abbrev cX8_goesTo : ByteArray := prog_10_method_30_code
def yX8_goesTo : MethodName := ⟨RX8, "goesTo", "(I)V"⟩
abbrev cX8_looks : ByteArray := prog_10_method_31_code
def yX8_looks : MethodName := ⟨RX8, "looks", "()V"⟩
abbrev cX8_many : ByteArray := prog_10_method_32_code
def yX8_many : MethodName := ⟨RX8, "many", "()I"⟩
abbrev cX8_isIn : ByteArray := prog_10_method_33_code
def yX8_isIn : MethodName := ⟨RX8, "isIn", "(I)Z"⟩
abbrev cX8_point : ByteArray := prog_10_method_34_code
def yX8_point : MethodName := ⟨RX8, "point", "(II)I"⟩
abbrev cX8_takes : ByteArray := prog_10_method_35_code
def yX8_takes : MethodName := ⟨RX8, "takes", "(I)I"⟩
abbrev cX8_isNear : ByteArray := prog_10_method_36_code
def yX8_isNear : MethodName := ⟨RX8, "isNear", "()Z"⟩
abbrev cX8_holds : ByteArray := prog_10_method_37_code
def yX8_holds : MethodName := ⟨RX8, "holds", "(I)I"⟩
abbrev cX8_directions : ByteArray := prog_10_method_38_code
def yX8_directions : MethodName := ⟨RX8, "directions", "()I"⟩
abbrev cX8_measures : ByteArray := prog_10_method_39_code
def yX8_measures : MethodName := ⟨RX8, "measures", "(I)V"⟩
abbrev cX8_best : ByteArray := prog_10_method_40_code
def yX8_best : MethodName := ⟨RX8, "best", "(II)I"⟩
abbrev cX8_thin : ByteArray := prog_10_method_41_code
def yX8_thin : MethodName := ⟨RX8, "thin", "(I)I"⟩
abbrev cX8_common : ByteArray := prog_10_method_42_code
def yX8_common : MethodName := ⟨RX8, "common", "(II)I"⟩
abbrev cX8_mean : ByteArray := prog_10_method_43_code
def yX8_mean : MethodName := ⟨RX8, "mean", "(II)I"⟩
abbrev cX8_round : ByteArray := prog_10_method_44_code
def yX8_round : MethodName := ⟨RX8, "round", "(I)I"⟩
abbrev cX8_mayHold : ByteArray := prog_10_method_45_code
def yX8_mayHold : MethodName := ⟨RX8, "mayHold", "(III)Z"⟩
abbrev cX8_anyOf : ByteArray := prog_10_method_46_code
def yX8_anyOf : MethodName := ⟨RX8, "anyOf", "(III)Z"⟩
abbrev cX8_mustHold : ByteArray := prog_10_method_47_code
def yX8_mustHold : MethodName := ⟨RX8, "mustHold", "(III)Z"⟩
abbrev cX8_deadRow : ByteArray := prog_10_method_48_code
def yX8_deadRow : MethodName := ⟨RX8, "deadRow", "(I)I"⟩
abbrev cX8_isWhole : ByteArray := prog_10_method_49_code
def yX8_isWhole : MethodName := ⟨RX8, "isWhole", "(I)Z"⟩
abbrev cX8_leafAt : ByteArray := prog_10_method_50_code
def yX8_leafAt : MethodName := ⟨RX8, "leafAt", "(II)V"⟩
abbrev cX8_middle : ByteArray := prog_10_method_51_code
def yX8_middle : MethodName := ⟨RX8, "middle", "(II)I"⟩
abbrev cX8_parts : ByteArray := prog_10_method_52_code
def yX8_parts : MethodName := ⟨RX8, "parts", "(I)V"⟩
abbrev cX8_grows : ByteArray := prog_10_method_53_code
def yX8_grows : MethodName := ⟨RX8, "grows", "()V"⟩
abbrev cX8_tree : ByteArray := prog_10_method_54_code
def yX8_tree : MethodName := ⟨RX8, "tree", "(I)I"⟩
abbrev cX8_leaf : ByteArray := prog_10_method_55_code
def yX8_leaf : MethodName := ⟨RX8, "leaf", "(II)I"⟩
abbrev cX8_side : ByteArray := prog_10_method_56_code
def yX8_side : MethodName := ⟨RX8, "side", "(III)I"⟩
abbrev cX8_where : ByteArray := prog_10_method_57_code
def yX8_where : MethodName := ⟨RX8, "where", "(I)I"⟩
abbrev cX8_judge : ByteArray := prog_10_method_58_code
def yX8_judge : MethodName := ⟨RX8, "judge", "(I)I"⟩
abbrev cX8_ones : ByteArray := prog_10_method_59_code
def yX8_ones : MethodName := ⟨RX8, "ones", "(I)I"⟩
abbrev cX8_needs : ByteArray := prog_10_method_60_code
def yX8_needs : MethodName := ⟨RX8, "needs", "()I"⟩
abbrev cX8_without : ByteArray := prog_10_method_61_code
def yX8_without : MethodName := ⟨RX8, "without", "()I"⟩
abbrev cX8_kind : ByteArray := prog_10_method_62_code
def yX8_kind : MethodName := ⟨RX8, "kind", "(I)I"⟩
abbrev cX8_boundFor : ByteArray := prog_10_method_63_code
def yX8_boundFor : MethodName := ⟨RX8, "boundFor", "(I)I"⟩
abbrev cX8_areTwo : ByteArray := prog_10_method_64_code
def yX8_areTwo : MethodName := ⟨RX8, "areTwo", "(II)Z"⟩
abbrev cX8_base : ByteArray := prog_10_method_65_code
def yX8_base : MethodName := ⟨RX8, "base", "(III)I"⟩
abbrev cX8_baseOf : ByteArray := prog_10_method_66_code
def yX8_baseOf : MethodName := ⟨RX8, "baseOf", "(II)I"⟩
abbrev cX8_mix : ByteArray := prog_10_method_67_code
def yX8_mix : MethodName := ⟨RX8, "mix", "(III)I"⟩
abbrev cX8_swap : ByteArray := prog_10_method_68_code
def yX8_swap : MethodName := ⟨RX8, "swap", "(II)I"⟩
abbrev cX8_changesRows : ByteArray := prog_10_method_69_code
def yX8_changesRows : MethodName := ⟨RX8, "changesRows", "(II)V"⟩
abbrev cX8_takesOff : ByteArray := prog_10_method_70_code
def yX8_takesOff : MethodName := ⟨RX8, "takesOff", "(III)V"⟩
abbrev cX8_clears : ByteArray := prog_10_method_71_code
def yX8_clears : MethodName := ⟨RX8, "clears", "(I)Z"⟩
abbrev cX8_forms : ByteArray := prog_10_method_72_code
def yX8_forms : MethodName := ⟨RX8, "forms", "()I"⟩
abbrev cX8_det : ByteArray := prog_10_method_73_code
def yX8_det : MethodName := ⟨RX8, "det", "()I"⟩
abbrev cX8_form : ByteArray := prog_10_method_74_code
def yX8_form : MethodName := ⟨RX8, "form", "(II)I"⟩
abbrev cX8_isInLattice : ByteArray := prog_10_method_75_code
def yX8_isInLattice : MethodName := ⟨RX8, "isInLattice", "()Z"⟩
abbrev cX8_shortSquares : ByteArray := prog_10_method_76_code
def yX8_shortSquares : MethodName := ⟨RX8, "shortSquares", "()I"⟩
abbrev cX8_shortest : ByteArray := prog_10_method_77_code
def yX8_shortest : MethodName := ⟨RX8, "shortest", "(I)I"⟩
abbrev cX8_common_ : ByteArray := prog_10_method_78_code
def yX8_common_ : MethodName := ⟨RX8, "common", "()I"⟩
abbrev cX8_lies : ByteArray := prog_10_method_79_code
def yX8_lies : MethodName := ⟨RX8, "lies", "(I)I"⟩
abbrev cX8_feed : ByteArray := prog_10_method_80_code
def yX8_feed : MethodName := ⟨RX8, "feed", "(II)I"⟩
abbrev cX8_wipe : ByteArray := prog_10_method_81_code
def yX8_wipe : MethodName := ⟨RX8, "wipe", "()I"⟩
abbrev cX8_byteAt : ByteArray := prog_10_method_82_code
def yX8_byteAt : MethodName := ⟨RX8, "byteAt", "(I)I"⟩
abbrev cX8_isWordFrom : ByteArray := prog_10_method_83_code
def yX8_isWordFrom : MethodName := ⟨RX8, "isWordFrom", "(I)Z"⟩
abbrev cX8_next : ByteArray := prog_10_method_84_code
def yX8_next : MethodName := ⟨RX8, "next", "()V"⟩
abbrev cX8_isWord : ByteArray := prog_10_method_85_code
def yX8_isWord : MethodName := ⟨RX8, "isWord", "(I)Z"⟩
abbrev cX8_seesNumber : ByteArray := prog_10_method_86_code
def yX8_seesNumber : MethodName := ⟨RX8, "seesNumber", "(III)Z"⟩
abbrev cX8_takesNumber : ByteArray := prog_10_method_87_code
def yX8_takesNumber : MethodName := ⟨RX8, "takesNumber", "(II)Z"⟩
abbrev cX8_seesSigned : ByteArray := prog_10_method_88_code
def yX8_seesSigned : MethodName := ⟨RX8, "seesSigned", "(II)Z"⟩
abbrev cX8_takesSigned : ByteArray := prog_10_method_89_code
def yX8_takesSigned : MethodName := ⟨RX8, "takesSigned", "(II)Z"⟩
abbrev cX8_readsLetters : ByteArray := prog_10_method_90_code
def yX8_readsLetters : MethodName := ⟨RX8, "readsLetters", "()Z"⟩
abbrev cX8_readsBox : ByteArray := prog_10_method_91_code
def yX8_readsBox : MethodName := ⟨RX8, "readsBox", "()Z"⟩
abbrev cX8_readsRow : ByteArray := prog_10_method_92_code
def yX8_readsRow : MethodName := ⟨RX8, "readsRow", "(I)Z"⟩
abbrev cX8_readsItem : ByteArray := prog_10_method_93_code
def yX8_readsItem : MethodName := ⟨RX8, "readsItem", "()Z"⟩
abbrev cX8_text : ByteArray := prog_10_method_94_code
def yX8_text : MethodName := ⟨RX8, "text", "()I"⟩
abbrev cX8_isSheet : ByteArray := prog_10_method_95_code
def yX8_isSheet : MethodName := ⟨RX8, "isSheet", "(I)Z"⟩
abbrev cX8_narrow : ByteArray := prog_10_method_96_code
def yX8_narrow : MethodName := ⟨RX8, "narrow", "(IJ)J"⟩
abbrev cX8_sheet : ByteArray := prog_10_method_97_code
def yX8_sheet : MethodName := ⟨RX8, "sheet", "(III)I"⟩
abbrev cX8_write : ByteArray := prog_10_method_98_code
def yX8_write : MethodName := ⟨RX8, "write", "(IIJ)J"⟩
abbrev cX8_copy : ByteArray := prog_10_method_99_code
def yX8_copy : MethodName := ⟨RX8, "copy", "(IIIII)I"⟩
abbrev cX8_lays : ByteArray := prog_10_method_100_code
def yX8_lays : MethodName := ⟨RX8, "lays", "(II)I"⟩
abbrev cX8_keeps : ByteArray := prog_10_method_101_code
def yX8_keeps : MethodName := ⟨RX8, "keeps", "([I)V"⟩
abbrev cX8_comesBack : ByteArray := prog_10_method_102_code
def yX8_comesBack : MethodName := ⟨RX8, "comesBack", "([I)V"⟩
abbrev cX8_image : ByteArray := prog_10_method_103_code
def yX8_image : MethodName := ⟨RX8, "image", "()I"⟩
abbrev cX8_undo : ByteArray := prog_10_method_104_code
def yX8_undo : MethodName := ⟨RX8, "undo", "()I"⟩
abbrev cX8_tear : ByteArray := prog_10_method_105_code
def yX8_tear : MethodName := ⟨RX8, "tear", "()I"⟩
abbrev cX8_count : ByteArray := prog_10_method_106_code
def yX8_count : MethodName := ⟨RX8, "count", "(I)I"⟩
abbrev cX8_status : ByteArray := prog_10_method_107_code
def yX8_status : MethodName := ⟨RX8, "status", "(I)I"⟩
def RJ6 : String := "java/lang/Integer"
def TJ6 : u_T := fun k => match k with
  | _ => ("", "", "", false)
def tyJ6 : Nat → FieldType := fun k => match k with
  | _ => .int
abbrev wsJ60 : List Cond := u_ws RJ6 TJ6 0
theorem nmJ6 : ∀ a, a < 0 → ∀ b, b < 0 → a ≠ b → (TJ6 a).2.1 ≠ (TJ6 b).2.1 := by decide +kernel
theorem tyJ6_ok : ∀ k, k < 0 → parseFieldDescriptor (TJ6 k).2.2.1 = some (tyJ6 k) := by decide +kernel
abbrev cJ6_bitCount_0f7a4 : ByteArray := prog_11_method_49_code
def yJ6_bitCount_0f7a4 : MethodName := ⟨RJ6, "bitCount", "(I)I"⟩
def RJ9 : String := "java/lang/Math"
def TJ9 : u_T := fun k => match k with
  | _ => ("", "", "", false)
def tyJ9 : Nat → FieldType := fun k => match k with
  | _ => .int
abbrev wsJ90 : List Cond := u_ws RJ9 TJ9 0
theorem nmJ9 : ∀ a, a < 0 → ∀ b, b < 0 → a ≠ b → (TJ9 a).2.1 ≠ (TJ9 b).2.1 := by decide +kernel
theorem tyJ9_ok : ∀ k, k < 0 → parseFieldDescriptor (TJ9 k).2.2.1 = some (tyJ9 k) := by decide +kernel
abbrev cJ9_floorDiv_7cf53 : ByteArray := prog_12_method_47_code
def yJ9_floorDiv_7cf53 : MethodName := ⟨RJ9, "floorDiv", "(II)I"⟩
abbrev cJ9_floorDiv_f86c9 : ByteArray := prog_12_method_49_code
def yJ9_floorDiv_f86c9 : MethodName := ⟨RJ9, "floorDiv", "(JJ)J"⟩
abbrev cJ9_floorMod_7cf53 : ByteArray := prog_12_method_50_code
def yJ9_floorMod_7cf53 : MethodName := ⟨RJ9, "floorMod", "(II)I"⟩
abbrev cJ9_abs_0f7a4 : ByteArray := prog_12_method_59_code
def yJ9_abs_0f7a4 : MethodName := ⟨RJ9, "abs", "(I)I"⟩
abbrev cJ9_max_7cf53 : ByteArray := prog_12_method_65_code
def yJ9_max_7cf53 : MethodName := ⟨RJ9, "max", "(II)I"⟩
abbrev cJ9_min_7cf53 : ByteArray := prog_12_method_69_code
def yJ9_min_7cf53 : MethodName := ⟨RJ9, "min", "(II)I"⟩
def RJ0 : String := "java/lang/String"
def TJ0 : u_T := fun k => match k with
  | _ => ("", "", "", false)
def tyJ0 : Nat → FieldType := fun k => match k with
  | _ => .int
abbrev wsJ00 : List Cond := u_ws RJ0 TJ0 0
theorem nmJ0 : ∀ a, a < 0 → ∀ b, b < 0 → a ≠ b → (TJ0 a).2.1 ≠ (TJ0 b).2.1 := by decide +kernel
theorem tyJ0_ok : ∀ k, k < 0 → parseFieldDescriptor (TJ0 k).2.2.1 = some (tyJ0 k) := by decide +kernel
abbrev cJ0_length_8abf5 : ByteArray := prog_13_method_54_code
def yJ0_length_8abf5 : MethodName := ⟨RJ0, "length", "()I"⟩
abbrev cJ0_charAt_5068e : ByteArray := prog_13_method_56_code
def yJ0_charAt_5068e : MethodName := ⟨RJ0, "charAt", "(I)C"⟩
abbrev cJ0_coder_7d493 : ByteArray := prog_13_method_152_code
def yJ0_coder_7d493 : MethodName := ⟨RJ0, "coder", "()B"⟩
abbrev cJ0_isLatin1_aae02 : ByteArray := prog_13_method_154_code
def yJ0_isLatin1_aae02 : MethodName := ⟨RJ0, "isLatin1", "()Z"⟩
abbrev cJ0_checkIndex_df160 : ByteArray := prog_13_method_155_code
def yJ0_checkIndex_df160 : MethodName := ⟨RJ0, "checkIndex", "(II)V"⟩
def RJ1 : String := "java/lang/StringLatin1"
def TJ1 : u_T := fun k => match k with
  | _ => ("", "", "", false)
def tyJ1 : Nat → FieldType := fun k => match k with
  | _ => .int
abbrev wsJ10 : List Cond := u_ws RJ1 TJ1 0
theorem nmJ1 : ∀ a, a < 0 → ∀ b, b < 0 → a ≠ b → (TJ1 a).2.1 ≠ (TJ1 b).2.1 := by decide +kernel
theorem tyJ1_ok : ∀ k, k < 0 → parseFieldDescriptor (TJ1 k).2.2.1 = some (tyJ1 k) := by decide +kernel
abbrev cJ1_charAt_3b067 : ByteArray := prog_14_method_2_code
def yJ1_charAt_3b067 : MethodName := ⟨RJ1, "charAt", "([BI)C"⟩
def RJ2 : String := "java/lang/StringUTF16"
def TJ2 : u_T := fun k => match k with
  | _ => ("", "", "", false)
def tyJ2 : Nat → FieldType := fun k => match k with
  | _ => .int
abbrev wsJ20 : List Cond := u_ws RJ2 TJ2 0
theorem nmJ2 : ∀ a, a < 0 → ∀ b, b < 0 → a ≠ b → (TJ2 a).2.1 ≠ (TJ2 b).2.1 := by decide +kernel
theorem tyJ2_ok : ∀ k, k < 0 → parseFieldDescriptor (TJ2 k).2.2.1 = some (tyJ2 k) := by decide +kernel
abbrev cJ2_getChar_3b067 : ByteArray := prog_15_method_5_code
def yJ2_getChar_3b067 : MethodName := ⟨RJ2, "getChar", "([BI)C"⟩
abbrev cJ2_length_9d52b : ByteArray := prog_15_method_6_code
def yJ2_length_9d52b : MethodName := ⟨RJ2, "length", "([B)I"⟩
abbrev cJ2_charAt_3b067 : ByteArray := prog_15_method_83_code
def yJ2_charAt_3b067 : MethodName := ⟨RJ2, "charAt", "([BI)C"⟩
abbrev cJ2_checkIndex_2214a : ByteArray := prog_15_method_91_code
def yJ2_checkIndex_2214a : MethodName := ⟨RJ2, "checkIndex", "(I[B)V"⟩
def RJ10 : String := "java/lang/System"
def TJ10 : u_T := fun k => match k with
  | _ => ("", "", "", false)
def tyJ10 : Nat → FieldType := fun k => match k with
  | _ => .int
abbrev wsJ100 : List Cond := u_ws RJ10 TJ10 0
theorem nmJ10 : ∀ a, a < 0 → ∀ b, b < 0 → a ≠ b → (TJ10 a).2.1 ≠ (TJ10 b).2.1 := by decide +kernel
theorem tyJ10_ok : ∀ k, k < 0 → parseFieldDescriptor (TJ10 k).2.2.1 = some (tyJ10 k) := by decide +kernel
def RJ3 : String := "jdk/internal/util/Preconditions"
def TJ3 : u_T := fun k => match k with
  | _ => ("", "", "", false)
def tyJ3 : Nat → FieldType := fun k => match k with
  | _ => .int
abbrev wsJ30 : List Cond := u_ws RJ3 TJ3 0
theorem nmJ3 : ∀ a, a < 0 → ∀ b, b < 0 → a ≠ b → (TJ3 a).2.1 ≠ (TJ3 b).2.1 := by decide +kernel
theorem tyJ3_ok : ∀ k, k < 0 → parseFieldDescriptor (TJ3 k).2.2.1 = some (tyJ3 k) := by decide +kernel
abbrev cJ3_checkIndex_8e157 : ByteArray := prog_17_method_11_code
def yJ3_checkIndex_8e157 : MethodName := ⟨RJ3, "checkIndex", "(IILjava/util/function/BiFunction;)I"⟩
def RL : String := "ThinBodiesLaw"
abbrev cL_law : ByteArray := code
def yL_law : MethodName := ⟨RL, "law", "([I)Z"⟩
