theorem dX0_resetVectors_0 : decode cX0_resetVectors 0 = .ok (.iconst 0, 1) := by decide +kernel
theorem dX0_resetVectors_1 : decode cX0_resetVectors 1 = .ok (.istore_n 1, 1) := by decide +kernel
theorem dX0_resetVectors_2 : decode cX0_resetVectors 2 = .ok (.iload_n 1, 1) := by decide +kernel
theorem dX0_resetVectors_3 : decode cX0_resetVectors 3 = .ok (.iconst 4, 1) := by decide +kernel
theorem dX0_resetVectors_4 : decode cX0_resetVectors 4 = .ok (.if_icmp .ge 40, 3) := by decide +kernel
theorem dX0_resetVectors_7 : decode cX0_resetVectors 7 = .ok (.iconst 0, 1) := by decide +kernel
theorem dX0_resetVectors_8 : decode cX0_resetVectors 8 = .ok (.istore_n 2, 1) := by decide +kernel
theorem dX0_resetVectors_9 : decode cX0_resetVectors 9 = .ok (.iload_n 2, 1) := by decide +kernel
theorem dX0_resetVectors_10 : decode cX0_resetVectors 10 = .ok (.iconst 4, 1) := by decide +kernel
theorem dX0_resetVectors_11 : decode cX0_resetVectors 11 = .ok (.if_icmp .ge 27, 3) := by decide +kernel
theorem dX0_resetVectors_14 : decode cX0_resetVectors 14 = .ok (.aload_n 0, 1) := by decide +kernel
theorem dX0_resetVectors_15 : decode cX0_resetVectors 15 = .ok (.getfield 33, 3) := by decide +kernel
theorem dX0_resetVectors_18 : decode cX0_resetVectors 18 = .ok (.iload_n 1, 1) := by decide +kernel
theorem dX0_resetVectors_19 : decode cX0_resetVectors 19 = .ok (.aaload, 1) := by decide +kernel
theorem dX0_resetVectors_20 : decode cX0_resetVectors 20 = .ok (.iload_n 2, 1) := by decide +kernel
theorem dX0_resetVectors_21 : decode cX0_resetVectors 21 = .ok (.iload_n 1, 1) := by decide +kernel
theorem dX0_resetVectors_22 : decode cX0_resetVectors 22 = .ok (.iload_n 2, 1) := by decide +kernel
theorem dX0_resetVectors_23 : decode cX0_resetVectors 23 = .ok (.if_icmp .ne 7, 3) := by decide +kernel
theorem dX0_resetVectors_26 : decode cX0_resetVectors 26 = .ok (.iconst 1, 1) := by decide +kernel
theorem dX0_resetVectors_27 : decode cX0_resetVectors 27 = .ok (.goto 4, 3) := by decide +kernel
theorem dX0_resetVectors_30 : decode cX0_resetVectors 30 = .ok (.iconst 0, 1) := by decide +kernel
theorem dX0_resetVectors_31 : decode cX0_resetVectors 31 = .ok (.iastore, 1) := by decide +kernel
theorem dX0_resetVectors_32 : decode cX0_resetVectors 32 = .ok (.iinc 2 1, 3) := by decide +kernel
theorem dX0_resetVectors_35 : decode cX0_resetVectors 35 = .ok (.goto (-26), 3) := by decide +kernel
theorem dX0_resetVectors_38 : decode cX0_resetVectors 38 = .ok (.iinc 1 1, 3) := by decide +kernel
theorem dX0_resetVectors_41 : decode cX0_resetVectors 41 = .ok (.goto (-39), 3) := by decide +kernel
theorem dX0_resetVectors_44 : decode cX0_resetVectors 44 = .ok (.return_, 1) := by decide +kernel
theorem dX0_take_0 : decode cX0_take 0 = .ok (.aload_n 0, 1) := by decide +kernel
theorem dX0_take_1 : decode cX0_take 1 = .ok (.aload_n 1, 1) := by decide +kernel
theorem dX0_take_2 : decode cX0_take 2 = .ok (.getfield 9, 3) := by decide +kernel
theorem dX0_take_5 : decode cX0_take 5 = .ok (.putfield 9, 3) := by decide +kernel
theorem dX0_take_8 : decode cX0_take 8 = .ok (.aload_n 0, 1) := by decide +kernel
theorem dX0_take_9 : decode cX0_take 9 = .ok (.aload_n 1, 1) := by decide +kernel
theorem dX0_take_10 : decode cX0_take 10 = .ok (.getfield 28, 3) := by decide +kernel
theorem dX0_take_13 : decode cX0_take 13 = .ok (.putfield 28, 3) := by decide +kernel
theorem dX0_take_16 : decode cX0_take 16 = .ok (.aload_n 1, 1) := by decide +kernel
theorem dX0_take_17 : decode cX0_take 17 = .ok (.getfield 15, 3) := by decide +kernel
theorem dX0_take_20 : decode cX0_take 20 = .ok (.iconst 0, 1) := by decide +kernel
theorem dX0_take_21 : decode cX0_take 21 = .ok (.aload_n 0, 1) := by decide +kernel
theorem dX0_take_22 : decode cX0_take 22 = .ok (.getfield 15, 3) := by decide +kernel
theorem dX0_take_25 : decode cX0_take 25 = .ok (.iconst 0, 1) := by decide +kernel
theorem dX0_take_26 : decode cX0_take 26 = .ok (.iconst 4, 1) := by decide +kernel
theorem dX0_take_27 : decode cX0_take 27 = .ok (.invokestatic 40, 3) := by decide +kernel
theorem dX0_take_30 : decode cX0_take 30 = .ok (.aload_n 1, 1) := by decide +kernel
theorem dX0_take_31 : decode cX0_take 31 = .ok (.getfield 19, 3) := by decide +kernel
theorem dX0_take_34 : decode cX0_take 34 = .ok (.iconst 0, 1) := by decide +kernel
theorem dX0_take_35 : decode cX0_take 35 = .ok (.aload_n 0, 1) := by decide +kernel
theorem dX0_take_36 : decode cX0_take 36 = .ok (.getfield 19, 3) := by decide +kernel
theorem dX0_take_39 : decode cX0_take 39 = .ok (.iconst 0, 1) := by decide +kernel
theorem dX0_take_40 : decode cX0_take 40 = .ok (.iconst 4, 1) := by decide +kernel
theorem dX0_take_41 : decode cX0_take 41 = .ok (.invokestatic 40, 3) := by decide +kernel
theorem dX0_take_44 : decode cX0_take 44 = .ok (.iconst 0, 1) := by decide +kernel
theorem dX0_take_45 : decode cX0_take 45 = .ok (.istore_n 2, 1) := by decide +kernel
theorem dX0_take_46 : decode cX0_take 46 = .ok (.iload_n 2, 1) := by decide +kernel
theorem dX0_take_47 : decode cX0_take 47 = .ok (.bipush 8, 2) := by decide +kernel
theorem dX0_take_49 : decode cX0_take 49 = .ok (.if_icmp .ge 24, 3) := by decide +kernel
theorem dX0_take_52 : decode cX0_take 52 = .ok (.aload_n 0, 1) := by decide +kernel
theorem dX0_take_53 : decode cX0_take 53 = .ok (.getfield 24, 3) := by decide +kernel
theorem dX0_take_56 : decode cX0_take 56 = .ok (.iload_n 2, 1) := by decide +kernel
theorem dX0_take_57 : decode cX0_take 57 = .ok (.aaload, 1) := by decide +kernel
theorem dX0_take_58 : decode cX0_take 58 = .ok (.aload_n 1, 1) := by decide +kernel
theorem dX0_take_59 : decode cX0_take 59 = .ok (.getfield 24, 3) := by decide +kernel
theorem dX0_take_62 : decode cX0_take 62 = .ok (.iload_n 2, 1) := by decide +kernel
theorem dX0_take_63 : decode cX0_take 63 = .ok (.aaload, 1) := by decide +kernel
theorem dX0_take_64 : decode cX0_take 64 = .ok (.invokevirtual 46, 3) := by decide +kernel
theorem dX0_take_67 : decode cX0_take 67 = .ok (.iinc 2 1, 3) := by decide +kernel
theorem dX0_take_70 : decode cX0_take 70 = .ok (.goto (-24), 3) := by decide +kernel
theorem dX0_take_73 : decode cX0_take 73 = .ok (.iconst 0, 1) := by decide +kernel
theorem dX0_take_74 : decode cX0_take 74 = .ok (.istore_n 2, 1) := by decide +kernel
theorem dX0_take_75 : decode cX0_take 75 = .ok (.iload_n 2, 1) := by decide +kernel
theorem dX0_take_76 : decode cX0_take 76 = .ok (.iconst 4, 1) := by decide +kernel
theorem dX0_take_77 : decode cX0_take 77 = .ok (.if_icmp .ge 27, 3) := by decide +kernel
theorem dX0_take_80 : decode cX0_take 80 = .ok (.aload_n 1, 1) := by decide +kernel
theorem dX0_take_81 : decode cX0_take 81 = .ok (.getfield 33, 3) := by decide +kernel
theorem dX0_take_84 : decode cX0_take 84 = .ok (.iload_n 2, 1) := by decide +kernel
theorem dX0_take_85 : decode cX0_take 85 = .ok (.aaload, 1) := by decide +kernel
theorem dX0_take_86 : decode cX0_take 86 = .ok (.iconst 0, 1) := by decide +kernel
theorem dX0_take_87 : decode cX0_take 87 = .ok (.aload_n 0, 1) := by decide +kernel
theorem dX0_take_88 : decode cX0_take 88 = .ok (.getfield 33, 3) := by decide +kernel
theorem dX0_take_91 : decode cX0_take 91 = .ok (.iload_n 2, 1) := by decide +kernel
theorem dX0_take_92 : decode cX0_take 92 = .ok (.aaload, 1) := by decide +kernel
theorem dX0_take_93 : decode cX0_take 93 = .ok (.iconst 0, 1) := by decide +kernel
theorem dX0_take_94 : decode cX0_take 94 = .ok (.iconst 4, 1) := by decide +kernel
theorem dX0_take_95 : decode cX0_take 95 = .ok (.invokestatic 40, 3) := by decide +kernel
theorem dX0_take_98 : decode cX0_take 98 = .ok (.iinc 2 1, 3) := by decide +kernel
theorem dX0_take_101 : decode cX0_take 101 = .ok (.goto (-26), 3) := by decide +kernel
theorem dX0_take_104 : decode cX0_take 104 = .ok (.return_, 1) := by decide +kernel
theorem dX0_hasLetter_0 : decode cX0_hasLetter 0 = .ok (.iload_n 1, 1) := by decide +kernel
theorem dX0_hasLetter_1 : decode cX0_hasLetter 1 = .ok (.ifCond .lt 15, 3) := by decide +kernel
theorem dX0_hasLetter_4 : decode cX0_hasLetter 4 = .ok (.iload_n 1, 1) := by decide +kernel
theorem dX0_hasLetter_5 : decode cX0_hasLetter 5 = .ok (.aload_n 0, 1) := by decide +kernel
theorem dX0_hasLetter_6 : decode cX0_hasLetter 6 = .ok (.getfield 9, 3) := by decide +kernel
theorem dX0_hasLetter_9 : decode cX0_hasLetter 9 = .ok (.if_icmp .ge 7, 3) := by decide +kernel
theorem dX0_hasLetter_12 : decode cX0_hasLetter 12 = .ok (.iconst 1, 1) := by decide +kernel
theorem dX0_hasLetter_13 : decode cX0_hasLetter 13 = .ok (.goto 4, 3) := by decide +kernel
theorem dX0_hasLetter_16 : decode cX0_hasLetter 16 = .ok (.iconst 0, 1) := by decide +kernel
theorem dX0_hasLetter_17 : decode cX0_hasLetter 17 = .ok (.ireturn, 1) := by decide +kernel
theorem dX0_hasRow_0 : decode cX0_hasRow 0 = .ok (.iload_n 1, 1) := by decide +kernel
theorem dX0_hasRow_1 : decode cX0_hasRow 1 = .ok (.ifCond .lt 15, 3) := by decide +kernel
theorem dX0_hasRow_4 : decode cX0_hasRow 4 = .ok (.iload_n 1, 1) := by decide +kernel
theorem dX0_hasRow_5 : decode cX0_hasRow 5 = .ok (.aload_n 0, 1) := by decide +kernel
theorem dX0_hasRow_6 : decode cX0_hasRow 6 = .ok (.getfield 28, 3) := by decide +kernel
theorem dX0_hasRow_9 : decode cX0_hasRow 9 = .ok (.if_icmp .ge 7, 3) := by decide +kernel
theorem dX0_hasRow_12 : decode cX0_hasRow 12 = .ok (.iconst 1, 1) := by decide +kernel
theorem dX0_hasRow_13 : decode cX0_hasRow 13 = .ok (.goto 4, 3) := by decide +kernel
theorem dX0_hasRow_16 : decode cX0_hasRow 16 = .ok (.iconst 0, 1) := by decide +kernel
theorem dX0_hasRow_17 : decode cX0_hasRow 17 = .ok (.ireturn, 1) := by decide +kernel
theorem dX0_points_0 : decode cX0_points 0 = .ok (.aload_n 0, 1) := by decide +kernel
theorem dX0_points_1 : decode cX0_points 1 = .ok (.aload_n 0, 1) := by decide +kernel
theorem dX0_points_2 : decode cX0_points 2 = .ok (.getfield 9, 3) := by decide +kernel
theorem dX0_points_5 : decode cX0_points 5 = .ok (.invokevirtual 50, 3) := by decide +kernel
theorem dX0_points_8 : decode cX0_points 8 = .ok (.ireturn, 1) := by decide +kernel
theorem dX0_pointsWithLetters_0 : decode cX0_pointsWithLetters 0 = .ok (.iconst 1, 1) := by decide +kernel
theorem dX0_pointsWithLetters_1 : decode cX0_pointsWithLetters 1 = .ok (.istore_n 2, 1) := by decide +kernel
theorem dX0_pointsWithLetters_2 : decode cX0_pointsWithLetters 2 = .ok (.iconst 0, 1) := by decide +kernel
theorem dX0_pointsWithLetters_3 : decode cX0_pointsWithLetters 3 = .ok (.istore_n 3, 1) := by decide +kernel
theorem dX0_pointsWithLetters_4 : decode cX0_pointsWithLetters 4 = .ok (.iload_n 3, 1) := by decide +kernel
theorem dX0_pointsWithLetters_5 : decode cX0_pointsWithLetters 5 = .ok (.iload_n 1, 1) := by decide +kernel
theorem dX0_pointsWithLetters_6 : decode cX0_pointsWithLetters 6 = .ok (.if_icmp .ge 39, 3) := by decide +kernel
theorem dX0_pointsWithLetters_9 : decode cX0_pointsWithLetters 9 = .ok (.iload_n 2, 1) := by decide +kernel
theorem dX0_pointsWithLetters_10 : decode cX0_pointsWithLetters 10 = .ok (.iload_n 3, 1) := by decide +kernel
theorem dX0_pointsWithLetters_11 : decode cX0_pointsWithLetters 11 = .ok (.aload_n 0, 1) := by decide +kernel
theorem dX0_pointsWithLetters_12 : decode cX0_pointsWithLetters 12 = .ok (.getfield 9, 3) := by decide +kernel
theorem dX0_pointsWithLetters_15 : decode cX0_pointsWithLetters 15 = .ok (.if_icmp .ge 21, 3) := by decide +kernel
theorem dX0_pointsWithLetters_18 : decode cX0_pointsWithLetters 18 = .ok (.aload_n 0, 1) := by decide +kernel
theorem dX0_pointsWithLetters_19 : decode cX0_pointsWithLetters 19 = .ok (.getfield 19, 3) := by decide +kernel
theorem dX0_pointsWithLetters_22 : decode cX0_pointsWithLetters 22 = .ok (.iload_n 3, 1) := by decide +kernel
theorem dX0_pointsWithLetters_23 : decode cX0_pointsWithLetters 23 = .ok (.iaload, 1) := by decide +kernel
theorem dX0_pointsWithLetters_24 : decode cX0_pointsWithLetters 24 = .ok (.aload_n 0, 1) := by decide +kernel
theorem dX0_pointsWithLetters_25 : decode cX0_pointsWithLetters 25 = .ok (.getfield 15, 3) := by decide +kernel
theorem dX0_pointsWithLetters_28 : decode cX0_pointsWithLetters 28 = .ok (.iload_n 3, 1) := by decide +kernel
theorem dX0_pointsWithLetters_29 : decode cX0_pointsWithLetters 29 = .ok (.iaload, 1) := by decide +kernel
theorem dX0_pointsWithLetters_30 : decode cX0_pointsWithLetters 30 = .ok (.isub, 1) := by decide +kernel
theorem dX0_pointsWithLetters_31 : decode cX0_pointsWithLetters 31 = .ok (.iconst 1, 1) := by decide +kernel
theorem dX0_pointsWithLetters_32 : decode cX0_pointsWithLetters 32 = .ok (.iadd, 1) := by decide +kernel
theorem dX0_pointsWithLetters_33 : decode cX0_pointsWithLetters 33 = .ok (.goto 4, 3) := by decide +kernel
theorem dX0_pointsWithLetters_36 : decode cX0_pointsWithLetters 36 = .ok (.iconst 4, 1) := by decide +kernel
theorem dX0_pointsWithLetters_37 : decode cX0_pointsWithLetters 37 = .ok (.imul, 1) := by decide +kernel
theorem dX0_pointsWithLetters_38 : decode cX0_pointsWithLetters 38 = .ok (.istore_n 2, 1) := by decide +kernel
theorem dX0_pointsWithLetters_39 : decode cX0_pointsWithLetters 39 = .ok (.iinc 3 1, 3) := by decide +kernel
theorem dX0_pointsWithLetters_42 : decode cX0_pointsWithLetters 42 = .ok (.goto (-38), 3) := by decide +kernel
theorem dX0_pointsWithLetters_45 : decode cX0_pointsWithLetters 45 = .ok (.iload_n 2, 1) := by decide +kernel
theorem dX0_pointsWithLetters_46 : decode cX0_pointsWithLetters 46 = .ok (.ireturn, 1) := by decide +kernel
theorem dX0_pointsWithSide_0 : decode cX0_pointsWithSide 0 = .ok (.iconst 1, 1) := by decide +kernel
theorem dX0_pointsWithSide_1 : decode cX0_pointsWithSide 1 = .ok (.istore 4, 2) := by decide +kernel
theorem dX0_pointsWithSide_3 : decode cX0_pointsWithSide 3 = .ok (.iconst 0, 1) := by decide +kernel
theorem dX0_pointsWithSide_4 : decode cX0_pointsWithSide 4 = .ok (.istore 5, 2) := by decide +kernel
theorem dX0_pointsWithSide_6 : decode cX0_pointsWithSide 6 = .ok (.iload 5, 2) := by decide +kernel
theorem dX0_pointsWithSide_8 : decode cX0_pointsWithSide 8 = .ok (.aload_n 0, 1) := by decide +kernel
theorem dX0_pointsWithSide_9 : decode cX0_pointsWithSide 9 = .ok (.getfield 9, 3) := by decide +kernel
theorem dX0_pointsWithSide_12 : decode cX0_pointsWithSide 12 = .ok (.if_icmp .ge 45, 3) := by decide +kernel
theorem dX0_pointsWithSide_15 : decode cX0_pointsWithSide 15 = .ok (.iload 4, 2) := by decide +kernel
theorem dX0_pointsWithSide_17 : decode cX0_pointsWithSide 17 = .ok (.iload 5, 2) := by decide +kernel
theorem dX0_pointsWithSide_19 : decode cX0_pointsWithSide 19 = .ok (.iload_n 1, 1) := by decide +kernel
theorem dX0_pointsWithSide_20 : decode cX0_pointsWithSide 20 = .ok (.if_icmp .ne 11, 3) := by decide +kernel
theorem dX0_pointsWithSide_23 : decode cX0_pointsWithSide 23 = .ok (.iload_n 3, 1) := by decide +kernel
theorem dX0_pointsWithSide_24 : decode cX0_pointsWithSide 24 = .ok (.iload_n 2, 1) := by decide +kernel
theorem dX0_pointsWithSide_25 : decode cX0_pointsWithSide 25 = .ok (.isub, 1) := by decide +kernel
theorem dX0_pointsWithSide_26 : decode cX0_pointsWithSide 26 = .ok (.iconst 1, 1) := by decide +kernel
theorem dX0_pointsWithSide_27 : decode cX0_pointsWithSide 27 = .ok (.iadd, 1) := by decide +kernel
theorem dX0_pointsWithSide_28 : decode cX0_pointsWithSide 28 = .ok (.goto 20, 3) := by decide +kernel
theorem dX0_pointsWithSide_31 : decode cX0_pointsWithSide 31 = .ok (.aload_n 0, 1) := by decide +kernel
theorem dX0_pointsWithSide_32 : decode cX0_pointsWithSide 32 = .ok (.getfield 19, 3) := by decide +kernel
theorem dX0_pointsWithSide_35 : decode cX0_pointsWithSide 35 = .ok (.iload 5, 2) := by decide +kernel
theorem dX0_pointsWithSide_37 : decode cX0_pointsWithSide 37 = .ok (.iaload, 1) := by decide +kernel
theorem dX0_pointsWithSide_38 : decode cX0_pointsWithSide 38 = .ok (.aload_n 0, 1) := by decide +kernel
theorem dX0_pointsWithSide_39 : decode cX0_pointsWithSide 39 = .ok (.getfield 15, 3) := by decide +kernel
theorem dX0_pointsWithSide_42 : decode cX0_pointsWithSide 42 = .ok (.iload 5, 2) := by decide +kernel
theorem dX0_pointsWithSide_44 : decode cX0_pointsWithSide 44 = .ok (.iaload, 1) := by decide +kernel
theorem dX0_pointsWithSide_45 : decode cX0_pointsWithSide 45 = .ok (.isub, 1) := by decide +kernel
theorem dX0_pointsWithSide_46 : decode cX0_pointsWithSide 46 = .ok (.iconst 1, 1) := by decide +kernel
theorem dX0_pointsWithSide_47 : decode cX0_pointsWithSide 47 = .ok (.iadd, 1) := by decide +kernel
theorem dX0_pointsWithSide_48 : decode cX0_pointsWithSide 48 = .ok (.imul, 1) := by decide +kernel
theorem dX0_pointsWithSide_49 : decode cX0_pointsWithSide 49 = .ok (.istore 4, 2) := by decide +kernel
theorem dX0_pointsWithSide_51 : decode cX0_pointsWithSide 51 = .ok (.iinc 5 1, 3) := by decide +kernel
theorem dX0_pointsWithSide_54 : decode cX0_pointsWithSide 54 = .ok (.goto (-48), 3) := by decide +kernel
theorem dX0_pointsWithSide_57 : decode cX0_pointsWithSide 57 = .ok (.iload 4, 2) := by decide +kernel
theorem dX0_pointsWithSide_59 : decode cX0_pointsWithSide 59 = .ok (.ireturn, 1) := by decide +kernel
theorem dX0_setLetters_0 : decode cX0_setLetters 0 = .ok (.iload_n 1, 1) := by decide +kernel
theorem dX0_setLetters_1 : decode cX0_setLetters 1 = .ok (.aload_n 0, 1) := by decide +kernel
theorem dX0_setLetters_2 : decode cX0_setLetters 2 = .ok (.getfield 9, 3) := by decide +kernel
theorem dX0_setLetters_5 : decode cX0_setLetters 5 = .ok (.if_icmp .ne 4, 3) := by decide +kernel
theorem dX0_setLetters_8 : decode cX0_setLetters 8 = .ok (.return_, 1) := by decide +kernel
theorem dX0_setLetters_9 : decode cX0_setLetters 9 = .ok (.aload_n 0, 1) := by decide +kernel
theorem dX0_setLetters_10 : decode cX0_setLetters 10 = .ok (.getfield 9, 3) := by decide +kernel
theorem dX0_setLetters_13 : decode cX0_setLetters 13 = .ok (.istore_n 2, 1) := by decide +kernel
theorem dX0_setLetters_14 : decode cX0_setLetters 14 = .ok (.iload_n 2, 1) := by decide +kernel
theorem dX0_setLetters_15 : decode cX0_setLetters 15 = .ok (.iload_n 1, 1) := by decide +kernel
theorem dX0_setLetters_16 : decode cX0_setLetters 16 = .ok (.if_icmp .ge 23, 3) := by decide +kernel
theorem dX0_setLetters_19 : decode cX0_setLetters 19 = .ok (.aload_n 0, 1) := by decide +kernel
theorem dX0_setLetters_20 : decode cX0_setLetters 20 = .ok (.getfield 15, 3) := by decide +kernel
theorem dX0_setLetters_23 : decode cX0_setLetters 23 = .ok (.iload_n 2, 1) := by decide +kernel
theorem dX0_setLetters_24 : decode cX0_setLetters 24 = .ok (.iconst 0, 1) := by decide +kernel
theorem dX0_setLetters_25 : decode cX0_setLetters 25 = .ok (.iastore, 1) := by decide +kernel
theorem dX0_setLetters_26 : decode cX0_setLetters 26 = .ok (.aload_n 0, 1) := by decide +kernel
theorem dX0_setLetters_27 : decode cX0_setLetters 27 = .ok (.getfield 19, 3) := by decide +kernel
theorem dX0_setLetters_30 : decode cX0_setLetters 30 = .ok (.iload_n 2, 1) := by decide +kernel
theorem dX0_setLetters_31 : decode cX0_setLetters 31 = .ok (.iconst 3, 1) := by decide +kernel
theorem dX0_setLetters_32 : decode cX0_setLetters 32 = .ok (.iastore, 1) := by decide +kernel
theorem dX0_setLetters_33 : decode cX0_setLetters 33 = .ok (.iinc 2 1, 3) := by decide +kernel
theorem dX0_setLetters_36 : decode cX0_setLetters 36 = .ok (.goto (-22), 3) := by decide +kernel
theorem dX0_setLetters_39 : decode cX0_setLetters 39 = .ok (.aload_n 0, 1) := by decide +kernel
theorem dX0_setLetters_40 : decode cX0_setLetters 40 = .ok (.iload_n 1, 1) := by decide +kernel
theorem dX0_setLetters_41 : decode cX0_setLetters 41 = .ok (.putfield 9, 3) := by decide +kernel
theorem dX0_setLetters_44 : decode cX0_setLetters 44 = .ok (.aload_n 0, 1) := by decide +kernel
theorem dX0_setLetters_45 : decode cX0_setLetters 45 = .ok (.invokevirtual 37, 3) := by decide +kernel
theorem dX0_setLetters_48 : decode cX0_setLetters 48 = .ok (.return_, 1) := by decide +kernel
theorem dX0_setSide_0 : decode cX0_setSide 0 = .ok (.aload_n 0, 1) := by decide +kernel
theorem dX0_setSide_1 : decode cX0_setSide 1 = .ok (.getfield 15, 3) := by decide +kernel
theorem dX0_setSide_4 : decode cX0_setSide 4 = .ok (.iload_n 1, 1) := by decide +kernel
theorem dX0_setSide_5 : decode cX0_setSide 5 = .ok (.iload_n 2, 1) := by decide +kernel
theorem dX0_setSide_6 : decode cX0_setSide 6 = .ok (.iastore, 1) := by decide +kernel
theorem dX0_setSide_7 : decode cX0_setSide 7 = .ok (.aload_n 0, 1) := by decide +kernel
theorem dX0_setSide_8 : decode cX0_setSide 8 = .ok (.getfield 19, 3) := by decide +kernel
theorem dX0_setSide_11 : decode cX0_setSide 11 = .ok (.iload_n 1, 1) := by decide +kernel
theorem dX0_setSide_12 : decode cX0_setSide 12 = .ok (.iload_n 3, 1) := by decide +kernel
theorem dX0_setSide_13 : decode cX0_setSide 13 = .ok (.iastore, 1) := by decide +kernel
theorem dX0_setSide_14 : decode cX0_setSide 14 = .ok (.return_, 1) := by decide +kernel
theorem dX0_addRow_0 : decode cX0_addRow 0 = .ok (.aload_n 0, 1) := by decide +kernel
theorem dX0_addRow_1 : decode cX0_addRow 1 = .ok (.getfield 24, 3) := by decide +kernel
theorem dX0_addRow_4 : decode cX0_addRow 4 = .ok (.aload_n 0, 1) := by decide +kernel
theorem dX0_addRow_5 : decode cX0_addRow 5 = .ok (.getfield 28, 3) := by decide +kernel
theorem dX0_addRow_8 : decode cX0_addRow 8 = .ok (.aaload, 1) := by decide +kernel
theorem dX0_addRow_9 : decode cX0_addRow 9 = .ok (.astore 4, 2) := by decide +kernel
theorem dX0_addRow_11 : decode cX0_addRow 11 = .ok (.aload 4, 2) := by decide +kernel
theorem dX0_addRow_13 : decode cX0_addRow 13 = .ok (.iload_n 1, 1) := by decide +kernel
theorem dX0_addRow_14 : decode cX0_addRow 14 = .ok (.iload_n 2, 1) := by decide +kernel
theorem dX0_addRow_15 : decode cX0_addRow 15 = .ok (.iload_n 3, 1) := by decide +kernel
theorem dX0_addRow_16 : decode cX0_addRow 16 = .ok (.invokevirtual 54, 3) := by decide +kernel
theorem dX0_addRow_19 : decode cX0_addRow 19 = .ok (.aload_n 0, 1) := by decide +kernel
theorem dX0_addRow_20 : decode cX0_addRow 20 = .ok (.dup, 1) := by decide +kernel
theorem dX0_addRow_21 : decode cX0_addRow 21 = .ok (.getfield 28, 3) := by decide +kernel
theorem dX0_addRow_24 : decode cX0_addRow 24 = .ok (.iconst 1, 1) := by decide +kernel
theorem dX0_addRow_25 : decode cX0_addRow 25 = .ok (.iadd, 1) := by decide +kernel
theorem dX0_addRow_26 : decode cX0_addRow 26 = .ok (.putfield 28, 3) := by decide +kernel
theorem dX0_addRow_29 : decode cX0_addRow 29 = .ok (.aload 4, 2) := by decide +kernel
theorem dX0_addRow_31 : decode cX0_addRow 31 = .ok (.areturn, 1) := by decide +kernel
theorem dX0_brokenIn_0 : decode cX0_brokenIn 0 = .ok (.iconst 0, 1) := by decide +kernel
theorem dX0_brokenIn_1 : decode cX0_brokenIn 1 = .ok (.istore_n 2, 1) := by decide +kernel
theorem dX0_brokenIn_2 : decode cX0_brokenIn 2 = .ok (.iconst 0, 1) := by decide +kernel
theorem dX0_brokenIn_3 : decode cX0_brokenIn 3 = .ok (.istore_n 3, 1) := by decide +kernel
theorem dX0_brokenIn_4 : decode cX0_brokenIn 4 = .ok (.iload_n 3, 1) := by decide +kernel
theorem dX0_brokenIn_5 : decode cX0_brokenIn 5 = .ok (.aload_n 0, 1) := by decide +kernel
theorem dX0_brokenIn_6 : decode cX0_brokenIn 6 = .ok (.getfield 28, 3) := by decide +kernel
theorem dX0_brokenIn_9 : decode cX0_brokenIn 9 = .ok (.if_icmp .ge 41, 3) := by decide +kernel
theorem dX0_brokenIn_12 : decode cX0_brokenIn 12 = .ok (.aload_n 0, 1) := by decide +kernel
theorem dX0_brokenIn_13 : decode cX0_brokenIn 13 = .ok (.getfield 24, 3) := by decide +kernel
theorem dX0_brokenIn_16 : decode cX0_brokenIn 16 = .ok (.iload_n 3, 1) := by decide +kernel
theorem dX0_brokenIn_17 : decode cX0_brokenIn 17 = .ok (.aaload, 1) := by decide +kernel
theorem dX0_brokenIn_18 : decode cX0_brokenIn 18 = .ok (.aload_n 0, 1) := by decide +kernel
theorem dX0_brokenIn_19 : decode cX0_brokenIn 19 = .ok (.getfield 24, 3) := by decide +kernel
theorem dX0_brokenIn_22 : decode cX0_brokenIn 22 = .ok (.iload_n 3, 1) := by decide +kernel
theorem dX0_brokenIn_23 : decode cX0_brokenIn 23 = .ok (.aaload, 1) := by decide +kernel
theorem dX0_brokenIn_24 : decode cX0_brokenIn 24 = .ok (.aload_n 1, 1) := by decide +kernel
theorem dX0_brokenIn_25 : decode cX0_brokenIn 25 = .ok (.aload_n 0, 1) := by decide +kernel
theorem dX0_brokenIn_26 : decode cX0_brokenIn 26 = .ok (.getfield 9, 3) := by decide +kernel
theorem dX0_brokenIn_29 : decode cX0_brokenIn 29 = .ok (.invokevirtual 58, 3) := by decide +kernel
theorem dX0_brokenIn_32 : decode cX0_brokenIn 32 = .ok (.invokevirtual 62, 3) := by decide +kernel
theorem dX0_brokenIn_35 : decode cX0_brokenIn 35 = .ok (.ifCond .ne 9, 3) := by decide +kernel
theorem dX0_brokenIn_38 : decode cX0_brokenIn 38 = .ok (.iload_n 2, 1) := by decide +kernel
theorem dX0_brokenIn_39 : decode cX0_brokenIn 39 = .ok (.iconst 1, 1) := by decide +kernel
theorem dX0_brokenIn_40 : decode cX0_brokenIn 40 = .ok (.iload_n 3, 1) := by decide +kernel
theorem dX0_brokenIn_41 : decode cX0_brokenIn 41 = .ok (.ishl, 1) := by decide +kernel
theorem dX0_brokenIn_42 : decode cX0_brokenIn 42 = .ok (.ior, 1) := by decide +kernel
theorem dX0_brokenIn_43 : decode cX0_brokenIn 43 = .ok (.istore_n 2, 1) := by decide +kernel
theorem dX0_brokenIn_44 : decode cX0_brokenIn 44 = .ok (.iinc 3 1, 3) := by decide +kernel
theorem dX0_brokenIn_47 : decode cX0_brokenIn 47 = .ok (.goto (-43), 3) := by decide +kernel
theorem dX0_brokenIn_50 : decode cX0_brokenIn 50 = .ok (.iload_n 2, 1) := by decide +kernel
theorem dX0_brokenIn_51 : decode cX0_brokenIn 51 = .ok (.ireturn, 1) := by decide +kernel
theorem dX1_refresh_0 : decode cX1_refresh 0 = .ok (.aload_n 0, 1) := by decide +kernel
theorem dX1_refresh_1 : decode cX1_refresh 1 = .ok (.getfield 9, 3) := by decide +kernel
theorem dX1_refresh_4 : decode cX1_refresh 4 = .ok (.ifCond .ne 4, 3) := by decide +kernel
theorem dX1_refresh_7 : decode cX1_refresh 7 = .ok (.return_, 1) := by decide +kernel
theorem dX1_refresh_8 : decode cX1_refresh 8 = .ok (.aload_n 0, 1) := by decide +kernel
theorem dX1_refresh_9 : decode cX1_refresh 9 = .ok (.iconst 0, 1) := by decide +kernel
theorem dX1_refresh_10 : decode cX1_refresh 10 = .ok (.putfield 9, 3) := by decide +kernel
theorem dX1_refresh_13 : decode cX1_refresh 13 = .ok (.aload_n 0, 1) := by decide +kernel
theorem dX1_refresh_14 : decode cX1_refresh 14 = .ok (.iconst 0, 1) := by decide +kernel
theorem dX1_refresh_15 : decode cX1_refresh 15 = .ok (.putfield 19, 3) := by decide +kernel
theorem dX1_refresh_18 : decode cX1_refresh 18 = .ok (.aload_n 0, 1) := by decide +kernel
theorem dX1_refresh_19 : decode cX1_refresh 19 = .ok (.iconst (-1), 1) := by decide +kernel
theorem dX1_refresh_20 : decode cX1_refresh 20 = .ok (.putfield 34, 3) := by decide +kernel
theorem dX1_refresh_23 : decode cX1_refresh 23 = .ok (.aload_n 0, 1) := by decide +kernel
theorem dX1_refresh_24 : decode cX1_refresh 24 = .ok (.aload_n 1, 1) := by decide +kernel
theorem dX1_refresh_25 : decode cX1_refresh 25 = .ok (.invokevirtual 47, 3) := by decide +kernel
theorem dX1_refresh_28 : decode cX1_refresh 28 = .ok (.sipush 4096, 3) := by decide +kernel
theorem dX1_refresh_31 : decode cX1_refresh 31 = .ok (.invokestatic 53, 3) := by decide +kernel
theorem dX1_refresh_34 : decode cX1_refresh 34 = .ok (.putfield 15, 3) := by decide +kernel
theorem dX1_refresh_37 : decode cX1_refresh 37 = .ok (.aload_n 1, 1) := by decide +kernel
theorem dX1_refresh_38 : decode cX1_refresh 38 = .ok (.getfield 59, 3) := by decide +kernel
theorem dX1_refresh_41 : decode cX1_refresh 41 = .ok (.iconst 0, 1) := by decide +kernel
theorem dX1_refresh_42 : decode cX1_refresh 42 = .ok (.aload_n 0, 1) := by decide +kernel
theorem dX1_refresh_43 : decode cX1_refresh 43 = .ok (.getfield 41, 3) := by decide +kernel
theorem dX1_refresh_46 : decode cX1_refresh 46 = .ok (.iconst 0, 1) := by decide +kernel
theorem dX1_refresh_47 : decode cX1_refresh 47 = .ok (.iconst 4, 1) := by decide +kernel
theorem dX1_refresh_48 : decode cX1_refresh 48 = .ok (.invokestatic 62, 3) := by decide +kernel
theorem dX1_refresh_51 : decode cX1_refresh 51 = .ok (.iconst 0, 1) := by decide +kernel
theorem dX1_refresh_52 : decode cX1_refresh 52 = .ok (.istore_n 2, 1) := by decide +kernel
theorem dX1_refresh_53 : decode cX1_refresh 53 = .ok (.iload_n 2, 1) := by decide +kernel
theorem dX1_refresh_54 : decode cX1_refresh 54 = .ok (.aload_n 0, 1) := by decide +kernel
theorem dX1_refresh_55 : decode cX1_refresh 55 = .ok (.getfield 15, 3) := by decide +kernel
theorem dX1_refresh_58 : decode cX1_refresh 58 = .ok (.if_icmp .ge 63, 3) := by decide +kernel
theorem dX1_refresh_61 : decode cX1_refresh 61 = .ok (.aload_n 1, 1) := by decide +kernel
theorem dX1_refresh_62 : decode cX1_refresh 62 = .ok (.aload_n 0, 1) := by decide +kernel
theorem dX1_refresh_63 : decode cX1_refresh 63 = .ok (.getfield 41, 3) := by decide +kernel
theorem dX1_refresh_66 : decode cX1_refresh 66 = .ok (.invokevirtual 68, 3) := by decide +kernel
theorem dX1_refresh_69 : decode cX1_refresh 69 = .ok (.istore_n 3, 1) := by decide +kernel
theorem dX1_refresh_70 : decode cX1_refresh 70 = .ok (.aload_n 0, 1) := by decide +kernel
theorem dX1_refresh_71 : decode cX1_refresh 71 = .ok (.dup, 1) := by decide +kernel
theorem dX1_refresh_72 : decode cX1_refresh 72 = .ok (.getfield 19, 3) := by decide +kernel
theorem dX1_refresh_75 : decode cX1_refresh 75 = .ok (.iload_n 3, 1) := by decide +kernel
theorem dX1_refresh_76 : decode cX1_refresh 76 = .ok (.ifCond .ne 7, 3) := by decide +kernel
theorem dX1_refresh_79 : decode cX1_refresh 79 = .ok (.iconst 1, 1) := by decide +kernel
theorem dX1_refresh_80 : decode cX1_refresh 80 = .ok (.goto 4, 3) := by decide +kernel
theorem dX1_refresh_83 : decode cX1_refresh 83 = .ok (.iconst 0, 1) := by decide +kernel
theorem dX1_refresh_84 : decode cX1_refresh 84 = .ok (.iadd, 1) := by decide +kernel
theorem dX1_refresh_85 : decode cX1_refresh 85 = .ok (.putfield 19, 3) := by decide +kernel
theorem dX1_refresh_88 : decode cX1_refresh 88 = .ok (.aload_n 0, 1) := by decide +kernel
theorem dX1_refresh_89 : decode cX1_refresh 89 = .ok (.getfield 37, 3) := by decide +kernel
theorem dX1_refresh_92 : decode cX1_refresh 92 = .ok (.iload_n 2, 1) := by decide +kernel
theorem dX1_refresh_93 : decode cX1_refresh 93 = .ok (.aload_n 0, 1) := by decide +kernel
theorem dX1_refresh_94 : decode cX1_refresh 94 = .ok (.getfield 41, 3) := by decide +kernel
theorem dX1_refresh_97 : decode cX1_refresh 97 = .ok (.aload_n 1, 1) := by decide +kernel
theorem dX1_refresh_98 : decode cX1_refresh 98 = .ok (.getfield 72, 3) := by decide +kernel
theorem dX1_refresh_101 : decode cX1_refresh 101 = .ok (.invokestatic 75, 3) := by decide +kernel
theorem dX1_refresh_104 : decode cX1_refresh 104 = .ok (.iload_n 3, 1) := by decide +kernel
theorem dX1_refresh_105 : decode cX1_refresh 105 = .ok (.bipush 20, 2) := by decide +kernel
theorem dX1_refresh_107 : decode cX1_refresh 107 = .ok (.ishl, 1) := by decide +kernel
theorem dX1_refresh_108 : decode cX1_refresh 108 = .ok (.ior, 1) := by decide +kernel
theorem dX1_refresh_109 : decode cX1_refresh 109 = .ok (.iastore, 1) := by decide +kernel
theorem dX1_refresh_110 : decode cX1_refresh 110 = .ok (.aload_n 0, 1) := by decide +kernel
theorem dX1_refresh_111 : decode cX1_refresh 111 = .ok (.aload_n 1, 1) := by decide +kernel
theorem dX1_refresh_112 : decode cX1_refresh 112 = .ok (.invokevirtual 79, 3) := by decide +kernel
theorem dX1_refresh_115 : decode cX1_refresh 115 = .ok (.iinc 2 1, 3) := by decide +kernel
theorem dX1_refresh_118 : decode cX1_refresh 118 = .ok (.goto (-65), 3) := by decide +kernel
theorem dX1_refresh_121 : decode cX1_refresh 121 = .ok (.return_, 1) := by decide +kernel
theorem dX1_stepOn_0 : decode cX1_stepOn 0 = .ok (.aload_n 1, 1) := by decide +kernel
theorem dX1_stepOn_1 : decode cX1_stepOn 1 = .ok (.getfield 72, 3) := by decide +kernel
theorem dX1_stepOn_4 : decode cX1_stepOn 4 = .ok (.iconst 1, 1) := by decide +kernel
theorem dX1_stepOn_5 : decode cX1_stepOn 5 = .ok (.isub, 1) := by decide +kernel
theorem dX1_stepOn_6 : decode cX1_stepOn 6 = .ok (.istore_n 2, 1) := by decide +kernel
theorem dX1_stepOn_7 : decode cX1_stepOn 7 = .ok (.iload_n 2, 1) := by decide +kernel
theorem dX1_stepOn_8 : decode cX1_stepOn 8 = .ok (.ifCond .lt 47, 3) := by decide +kernel
theorem dX1_stepOn_11 : decode cX1_stepOn 11 = .ok (.aload_n 0, 1) := by decide +kernel
theorem dX1_stepOn_12 : decode cX1_stepOn 12 = .ok (.getfield 41, 3) := by decide +kernel
theorem dX1_stepOn_15 : decode cX1_stepOn 15 = .ok (.iload_n 2, 1) := by decide +kernel
theorem dX1_stepOn_16 : decode cX1_stepOn 16 = .ok (.iaload, 1) := by decide +kernel
theorem dX1_stepOn_17 : decode cX1_stepOn 17 = .ok (.aload_n 1, 1) := by decide +kernel
theorem dX1_stepOn_18 : decode cX1_stepOn 18 = .ok (.getfield 83, 3) := by decide +kernel
theorem dX1_stepOn_21 : decode cX1_stepOn 21 = .ok (.iload_n 2, 1) := by decide +kernel
theorem dX1_stepOn_22 : decode cX1_stepOn 22 = .ok (.iaload, 1) := by decide +kernel
theorem dX1_stepOn_23 : decode cX1_stepOn 23 = .ok (.if_icmp .ge 14, 3) := by decide +kernel
theorem dX1_stepOn_26 : decode cX1_stepOn 26 = .ok (.aload_n 0, 1) := by decide +kernel
theorem dX1_stepOn_27 : decode cX1_stepOn 27 = .ok (.getfield 41, 3) := by decide +kernel
theorem dX1_stepOn_30 : decode cX1_stepOn 30 = .ok (.iload_n 2, 1) := by decide +kernel
theorem dX1_stepOn_31 : decode cX1_stepOn 31 = .ok (.dup2, 1) := by decide +kernel
theorem dX1_stepOn_32 : decode cX1_stepOn 32 = .ok (.iaload, 1) := by decide +kernel
theorem dX1_stepOn_33 : decode cX1_stepOn 33 = .ok (.iconst 1, 1) := by decide +kernel
theorem dX1_stepOn_34 : decode cX1_stepOn 34 = .ok (.iadd, 1) := by decide +kernel
theorem dX1_stepOn_35 : decode cX1_stepOn 35 = .ok (.iastore, 1) := by decide +kernel
theorem dX1_stepOn_36 : decode cX1_stepOn 36 = .ok (.return_, 1) := by decide +kernel
theorem dX1_stepOn_37 : decode cX1_stepOn 37 = .ok (.aload_n 0, 1) := by decide +kernel
theorem dX1_stepOn_38 : decode cX1_stepOn 38 = .ok (.getfield 41, 3) := by decide +kernel
theorem dX1_stepOn_41 : decode cX1_stepOn 41 = .ok (.iload_n 2, 1) := by decide +kernel
theorem dX1_stepOn_42 : decode cX1_stepOn 42 = .ok (.aload_n 1, 1) := by decide +kernel
theorem dX1_stepOn_43 : decode cX1_stepOn 43 = .ok (.getfield 59, 3) := by decide +kernel
theorem dX1_stepOn_46 : decode cX1_stepOn 46 = .ok (.iload_n 2, 1) := by decide +kernel
theorem dX1_stepOn_47 : decode cX1_stepOn 47 = .ok (.iaload, 1) := by decide +kernel
theorem dX1_stepOn_48 : decode cX1_stepOn 48 = .ok (.iastore, 1) := by decide +kernel
theorem dX1_stepOn_49 : decode cX1_stepOn 49 = .ok (.iinc 2 (-1), 3) := by decide +kernel
theorem dX1_stepOn_52 : decode cX1_stepOn 52 = .ok (.goto (-45), 3) := by decide +kernel
theorem dX1_stepOn_55 : decode cX1_stepOn 55 = .ok (.return_, 1) := by decide +kernel
theorem dX1_brokenAt_0 : decode cX1_brokenAt 0 = .ok (.aload_n 0, 1) := by decide +kernel
theorem dX1_brokenAt_1 : decode cX1_brokenAt 1 = .ok (.getfield 37, 3) := by decide +kernel
theorem dX1_brokenAt_4 : decode cX1_brokenAt 4 = .ok (.iload_n 1, 1) := by decide +kernel
theorem dX1_brokenAt_5 : decode cX1_brokenAt 5 = .ok (.iaload, 1) := by decide +kernel
theorem dX1_brokenAt_6 : decode cX1_brokenAt 6 = .ok (.bipush 20, 2) := by decide +kernel
theorem dX1_brokenAt_8 : decode cX1_brokenAt 8 = .ok (.ishr, 1) := by decide +kernel
theorem dX1_brokenAt_9 : decode cX1_brokenAt 9 = .ok (.ireturn, 1) := by decide +kernel
theorem dX1_isIn_0 : decode cX1_isIn 0 = .ok (.aload_n 0, 1) := by decide +kernel
theorem dX1_isIn_1 : decode cX1_isIn 1 = .ok (.iload_n 1, 1) := by decide +kernel
theorem dX1_isIn_2 : decode cX1_isIn 2 = .ok (.invokevirtual 86, 3) := by decide +kernel
theorem dX1_isIn_5 : decode cX1_isIn 5 = .ok (.ifCond .ne 7, 3) := by decide +kernel
theorem dX1_isIn_8 : decode cX1_isIn 8 = .ok (.iconst 1, 1) := by decide +kernel
theorem dX1_isIn_9 : decode cX1_isIn 9 = .ok (.goto 4, 3) := by decide +kernel
theorem dX1_isIn_12 : decode cX1_isIn 12 = .ok (.iconst 0, 1) := by decide +kernel
theorem dX1_isIn_13 : decode cX1_isIn 13 = .ok (.ireturn, 1) := by decide +kernel
theorem dX1_letterAt_0 : decode cX1_letterAt 0 = .ok (.aload_n 0, 1) := by decide +kernel
theorem dX1_letterAt_1 : decode cX1_letterAt 1 = .ok (.getfield 37, 3) := by decide +kernel
theorem dX1_letterAt_4 : decode cX1_letterAt 4 = .ok (.iload_n 1, 1) := by decide +kernel
theorem dX1_letterAt_5 : decode cX1_letterAt 5 = .ok (.iaload, 1) := by decide +kernel
theorem dX1_letterAt_6 : decode cX1_letterAt 6 = .ok (.iload_n 2, 1) := by decide +kernel
theorem dX1_letterAt_7 : decode cX1_letterAt 7 = .ok (.invokestatic 90, 3) := by decide +kernel
theorem dX1_letterAt_10 : decode cX1_letterAt 10 = .ok (.ireturn, 1) := by decide +kernel
theorem dX1_readInto_0 : decode cX1_readInto 0 = .ok (.iconst 0, 1) := by decide +kernel
theorem dX1_readInto_1 : decode cX1_readInto 1 = .ok (.istore 4, 2) := by decide +kernel
theorem dX1_readInto_3 : decode cX1_readInto 3 = .ok (.iload 4, 2) := by decide +kernel
theorem dX1_readInto_5 : decode cX1_readInto 5 = .ok (.iload_n 3, 1) := by decide +kernel
theorem dX1_readInto_6 : decode cX1_readInto 6 = .ok (.if_icmp .ge 20, 3) := by decide +kernel
theorem dX1_readInto_9 : decode cX1_readInto 9 = .ok (.aload_n 2, 1) := by decide +kernel
theorem dX1_readInto_10 : decode cX1_readInto 10 = .ok (.iload 4, 2) := by decide +kernel
theorem dX1_readInto_12 : decode cX1_readInto 12 = .ok (.aload_n 0, 1) := by decide +kernel
theorem dX1_readInto_13 : decode cX1_readInto 13 = .ok (.iload_n 1, 1) := by decide +kernel
theorem dX1_readInto_14 : decode cX1_readInto 14 = .ok (.iload 4, 2) := by decide +kernel
theorem dX1_readInto_16 : decode cX1_readInto 16 = .ok (.invokevirtual 93, 3) := by decide +kernel
theorem dX1_readInto_19 : decode cX1_readInto 19 = .ok (.iastore, 1) := by decide +kernel
theorem dX1_readInto_20 : decode cX1_readInto 20 = .ok (.iinc 4 1, 3) := by decide +kernel
theorem dX1_readInto_23 : decode cX1_readInto 23 = .ok (.goto (-20), 3) := by decide +kernel
theorem dX1_readInto_26 : decode cX1_readInto 26 = .ok (.return_, 1) := by decide +kernel
theorem dX1_placeOf_0 : decode cX1_placeOf 0 = .ok (.iload_n 1, 1) := by decide +kernel
theorem dX1_placeOf_1 : decode cX1_placeOf 1 = .ok (.ifCond .lt 11, 3) := by decide +kernel
theorem dX1_placeOf_4 : decode cX1_placeOf 4 = .ok (.iload_n 1, 1) := by decide +kernel
theorem dX1_placeOf_5 : decode cX1_placeOf 5 = .ok (.aload_n 0, 1) := by decide +kernel
theorem dX1_placeOf_6 : decode cX1_placeOf 6 = .ok (.getfield 19, 3) := by decide +kernel
theorem dX1_placeOf_9 : decode cX1_placeOf 9 = .ok (.if_icmp .lt 5, 3) := by decide +kernel
theorem dX1_placeOf_12 : decode cX1_placeOf 12 = .ok (.iconst (-1), 1) := by decide +kernel
theorem dX1_placeOf_13 : decode cX1_placeOf 13 = .ok (.ireturn, 1) := by decide +kernel
theorem dX1_placeOf_14 : decode cX1_placeOf 14 = .ok (.iconst 0, 1) := by decide +kernel
theorem dX1_placeOf_15 : decode cX1_placeOf 15 = .ok (.istore_n 2, 1) := by decide +kernel
theorem dX1_placeOf_16 : decode cX1_placeOf 16 = .ok (.iconst 0, 1) := by decide +kernel
theorem dX1_placeOf_17 : decode cX1_placeOf 17 = .ok (.istore_n 3, 1) := by decide +kernel
theorem dX1_placeOf_18 : decode cX1_placeOf 18 = .ok (.iload_n 3, 1) := by decide +kernel
theorem dX1_placeOf_19 : decode cX1_placeOf 19 = .ok (.aload_n 0, 1) := by decide +kernel
theorem dX1_placeOf_20 : decode cX1_placeOf 20 = .ok (.getfield 15, 3) := by decide +kernel
theorem dX1_placeOf_23 : decode cX1_placeOf 23 = .ok (.if_icmp .ge 27, 3) := by decide +kernel
theorem dX1_placeOf_26 : decode cX1_placeOf 26 = .ok (.aload_n 0, 1) := by decide +kernel
theorem dX1_placeOf_27 : decode cX1_placeOf 27 = .ok (.iload_n 3, 1) := by decide +kernel
theorem dX1_placeOf_28 : decode cX1_placeOf 28 = .ok (.invokevirtual 96, 3) := by decide +kernel
theorem dX1_placeOf_31 : decode cX1_placeOf 31 = .ok (.ifCond .eq 13, 3) := by decide +kernel
theorem dX1_placeOf_34 : decode cX1_placeOf 34 = .ok (.iload_n 2, 1) := by decide +kernel
theorem dX1_placeOf_35 : decode cX1_placeOf 35 = .ok (.iload_n 1, 1) := by decide +kernel
theorem dX1_placeOf_36 : decode cX1_placeOf 36 = .ok (.if_icmp .ne 5, 3) := by decide +kernel
theorem dX1_placeOf_39 : decode cX1_placeOf 39 = .ok (.iload_n 3, 1) := by decide +kernel
theorem dX1_placeOf_40 : decode cX1_placeOf 40 = .ok (.ireturn, 1) := by decide +kernel
theorem dX1_placeOf_41 : decode cX1_placeOf 41 = .ok (.iinc 2 1, 3) := by decide +kernel
theorem dX1_placeOf_44 : decode cX1_placeOf 44 = .ok (.iinc 3 1, 3) := by decide +kernel
theorem dX1_placeOf_47 : decode cX1_placeOf 47 = .ok (.goto (-29), 3) := by decide +kernel
theorem dX1_placeOf_50 : decode cX1_placeOf 50 = .ok (.iconst (-1), 1) := by decide +kernel
theorem dX1_placeOf_51 : decode cX1_placeOf 51 = .ok (.ireturn, 1) := by decide +kernel
theorem dX1_directions_0 : decode cX1_directions 0 = .ok (.iconst 1, 1) := by decide +kernel
theorem dX1_directions_1 : decode cX1_directions 1 = .ok (.istore_n 1, 1) := by decide +kernel
theorem dX1_directions_2 : decode cX1_directions 2 = .ok (.iconst 0, 1) := by decide +kernel
theorem dX1_directions_3 : decode cX1_directions 3 = .ok (.istore_n 2, 1) := by decide +kernel
theorem dX1_directions_4 : decode cX1_directions 4 = .ok (.iload_n 2, 1) := by decide +kernel
theorem dX1_directions_5 : decode cX1_directions 5 = .ok (.iload_n 0, 1) := by decide +kernel
theorem dX1_directions_6 : decode cX1_directions 6 = .ok (.if_icmp .ge 13, 3) := by decide +kernel
theorem dX1_directions_9 : decode cX1_directions 9 = .ok (.iload_n 1, 1) := by decide +kernel
theorem dX1_directions_10 : decode cX1_directions 10 = .ok (.iconst 5, 1) := by decide +kernel
theorem dX1_directions_11 : decode cX1_directions 11 = .ok (.imul, 1) := by decide +kernel
theorem dX1_directions_12 : decode cX1_directions 12 = .ok (.istore_n 1, 1) := by decide +kernel
theorem dX1_directions_13 : decode cX1_directions 13 = .ok (.iinc 2 1, 3) := by decide +kernel
theorem dX1_directions_16 : decode cX1_directions 16 = .ok (.goto (-12), 3) := by decide +kernel
theorem dX1_directions_19 : decode cX1_directions 19 = .ok (.iload_n 1, 1) := by decide +kernel
theorem dX1_directions_20 : decode cX1_directions 20 = .ok (.ireturn, 1) := by decide +kernel
theorem dX1_sweep_0 : decode cX1_sweep 0 = .ok (.iload_n 1, 1) := by decide +kernel
theorem dX1_sweep_1 : decode cX1_sweep 1 = .ok (.istore 4, 2) := by decide +kernel
theorem dX1_sweep_3 : decode cX1_sweep 3 = .ok (.iload_n 2, 1) := by decide +kernel
theorem dX1_sweep_4 : decode cX1_sweep 4 = .ok (.iconst 1, 1) := by decide +kernel
theorem dX1_sweep_5 : decode cX1_sweep 5 = .ok (.isub, 1) := by decide +kernel
theorem dX1_sweep_6 : decode cX1_sweep 6 = .ok (.istore 5, 2) := by decide +kernel
theorem dX1_sweep_8 : decode cX1_sweep 8 = .ok (.iload 5, 2) := by decide +kernel
theorem dX1_sweep_10 : decode cX1_sweep 10 = .ok (.ifCond .lt 28, 3) := by decide +kernel
theorem dX1_sweep_13 : decode cX1_sweep 13 = .ok (.aload_n 0, 1) := by decide +kernel
theorem dX1_sweep_14 : decode cX1_sweep 14 = .ok (.getfield 44, 3) := by decide +kernel
theorem dX1_sweep_17 : decode cX1_sweep 17 = .ok (.iload 5, 2) := by decide +kernel
theorem dX1_sweep_19 : decode cX1_sweep 19 = .ok (.iload 4, 2) := by decide +kernel
theorem dX1_sweep_21 : decode cX1_sweep 21 = .ok (.iconst 5, 1) := by decide +kernel
theorem dX1_sweep_22 : decode cX1_sweep 22 = .ok (.irem, 1) := by decide +kernel
theorem dX1_sweep_23 : decode cX1_sweep 23 = .ok (.iconst 2, 1) := by decide +kernel
theorem dX1_sweep_24 : decode cX1_sweep 24 = .ok (.isub, 1) := by decide +kernel
theorem dX1_sweep_25 : decode cX1_sweep 25 = .ok (.iastore, 1) := by decide +kernel
theorem dX1_sweep_26 : decode cX1_sweep 26 = .ok (.iload 4, 2) := by decide +kernel
theorem dX1_sweep_28 : decode cX1_sweep 28 = .ok (.iconst 5, 1) := by decide +kernel
theorem dX1_sweep_29 : decode cX1_sweep 29 = .ok (.idiv, 1) := by decide +kernel
theorem dX1_sweep_30 : decode cX1_sweep 30 = .ok (.istore 4, 2) := by decide +kernel
theorem dX1_sweep_32 : decode cX1_sweep 32 = .ok (.iinc 5 (-1), 3) := by decide +kernel
theorem dX1_sweep_35 : decode cX1_sweep 35 = .ok (.goto (-27), 3) := by decide +kernel
theorem dX1_sweep_38 : decode cX1_sweep 38 = .ok (.iconst 0, 1) := by decide +kernel
theorem dX1_sweep_39 : decode cX1_sweep 39 = .ok (.istore 5, 2) := by decide +kernel
theorem dX1_sweep_41 : decode cX1_sweep 41 = .ok (.iconst 0, 1) := by decide +kernel
theorem dX1_sweep_42 : decode cX1_sweep 42 = .ok (.istore 6, 2) := by decide +kernel
theorem dX1_sweep_44 : decode cX1_sweep 44 = .ok (.iload 6, 2) := by decide +kernel
theorem dX1_sweep_46 : decode cX1_sweep 46 = .ok (.aload_n 0, 1) := by decide +kernel
theorem dX1_sweep_47 : decode cX1_sweep 47 = .ok (.getfield 15, 3) := by decide +kernel
theorem dX1_sweep_50 : decode cX1_sweep 50 = .ok (.if_icmp .ge 93, 3) := by decide +kernel
theorem dX1_sweep_53 : decode cX1_sweep 53 = .ok (.aload_n 0, 1) := by decide +kernel
theorem dX1_sweep_54 : decode cX1_sweep 54 = .ok (.iload 6, 2) := by decide +kernel
theorem dX1_sweep_56 : decode cX1_sweep 56 = .ok (.invokevirtual 96, 3) := by decide +kernel
theorem dX1_sweep_59 : decode cX1_sweep 59 = .ok (.ifCond .ne 6, 3) := by decide +kernel
theorem dX1_sweep_62 : decode cX1_sweep 62 = .ok (.goto 75, 3) := by decide +kernel
theorem dX1_sweep_65 : decode cX1_sweep 65 = .ok (.aload_n 0, 1) := by decide +kernel
theorem dX1_sweep_66 : decode cX1_sweep 66 = .ok (.iload 6, 2) := by decide +kernel
theorem dX1_sweep_68 : decode cX1_sweep 68 = .ok (.iload_n 2, 1) := by decide +kernel
theorem dX1_sweep_69 : decode cX1_sweep 69 = .ok (.invokevirtual 100, 3) := by decide +kernel
theorem dX1_sweep_72 : decode cX1_sweep 72 = .ok (.istore 7, 2) := by decide +kernel
theorem dX1_sweep_74 : decode cX1_sweep 74 = .ok (.iload 5, 2) := by decide +kernel
theorem dX1_sweep_76 : decode cX1_sweep 76 = .ok (.ifCond .eq 12, 3) := by decide +kernel
theorem dX1_sweep_79 : decode cX1_sweep 79 = .ok (.iload 7, 2) := by decide +kernel
theorem dX1_sweep_81 : decode cX1_sweep 81 = .ok (.aload_n 0, 1) := by decide +kernel
theorem dX1_sweep_82 : decode cX1_sweep 82 = .ok (.getfield 22, 3) := by decide +kernel
theorem dX1_sweep_85 : decode cX1_sweep 85 = .ok (.if_icmp .le 15, 3) := by decide +kernel
theorem dX1_sweep_88 : decode cX1_sweep 88 = .ok (.aload_n 0, 1) := by decide +kernel
theorem dX1_sweep_89 : decode cX1_sweep 89 = .ok (.iload 7, 2) := by decide +kernel
theorem dX1_sweep_91 : decode cX1_sweep 91 = .ok (.putfield 22, 3) := by decide +kernel
theorem dX1_sweep_94 : decode cX1_sweep 94 = .ok (.aload_n 0, 1) := by decide +kernel
theorem dX1_sweep_95 : decode cX1_sweep 95 = .ok (.iload 5, 2) := by decide +kernel
theorem dX1_sweep_97 : decode cX1_sweep 97 = .ok (.putfield 28, 3) := by decide +kernel
theorem dX1_sweep_100 : decode cX1_sweep 100 = .ok (.iload 5, 2) := by decide +kernel
theorem dX1_sweep_102 : decode cX1_sweep 102 = .ok (.ifCond .eq 12, 3) := by decide +kernel
theorem dX1_sweep_105 : decode cX1_sweep 105 = .ok (.iload 7, 2) := by decide +kernel
theorem dX1_sweep_107 : decode cX1_sweep 107 = .ok (.aload_n 0, 1) := by decide +kernel
theorem dX1_sweep_108 : decode cX1_sweep 108 = .ok (.getfield 25, 3) := by decide +kernel
theorem dX1_sweep_111 : decode cX1_sweep 111 = .ok (.if_icmp .ge 9, 3) := by decide +kernel
theorem dX1_sweep_114 : decode cX1_sweep 114 = .ok (.aload_n 0, 1) := by decide +kernel
theorem dX1_sweep_115 : decode cX1_sweep 115 = .ok (.iload 7, 2) := by decide +kernel
theorem dX1_sweep_117 : decode cX1_sweep 117 = .ok (.putfield 25, 3) := by decide +kernel
theorem dX1_sweep_120 : decode cX1_sweep 120 = .ok (.aload_n 0, 1) := by decide +kernel
theorem dX1_sweep_121 : decode cX1_sweep 121 = .ok (.getfield 22, 3) := by decide +kernel
theorem dX1_sweep_124 : decode cX1_sweep 124 = .ok (.aload_n 0, 1) := by decide +kernel
theorem dX1_sweep_125 : decode cX1_sweep 125 = .ok (.getfield 25, 3) := by decide +kernel
theorem dX1_sweep_128 : decode cX1_sweep 128 = .ok (.isub, 1) := by decide +kernel
theorem dX1_sweep_129 : decode cX1_sweep 129 = .ok (.iload_n 3, 1) := by decide +kernel
theorem dX1_sweep_130 : decode cX1_sweep 130 = .ok (.if_icmp .lt 4, 3) := by decide +kernel
theorem dX1_sweep_133 : decode cX1_sweep 133 = .ok (.return_, 1) := by decide +kernel
theorem dX1_sweep_134 : decode cX1_sweep 134 = .ok (.iinc 5 1, 3) := by decide +kernel
theorem dX1_sweep_137 : decode cX1_sweep 137 = .ok (.iinc 6 1, 3) := by decide +kernel
theorem dX1_sweep_140 : decode cX1_sweep 140 = .ok (.goto (-96), 3) := by decide +kernel
theorem dX1_sweep_143 : decode cX1_sweep 143 = .ok (.return_, 1) := by decide +kernel
theorem dX1_weightAt_0 : decode cX1_weightAt 0 = .ok (.aload_n 0, 1) := by decide +kernel
theorem dX1_weightAt_1 : decode cX1_weightAt 1 = .ok (.getfield 37, 3) := by decide +kernel
theorem dX1_weightAt_4 : decode cX1_weightAt 4 = .ok (.iload_n 1, 1) := by decide +kernel
theorem dX1_weightAt_5 : decode cX1_weightAt 5 = .ok (.iaload, 1) := by decide +kernel
theorem dX1_weightAt_6 : decode cX1_weightAt 6 = .ok (.istore_n 3, 1) := by decide +kernel
theorem dX1_weightAt_7 : decode cX1_weightAt 7 = .ok (.iconst 0, 1) := by decide +kernel
theorem dX1_weightAt_8 : decode cX1_weightAt 8 = .ok (.istore 4, 2) := by decide +kernel
theorem dX1_weightAt_10 : decode cX1_weightAt 10 = .ok (.iconst 0, 1) := by decide +kernel
theorem dX1_weightAt_11 : decode cX1_weightAt 11 = .ok (.istore 5, 2) := by decide +kernel
theorem dX1_weightAt_13 : decode cX1_weightAt 13 = .ok (.iload 5, 2) := by decide +kernel
theorem dX1_weightAt_15 : decode cX1_weightAt 15 = .ok (.iload_n 2, 1) := by decide +kernel
theorem dX1_weightAt_16 : decode cX1_weightAt 16 = .ok (.if_icmp .ge 28, 3) := by decide +kernel
theorem dX1_weightAt_19 : decode cX1_weightAt 19 = .ok (.iload 4, 2) := by decide +kernel
theorem dX1_weightAt_21 : decode cX1_weightAt 21 = .ok (.aload_n 0, 1) := by decide +kernel
theorem dX1_weightAt_22 : decode cX1_weightAt 22 = .ok (.getfield 44, 3) := by decide +kernel
theorem dX1_weightAt_25 : decode cX1_weightAt 25 = .ok (.iload 5, 2) := by decide +kernel
theorem dX1_weightAt_27 : decode cX1_weightAt 27 = .ok (.iaload, 1) := by decide +kernel
theorem dX1_weightAt_28 : decode cX1_weightAt 28 = .ok (.iload_n 3, 1) := by decide +kernel
theorem dX1_weightAt_29 : decode cX1_weightAt 29 = .ok (.iload 5, 2) := by decide +kernel
theorem dX1_weightAt_31 : decode cX1_weightAt 31 = .ok (.invokestatic 90, 3) := by decide +kernel
theorem dX1_weightAt_34 : decode cX1_weightAt 34 = .ok (.imul, 1) := by decide +kernel
theorem dX1_weightAt_35 : decode cX1_weightAt 35 = .ok (.iadd, 1) := by decide +kernel
theorem dX1_weightAt_36 : decode cX1_weightAt 36 = .ok (.istore 4, 2) := by decide +kernel
theorem dX1_weightAt_38 : decode cX1_weightAt 38 = .ok (.iinc 5 1, 3) := by decide +kernel
theorem dX1_weightAt_41 : decode cX1_weightAt 41 = .ok (.goto (-28), 3) := by decide +kernel
theorem dX1_weightAt_44 : decode cX1_weightAt 44 = .ok (.iload 4, 2) := by decide +kernel
theorem dX1_weightAt_46 : decode cX1_weightAt 46 = .ok (.ireturn, 1) := by decide +kernel
theorem dX1_findThin_0 : decode cX1_findThin 0 = .ok (.aload_n 0, 1) := by decide +kernel
theorem dX1_findThin_1 : decode cX1_findThin 1 = .ok (.getfield 34, 3) := by decide +kernel
theorem dX1_findThin_4 : decode cX1_findThin 4 = .ok (.ifCond .lt 4, 3) := by decide +kernel
theorem dX1_findThin_7 : decode cX1_findThin 7 = .ok (.return_, 1) := by decide +kernel
theorem dX1_findThin_8 : decode cX1_findThin 8 = .ok (.iload_n 1, 1) := by decide +kernel
theorem dX1_findThin_9 : decode cX1_findThin 9 = .ok (.invokestatic 103, 3) := by decide +kernel
theorem dX1_findThin_12 : decode cX1_findThin 12 = .ok (.iconst 2, 1) := by decide +kernel
theorem dX1_findThin_13 : decode cX1_findThin 13 = .ok (.idiv, 1) := by decide +kernel
theorem dX1_findThin_14 : decode cX1_findThin 14 = .ok (.istore_n 2, 1) := by decide +kernel
theorem dX1_findThin_15 : decode cX1_findThin 15 = .ok (.aload_n 0, 1) := by decide +kernel
theorem dX1_findThin_16 : decode cX1_findThin 16 = .ok (.ldc 106, 2) := by decide +kernel
theorem dX1_findThin_18 : decode cX1_findThin 18 = .ok (.putfield 34, 3) := by decide +kernel
theorem dX1_findThin_21 : decode cX1_findThin 21 = .ok (.iconst 0, 1) := by decide +kernel
theorem dX1_findThin_22 : decode cX1_findThin 22 = .ok (.istore_n 3, 1) := by decide +kernel
theorem dX1_findThin_23 : decode cX1_findThin 23 = .ok (.iload_n 3, 1) := by decide +kernel
theorem dX1_findThin_24 : decode cX1_findThin 24 = .ok (.iload_n 2, 1) := by decide +kernel
theorem dX1_findThin_25 : decode cX1_findThin 25 = .ok (.if_icmp .ge 53, 3) := by decide +kernel
theorem dX1_findThin_28 : decode cX1_findThin 28 = .ok (.aload_n 0, 1) := by decide +kernel
theorem dX1_findThin_29 : decode cX1_findThin 29 = .ok (.iload_n 3, 1) := by decide +kernel
theorem dX1_findThin_30 : decode cX1_findThin 30 = .ok (.iload_n 1, 1) := by decide +kernel
theorem dX1_findThin_31 : decode cX1_findThin 31 = .ok (.aload_n 0, 1) := by decide +kernel
theorem dX1_findThin_32 : decode cX1_findThin 32 = .ok (.getfield 34, 3) := by decide +kernel
theorem dX1_findThin_35 : decode cX1_findThin 35 = .ok (.invokevirtual 107, 3) := by decide +kernel
theorem dX1_findThin_38 : decode cX1_findThin 38 = .ok (.aload_n 0, 1) := by decide +kernel
theorem dX1_findThin_39 : decode cX1_findThin 39 = .ok (.getfield 22, 3) := by decide +kernel
theorem dX1_findThin_42 : decode cX1_findThin 42 = .ok (.aload_n 0, 1) := by decide +kernel
theorem dX1_findThin_43 : decode cX1_findThin 43 = .ok (.getfield 25, 3) := by decide +kernel
theorem dX1_findThin_46 : decode cX1_findThin 46 = .ok (.isub, 1) := by decide +kernel
theorem dX1_findThin_47 : decode cX1_findThin 47 = .ok (.aload_n 0, 1) := by decide +kernel
theorem dX1_findThin_48 : decode cX1_findThin 48 = .ok (.getfield 34, 3) := by decide +kernel
theorem dX1_findThin_51 : decode cX1_findThin 51 = .ok (.if_icmp .ge 21, 3) := by decide +kernel
theorem dX1_findThin_54 : decode cX1_findThin 54 = .ok (.aload_n 0, 1) := by decide +kernel
theorem dX1_findThin_55 : decode cX1_findThin 55 = .ok (.aload_n 0, 1) := by decide +kernel
theorem dX1_findThin_56 : decode cX1_findThin 56 = .ok (.getfield 22, 3) := by decide +kernel
theorem dX1_findThin_59 : decode cX1_findThin 59 = .ok (.aload_n 0, 1) := by decide +kernel
theorem dX1_findThin_60 : decode cX1_findThin 60 = .ok (.getfield 25, 3) := by decide +kernel
theorem dX1_findThin_63 : decode cX1_findThin 63 = .ok (.isub, 1) := by decide +kernel
theorem dX1_findThin_64 : decode cX1_findThin 64 = .ok (.putfield 34, 3) := by decide +kernel
theorem dX1_findThin_67 : decode cX1_findThin 67 = .ok (.aload_n 0, 1) := by decide +kernel
theorem dX1_findThin_68 : decode cX1_findThin 68 = .ok (.iload_n 3, 1) := by decide +kernel
theorem dX1_findThin_69 : decode cX1_findThin 69 = .ok (.putfield 31, 3) := by decide +kernel
theorem dX1_findThin_72 : decode cX1_findThin 72 = .ok (.iinc 3 1, 3) := by decide +kernel
theorem dX1_findThin_75 : decode cX1_findThin 75 = .ok (.goto (-52), 3) := by decide +kernel
theorem dX1_findThin_78 : decode cX1_findThin 78 = .ok (.return_, 1) := by decide +kernel
theorem dX1_sumOfLetter_0 : decode cX1_sumOfLetter 0 = .ok (.iconst 0, 1) := by decide +kernel
theorem dX1_sumOfLetter_1 : decode cX1_sumOfLetter 1 = .ok (.istore_n 2, 1) := by decide +kernel
theorem dX1_sumOfLetter_2 : decode cX1_sumOfLetter 2 = .ok (.iconst 0, 1) := by decide +kernel
theorem dX1_sumOfLetter_3 : decode cX1_sumOfLetter 3 = .ok (.istore_n 3, 1) := by decide +kernel
theorem dX1_sumOfLetter_4 : decode cX1_sumOfLetter 4 = .ok (.iload_n 3, 1) := by decide +kernel
theorem dX1_sumOfLetter_5 : decode cX1_sumOfLetter 5 = .ok (.aload_n 0, 1) := by decide +kernel
theorem dX1_sumOfLetter_6 : decode cX1_sumOfLetter 6 = .ok (.getfield 15, 3) := by decide +kernel
theorem dX1_sumOfLetter_9 : decode cX1_sumOfLetter 9 = .ok (.if_icmp .ge 26, 3) := by decide +kernel
theorem dX1_sumOfLetter_12 : decode cX1_sumOfLetter 12 = .ok (.aload_n 0, 1) := by decide +kernel
theorem dX1_sumOfLetter_13 : decode cX1_sumOfLetter 13 = .ok (.iload_n 3, 1) := by decide +kernel
theorem dX1_sumOfLetter_14 : decode cX1_sumOfLetter 14 = .ok (.invokevirtual 96, 3) := by decide +kernel
theorem dX1_sumOfLetter_17 : decode cX1_sumOfLetter 17 = .ok (.ifCond .eq 12, 3) := by decide +kernel
theorem dX1_sumOfLetter_20 : decode cX1_sumOfLetter 20 = .ok (.iload_n 2, 1) := by decide +kernel
theorem dX1_sumOfLetter_21 : decode cX1_sumOfLetter 21 = .ok (.aload_n 0, 1) := by decide +kernel
theorem dX1_sumOfLetter_22 : decode cX1_sumOfLetter 22 = .ok (.iload_n 3, 1) := by decide +kernel
theorem dX1_sumOfLetter_23 : decode cX1_sumOfLetter 23 = .ok (.iload_n 1, 1) := by decide +kernel
theorem dX1_sumOfLetter_24 : decode cX1_sumOfLetter 24 = .ok (.invokevirtual 93, 3) := by decide +kernel
theorem dX1_sumOfLetter_27 : decode cX1_sumOfLetter 27 = .ok (.iadd, 1) := by decide +kernel
theorem dX1_sumOfLetter_28 : decode cX1_sumOfLetter 28 = .ok (.istore_n 2, 1) := by decide +kernel
theorem dX1_sumOfLetter_29 : decode cX1_sumOfLetter 29 = .ok (.iinc 3 1, 3) := by decide +kernel
theorem dX1_sumOfLetter_32 : decode cX1_sumOfLetter 32 = .ok (.goto (-28), 3) := by decide +kernel
theorem dX1_sumOfLetter_35 : decode cX1_sumOfLetter 35 = .ok (.iload_n 2, 1) := by decide +kernel
theorem dX1_sumOfLetter_36 : decode cX1_sumOfLetter 36 = .ok (.ireturn, 1) := by decide +kernel
theorem dX1_squareToSides_0 : decode cX1_squareToSides 0 = .ok (.ldc 106, 2) := by decide +kernel
theorem dX1_squareToSides_2 : decode cX1_squareToSides 2 = .ok (.istore_n 3, 1) := by decide +kernel
theorem dX1_squareToSides_3 : decode cX1_squareToSides 3 = .ok (.iconst 0, 1) := by decide +kernel
theorem dX1_squareToSides_4 : decode cX1_squareToSides 4 = .ok (.istore 4, 2) := by decide +kernel
theorem dX1_squareToSides_6 : decode cX1_squareToSides 6 = .ok (.iload 4, 2) := by decide +kernel
theorem dX1_squareToSides_8 : decode cX1_squareToSides 8 = .ok (.aload_n 2, 1) := by decide +kernel
theorem dX1_squareToSides_9 : decode cX1_squareToSides 9 = .ok (.getfield 72, 3) := by decide +kernel
theorem dX1_squareToSides_12 : decode cX1_squareToSides 12 = .ok (.if_icmp .ge 66, 3) := by decide +kernel
theorem dX1_squareToSides_15 : decode cX1_squareToSides 15 = .ok (.aload_n 0, 1) := by decide +kernel
theorem dX1_squareToSides_16 : decode cX1_squareToSides 16 = .ok (.iload_n 1, 1) := by decide +kernel
theorem dX1_squareToSides_17 : decode cX1_squareToSides 17 = .ok (.iload 4, 2) := by decide +kernel
theorem dX1_squareToSides_19 : decode cX1_squareToSides 19 = .ok (.invokevirtual 93, 3) := by decide +kernel
theorem dX1_squareToSides_22 : decode cX1_squareToSides 22 = .ok (.aload_n 2, 1) := by decide +kernel
theorem dX1_squareToSides_23 : decode cX1_squareToSides 23 = .ok (.getfield 59, 3) := by decide +kernel
theorem dX1_squareToSides_26 : decode cX1_squareToSides 26 = .ok (.iload 4, 2) := by decide +kernel
theorem dX1_squareToSides_28 : decode cX1_squareToSides 28 = .ok (.iaload, 1) := by decide +kernel
theorem dX1_squareToSides_29 : decode cX1_squareToSides 29 = .ok (.isub, 1) := by decide +kernel
theorem dX1_squareToSides_30 : decode cX1_squareToSides 30 = .ok (.iconst 1, 1) := by decide +kernel
theorem dX1_squareToSides_31 : decode cX1_squareToSides 31 = .ok (.iadd, 1) := by decide +kernel
theorem dX1_squareToSides_32 : decode cX1_squareToSides 32 = .ok (.istore 5, 2) := by decide +kernel
theorem dX1_squareToSides_34 : decode cX1_squareToSides 34 = .ok (.aload_n 2, 1) := by decide +kernel
theorem dX1_squareToSides_35 : decode cX1_squareToSides 35 = .ok (.getfield 83, 3) := by decide +kernel
theorem dX1_squareToSides_38 : decode cX1_squareToSides 38 = .ok (.iload 4, 2) := by decide +kernel
theorem dX1_squareToSides_40 : decode cX1_squareToSides 40 = .ok (.iaload, 1) := by decide +kernel
theorem dX1_squareToSides_41 : decode cX1_squareToSides 41 = .ok (.aload_n 0, 1) := by decide +kernel
theorem dX1_squareToSides_42 : decode cX1_squareToSides 42 = .ok (.iload_n 1, 1) := by decide +kernel
theorem dX1_squareToSides_43 : decode cX1_squareToSides 43 = .ok (.iload 4, 2) := by decide +kernel
theorem dX1_squareToSides_45 : decode cX1_squareToSides 45 = .ok (.invokevirtual 93, 3) := by decide +kernel
theorem dX1_squareToSides_48 : decode cX1_squareToSides 48 = .ok (.isub, 1) := by decide +kernel
theorem dX1_squareToSides_49 : decode cX1_squareToSides 49 = .ok (.iconst 1, 1) := by decide +kernel
theorem dX1_squareToSides_50 : decode cX1_squareToSides 50 = .ok (.iadd, 1) := by decide +kernel
theorem dX1_squareToSides_51 : decode cX1_squareToSides 51 = .ok (.istore 6, 2) := by decide +kernel
theorem dX1_squareToSides_53 : decode cX1_squareToSides 53 = .ok (.iload 5, 2) := by decide +kernel
theorem dX1_squareToSides_55 : decode cX1_squareToSides 55 = .ok (.iload 6, 2) := by decide +kernel
theorem dX1_squareToSides_57 : decode cX1_squareToSides 57 = .ok (.invokestatic 53, 3) := by decide +kernel
theorem dX1_squareToSides_60 : decode cX1_squareToSides 60 = .ok (.istore 7, 2) := by decide +kernel
theorem dX1_squareToSides_62 : decode cX1_squareToSides 62 = .ok (.iload_n 3, 1) := by decide +kernel
theorem dX1_squareToSides_63 : decode cX1_squareToSides 63 = .ok (.iload 7, 2) := by decide +kernel
theorem dX1_squareToSides_65 : decode cX1_squareToSides 65 = .ok (.iload 7, 2) := by decide +kernel
theorem dX1_squareToSides_67 : decode cX1_squareToSides 67 = .ok (.imul, 1) := by decide +kernel
theorem dX1_squareToSides_68 : decode cX1_squareToSides 68 = .ok (.invokestatic 53, 3) := by decide +kernel
theorem dX1_squareToSides_71 : decode cX1_squareToSides 71 = .ok (.istore_n 3, 1) := by decide +kernel
theorem dX1_squareToSides_72 : decode cX1_squareToSides 72 = .ok (.iinc 4 1, 3) := by decide +kernel
theorem dX1_squareToSides_75 : decode cX1_squareToSides 75 = .ok (.goto (-69), 3) := by decide +kernel
theorem dX1_squareToSides_78 : decode cX1_squareToSides 78 = .ok (.iload_n 3, 1) := by decide +kernel
theorem dX1_squareToSides_79 : decode cX1_squareToSides 79 = .ok (.ireturn, 1) := by decide +kernel
theorem dX1_squareToBroken_0 : decode cX1_squareToBroken 0 = .ok (.ldc 106, 2) := by decide +kernel
theorem dX1_squareToBroken_2 : decode cX1_squareToBroken 2 = .ok (.istore_n 3, 1) := by decide +kernel
theorem dX1_squareToBroken_3 : decode cX1_squareToBroken 3 = .ok (.iconst 0, 1) := by decide +kernel
theorem dX1_squareToBroken_4 : decode cX1_squareToBroken 4 = .ok (.istore 4, 2) := by decide +kernel
theorem dX1_squareToBroken_6 : decode cX1_squareToBroken 6 = .ok (.iload 4, 2) := by decide +kernel
theorem dX1_squareToBroken_8 : decode cX1_squareToBroken 8 = .ok (.aload_n 0, 1) := by decide +kernel
theorem dX1_squareToBroken_9 : decode cX1_squareToBroken 9 = .ok (.getfield 15, 3) := by decide +kernel
theorem dX1_squareToBroken_12 : decode cX1_squareToBroken 12 = .ok (.if_icmp .ge 31, 3) := by decide +kernel
theorem dX1_squareToBroken_15 : decode cX1_squareToBroken 15 = .ok (.aload_n 0, 1) := by decide +kernel
theorem dX1_squareToBroken_16 : decode cX1_squareToBroken 16 = .ok (.iload 4, 2) := by decide +kernel
theorem dX1_squareToBroken_18 : decode cX1_squareToBroken 18 = .ok (.invokevirtual 96, 3) := by decide +kernel
theorem dX1_squareToBroken_21 : decode cX1_squareToBroken 21 = .ok (.ifCond .ne 16, 3) := by decide +kernel
theorem dX1_squareToBroken_24 : decode cX1_squareToBroken 24 = .ok (.iload_n 3, 1) := by decide +kernel
theorem dX1_squareToBroken_25 : decode cX1_squareToBroken 25 = .ok (.aload_n 0, 1) := by decide +kernel
theorem dX1_squareToBroken_26 : decode cX1_squareToBroken 26 = .ok (.iload_n 1, 1) := by decide +kernel
theorem dX1_squareToBroken_27 : decode cX1_squareToBroken 27 = .ok (.iload 4, 2) := by decide +kernel
theorem dX1_squareToBroken_29 : decode cX1_squareToBroken 29 = .ok (.iload_n 2, 1) := by decide +kernel
theorem dX1_squareToBroken_30 : decode cX1_squareToBroken 30 = .ok (.invokevirtual 111, 3) := by decide +kernel
theorem dX1_squareToBroken_33 : decode cX1_squareToBroken 33 = .ok (.invokestatic 53, 3) := by decide +kernel
theorem dX1_squareToBroken_36 : decode cX1_squareToBroken 36 = .ok (.istore_n 3, 1) := by decide +kernel
theorem dX1_squareToBroken_37 : decode cX1_squareToBroken 37 = .ok (.iinc 4 1, 3) := by decide +kernel
theorem dX1_squareToBroken_40 : decode cX1_squareToBroken 40 = .ok (.goto (-34), 3) := by decide +kernel
theorem dX1_squareToBroken_43 : decode cX1_squareToBroken 43 = .ok (.iload_n 3, 1) := by decide +kernel
theorem dX1_squareToBroken_44 : decode cX1_squareToBroken 44 = .ok (.ireturn, 1) := by decide +kernel
theorem dX1_squareBetween_0 : decode cX1_squareBetween 0 = .ok (.iconst 0, 1) := by decide +kernel
theorem dX1_squareBetween_1 : decode cX1_squareBetween 1 = .ok (.istore 4, 2) := by decide +kernel
theorem dX1_squareBetween_3 : decode cX1_squareBetween 3 = .ok (.iconst 0, 1) := by decide +kernel
theorem dX1_squareBetween_4 : decode cX1_squareBetween 4 = .ok (.istore 5, 2) := by decide +kernel
theorem dX1_squareBetween_6 : decode cX1_squareBetween 6 = .ok (.iload 5, 2) := by decide +kernel
theorem dX1_squareBetween_8 : decode cX1_squareBetween 8 = .ok (.iload_n 3, 1) := by decide +kernel
theorem dX1_squareBetween_9 : decode cX1_squareBetween 9 = .ok (.if_icmp .ge 36, 3) := by decide +kernel
theorem dX1_squareBetween_12 : decode cX1_squareBetween 12 = .ok (.aload_n 0, 1) := by decide +kernel
theorem dX1_squareBetween_13 : decode cX1_squareBetween 13 = .ok (.iload_n 1, 1) := by decide +kernel
theorem dX1_squareBetween_14 : decode cX1_squareBetween 14 = .ok (.iload 5, 2) := by decide +kernel
theorem dX1_squareBetween_16 : decode cX1_squareBetween 16 = .ok (.invokevirtual 93, 3) := by decide +kernel
theorem dX1_squareBetween_19 : decode cX1_squareBetween 19 = .ok (.aload_n 0, 1) := by decide +kernel
theorem dX1_squareBetween_20 : decode cX1_squareBetween 20 = .ok (.iload_n 2, 1) := by decide +kernel
theorem dX1_squareBetween_21 : decode cX1_squareBetween 21 = .ok (.iload 5, 2) := by decide +kernel
theorem dX1_squareBetween_23 : decode cX1_squareBetween 23 = .ok (.invokevirtual 93, 3) := by decide +kernel
theorem dX1_squareBetween_26 : decode cX1_squareBetween 26 = .ok (.isub, 1) := by decide +kernel
theorem dX1_squareBetween_27 : decode cX1_squareBetween 27 = .ok (.istore 6, 2) := by decide +kernel
theorem dX1_squareBetween_29 : decode cX1_squareBetween 29 = .ok (.iload 4, 2) := by decide +kernel
theorem dX1_squareBetween_31 : decode cX1_squareBetween 31 = .ok (.iload 6, 2) := by decide +kernel
theorem dX1_squareBetween_33 : decode cX1_squareBetween 33 = .ok (.iload 6, 2) := by decide +kernel
theorem dX1_squareBetween_35 : decode cX1_squareBetween 35 = .ok (.imul, 1) := by decide +kernel
theorem dX1_squareBetween_36 : decode cX1_squareBetween 36 = .ok (.iadd, 1) := by decide +kernel
theorem dX1_squareBetween_37 : decode cX1_squareBetween 37 = .ok (.istore 4, 2) := by decide +kernel
theorem dX1_squareBetween_39 : decode cX1_squareBetween 39 = .ok (.iinc 5 1, 3) := by decide +kernel
theorem dX1_squareBetween_42 : decode cX1_squareBetween 42 = .ok (.goto (-36), 3) := by decide +kernel
theorem dX1_squareBetween_45 : decode cX1_squareBetween 45 = .ok (.iload 4, 2) := by decide +kernel
theorem dX1_squareBetween_47 : decode cX1_squareBetween 47 = .ok (.ireturn, 1) := by decide +kernel
theorem dX1_fewestBroken_0 : decode cX1_fewestBroken 0 = .ok (.sipush 255, 3) := by decide +kernel
theorem dX1_fewestBroken_3 : decode cX1_fewestBroken 3 = .ok (.istore_n 1, 1) := by decide +kernel
theorem dX1_fewestBroken_4 : decode cX1_fewestBroken 4 = .ok (.iconst 0, 1) := by decide +kernel
theorem dX1_fewestBroken_5 : decode cX1_fewestBroken 5 = .ok (.istore_n 2, 1) := by decide +kernel
theorem dX1_fewestBroken_6 : decode cX1_fewestBroken 6 = .ok (.iload_n 2, 1) := by decide +kernel
theorem dX1_fewestBroken_7 : decode cX1_fewestBroken 7 = .ok (.aload_n 0, 1) := by decide +kernel
theorem dX1_fewestBroken_8 : decode cX1_fewestBroken 8 = .ok (.getfield 15, 3) := by decide +kernel
theorem dX1_fewestBroken_11 : decode cX1_fewestBroken 11 = .ok (.if_icmp .ge 43, 3) := by decide +kernel
theorem dX1_fewestBroken_14 : decode cX1_fewestBroken 14 = .ok (.aload_n 0, 1) := by decide +kernel
theorem dX1_fewestBroken_15 : decode cX1_fewestBroken 15 = .ok (.iload_n 2, 1) := by decide +kernel
theorem dX1_fewestBroken_16 : decode cX1_fewestBroken 16 = .ok (.invokevirtual 86, 3) := by decide +kernel
theorem dX1_fewestBroken_19 : decode cX1_fewestBroken 19 = .ok (.istore_n 3, 1) := by decide +kernel
theorem dX1_fewestBroken_20 : decode cX1_fewestBroken 20 = .ok (.iload_n 3, 1) := by decide +kernel
theorem dX1_fewestBroken_21 : decode cX1_fewestBroken 21 = .ok (.invokestatic 115, 3) := by decide +kernel
theorem dX1_fewestBroken_24 : decode cX1_fewestBroken 24 = .ok (.iload_n 1, 1) := by decide +kernel
theorem dX1_fewestBroken_25 : decode cX1_fewestBroken 25 = .ok (.invokestatic 115, 3) := by decide +kernel
theorem dX1_fewestBroken_28 : decode cX1_fewestBroken 28 = .ok (.isub, 1) := by decide +kernel
theorem dX1_fewestBroken_29 : decode cX1_fewestBroken 29 = .ok (.istore 4, 2) := by decide +kernel
theorem dX1_fewestBroken_31 : decode cX1_fewestBroken 31 = .ok (.iload 4, 2) := by decide +kernel
theorem dX1_fewestBroken_33 : decode cX1_fewestBroken 33 = .ok (.ifCond .lt 13, 3) := by decide +kernel
theorem dX1_fewestBroken_36 : decode cX1_fewestBroken 36 = .ok (.iload 4, 2) := by decide +kernel
theorem dX1_fewestBroken_38 : decode cX1_fewestBroken 38 = .ok (.ifCond .ne 10, 3) := by decide +kernel
theorem dX1_fewestBroken_41 : decode cX1_fewestBroken 41 = .ok (.iload_n 3, 1) := by decide +kernel
theorem dX1_fewestBroken_42 : decode cX1_fewestBroken 42 = .ok (.iload_n 1, 1) := by decide +kernel
theorem dX1_fewestBroken_43 : decode cX1_fewestBroken 43 = .ok (.if_icmp .ge 5, 3) := by decide +kernel
theorem dX1_fewestBroken_46 : decode cX1_fewestBroken 46 = .ok (.iload_n 3, 1) := by decide +kernel
theorem dX1_fewestBroken_47 : decode cX1_fewestBroken 47 = .ok (.istore_n 1, 1) := by decide +kernel
theorem dX1_fewestBroken_48 : decode cX1_fewestBroken 48 = .ok (.iinc 2 1, 3) := by decide +kernel
theorem dX1_fewestBroken_51 : decode cX1_fewestBroken 51 = .ok (.goto (-45), 3) := by decide +kernel
theorem dX1_fewestBroken_54 : decode cX1_fewestBroken 54 = .ok (.iload_n 1, 1) := by decide +kernel
theorem dX1_fewestBroken_55 : decode cX1_fewestBroken 55 = .ok (.ireturn, 1) := by decide +kernel
theorem dX1_isInWithout_0 : decode cX1_isInWithout 0 = .ok (.aload_n 0, 1) := by decide +kernel
theorem dX1_isInWithout_1 : decode cX1_isInWithout 1 = .ok (.iload_n 1, 1) := by decide +kernel
theorem dX1_isInWithout_2 : decode cX1_isInWithout 2 = .ok (.invokevirtual 86, 3) := by decide +kernel
theorem dX1_isInWithout_5 : decode cX1_isInWithout 5 = .ok (.iconst 1, 1) := by decide +kernel
theorem dX1_isInWithout_6 : decode cX1_isInWithout 6 = .ok (.iload_n 2, 1) := by decide +kernel
theorem dX1_isInWithout_7 : decode cX1_isInWithout 7 = .ok (.ishl, 1) := by decide +kernel
theorem dX1_isInWithout_8 : decode cX1_isInWithout 8 = .ok (.iconst (-1), 1) := by decide +kernel
theorem dX1_isInWithout_9 : decode cX1_isInWithout 9 = .ok (.ixor, 1) := by decide +kernel
theorem dX1_isInWithout_10 : decode cX1_isInWithout 10 = .ok (.iand, 1) := by decide +kernel
theorem dX1_isInWithout_11 : decode cX1_isInWithout 11 = .ok (.ifCond .ne 7, 3) := by decide +kernel
theorem dX1_isInWithout_14 : decode cX1_isInWithout 14 = .ok (.iconst 1, 1) := by decide +kernel
theorem dX1_isInWithout_15 : decode cX1_isInWithout 15 = .ok (.goto 4, 3) := by decide +kernel
theorem dX1_isInWithout_18 : decode cX1_isInWithout 18 = .ok (.iconst 0, 1) := by decide +kernel
theorem dX1_isInWithout_19 : decode cX1_isInWithout 19 = .ok (.ireturn, 1) := by decide +kernel
theorem dX1_insideWithout_0 : decode cX1_insideWithout 0 = .ok (.iconst 0, 1) := by decide +kernel
theorem dX1_insideWithout_1 : decode cX1_insideWithout 1 = .ok (.istore_n 2, 1) := by decide +kernel
theorem dX1_insideWithout_2 : decode cX1_insideWithout 2 = .ok (.iconst 0, 1) := by decide +kernel
theorem dX1_insideWithout_3 : decode cX1_insideWithout 3 = .ok (.istore_n 3, 1) := by decide +kernel
theorem dX1_insideWithout_4 : decode cX1_insideWithout 4 = .ok (.iload_n 3, 1) := by decide +kernel
theorem dX1_insideWithout_5 : decode cX1_insideWithout 5 = .ok (.aload_n 0, 1) := by decide +kernel
theorem dX1_insideWithout_6 : decode cX1_insideWithout 6 = .ok (.getfield 15, 3) := by decide +kernel
theorem dX1_insideWithout_9 : decode cX1_insideWithout 9 = .ok (.if_icmp .ge 26, 3) := by decide +kernel
theorem dX1_insideWithout_12 : decode cX1_insideWithout 12 = .ok (.iload_n 2, 1) := by decide +kernel
theorem dX1_insideWithout_13 : decode cX1_insideWithout 13 = .ok (.aload_n 0, 1) := by decide +kernel
theorem dX1_insideWithout_14 : decode cX1_insideWithout 14 = .ok (.iload_n 3, 1) := by decide +kernel
theorem dX1_insideWithout_15 : decode cX1_insideWithout 15 = .ok (.iload_n 1, 1) := by decide +kernel
theorem dX1_insideWithout_16 : decode cX1_insideWithout 16 = .ok (.invokevirtual 120, 3) := by decide +kernel
theorem dX1_insideWithout_19 : decode cX1_insideWithout 19 = .ok (.ifCond .eq 7, 3) := by decide +kernel
theorem dX1_insideWithout_22 : decode cX1_insideWithout 22 = .ok (.iconst 1, 1) := by decide +kernel
theorem dX1_insideWithout_23 : decode cX1_insideWithout 23 = .ok (.goto 4, 3) := by decide +kernel
theorem dX1_insideWithout_26 : decode cX1_insideWithout 26 = .ok (.iconst 0, 1) := by decide +kernel
theorem dX1_insideWithout_27 : decode cX1_insideWithout 27 = .ok (.iadd, 1) := by decide +kernel
theorem dX1_insideWithout_28 : decode cX1_insideWithout 28 = .ok (.istore_n 2, 1) := by decide +kernel
theorem dX1_insideWithout_29 : decode cX1_insideWithout 29 = .ok (.iinc 3 1, 3) := by decide +kernel
theorem dX1_insideWithout_32 : decode cX1_insideWithout 32 = .ok (.goto (-28), 3) := by decide +kernel
theorem dX1_insideWithout_35 : decode cX1_insideWithout 35 = .ok (.iload_n 2, 1) := by decide +kernel
theorem dX1_insideWithout_36 : decode cX1_insideWithout 36 = .ok (.ireturn, 1) := by decide +kernel
theorem dX1_insideAs_0 : decode cX1_insideAs 0 = .ok (.aload_n 1, 1) := by decide +kernel
theorem dX1_insideAs_1 : decode cX1_insideAs 1 = .ok (.getfield 124, 3) := by decide +kernel
theorem dX1_insideAs_4 : decode cX1_insideAs 4 = .ok (.iload_n 2, 1) := by decide +kernel
theorem dX1_insideAs_5 : decode cX1_insideAs 5 = .ok (.aaload, 1) := by decide +kernel
theorem dX1_insideAs_6 : decode cX1_insideAs 6 = .ok (.astore 4, 2) := by decide +kernel
theorem dX1_insideAs_8 : decode cX1_insideAs 8 = .ok (.iconst 0, 1) := by decide +kernel
theorem dX1_insideAs_9 : decode cX1_insideAs 9 = .ok (.istore 5, 2) := by decide +kernel
theorem dX1_insideAs_11 : decode cX1_insideAs 11 = .ok (.iconst 0, 1) := by decide +kernel
theorem dX1_insideAs_12 : decode cX1_insideAs 12 = .ok (.istore 6, 2) := by decide +kernel
theorem dX1_insideAs_14 : decode cX1_insideAs 14 = .ok (.iload 6, 2) := by decide +kernel
theorem dX1_insideAs_16 : decode cX1_insideAs 16 = .ok (.aload_n 0, 1) := by decide +kernel
theorem dX1_insideAs_17 : decode cX1_insideAs 17 = .ok (.getfield 15, 3) := by decide +kernel
theorem dX1_insideAs_20 : decode cX1_insideAs 20 = .ok (.if_icmp .ge 47, 3) := by decide +kernel
theorem dX1_insideAs_23 : decode cX1_insideAs 23 = .ok (.aload_n 0, 1) := by decide +kernel
theorem dX1_insideAs_24 : decode cX1_insideAs 24 = .ok (.iload 6, 2) := by decide +kernel
theorem dX1_insideAs_26 : decode cX1_insideAs 26 = .ok (.iload_n 2, 1) := by decide +kernel
theorem dX1_insideAs_27 : decode cX1_insideAs 27 = .ok (.invokevirtual 120, 3) := by decide +kernel
theorem dX1_insideAs_30 : decode cX1_insideAs 30 = .ok (.ifCond .eq 31, 3) := by decide +kernel
theorem dX1_insideAs_33 : decode cX1_insideAs 33 = .ok (.aload 4, 2) := by decide +kernel
theorem dX1_insideAs_35 : decode cX1_insideAs 35 = .ok (.iload_n 3, 1) := by decide +kernel
theorem dX1_insideAs_36 : decode cX1_insideAs 36 = .ok (.aload 4, 2) := by decide +kernel
theorem dX1_insideAs_38 : decode cX1_insideAs 38 = .ok (.aload_n 0, 1) := by decide +kernel
theorem dX1_insideAs_39 : decode cX1_insideAs 39 = .ok (.getfield 37, 3) := by decide +kernel
theorem dX1_insideAs_42 : decode cX1_insideAs 42 = .ok (.iload 6, 2) := by decide +kernel
theorem dX1_insideAs_44 : decode cX1_insideAs 44 = .ok (.iaload, 1) := by decide +kernel
theorem dX1_insideAs_45 : decode cX1_insideAs 45 = .ok (.aload_n 1, 1) := by decide +kernel
theorem dX1_insideAs_46 : decode cX1_insideAs 46 = .ok (.getfield 72, 3) := by decide +kernel
theorem dX1_insideAs_49 : decode cX1_insideAs 49 = .ok (.invokevirtual 128, 3) := by decide +kernel
theorem dX1_insideAs_52 : decode cX1_insideAs 52 = .ok (.invokevirtual 133, 3) := by decide +kernel
theorem dX1_insideAs_55 : decode cX1_insideAs 55 = .ok (.ifCond .eq 6, 3) := by decide +kernel
theorem dX1_insideAs_58 : decode cX1_insideAs 58 = .ok (.iinc 5 1, 3) := by decide +kernel
theorem dX1_insideAs_61 : decode cX1_insideAs 61 = .ok (.iinc 6 1, 3) := by decide +kernel
theorem dX1_insideAs_64 : decode cX1_insideAs 64 = .ok (.goto (-50), 3) := by decide +kernel
theorem dX1_insideAs_67 : decode cX1_insideAs 67 = .ok (.iload 5, 2) := by decide +kernel
theorem dX1_insideAs_69 : decode cX1_insideAs 69 = .ok (.ireturn, 1) := by decide +kernel
theorem dX1_leastBound_0 : decode cX1_leastBound 0 = .ok (.aload_n 1, 1) := by decide +kernel
theorem dX1_leastBound_1 : decode cX1_leastBound 1 = .ok (.getfield 124, 3) := by decide +kernel
theorem dX1_leastBound_4 : decode cX1_leastBound 4 = .ok (.iload_n 2, 1) := by decide +kernel
theorem dX1_leastBound_5 : decode cX1_leastBound 5 = .ok (.aaload, 1) := by decide +kernel
theorem dX1_leastBound_6 : decode cX1_leastBound 6 = .ok (.astore_n 3, 1) := by decide +kernel
theorem dX1_leastBound_7 : decode cX1_leastBound 7 = .ok (.sipush 1000, 3) := by decide +kernel
theorem dX1_leastBound_10 : decode cX1_leastBound 10 = .ok (.istore 4, 2) := by decide +kernel
theorem dX1_leastBound_12 : decode cX1_leastBound 12 = .ok (.iconst 0, 1) := by decide +kernel
theorem dX1_leastBound_13 : decode cX1_leastBound 13 = .ok (.istore 5, 2) := by decide +kernel
theorem dX1_leastBound_15 : decode cX1_leastBound 15 = .ok (.iload 5, 2) := by decide +kernel
theorem dX1_leastBound_17 : decode cX1_leastBound 17 = .ok (.aload_n 0, 1) := by decide +kernel
theorem dX1_leastBound_18 : decode cX1_leastBound 18 = .ok (.getfield 15, 3) := by decide +kernel
theorem dX1_leastBound_21 : decode cX1_leastBound 21 = .ok (.if_icmp .ge 45, 3) := by decide +kernel
theorem dX1_leastBound_24 : decode cX1_leastBound 24 = .ok (.aload_n 0, 1) := by decide +kernel
theorem dX1_leastBound_25 : decode cX1_leastBound 25 = .ok (.iload 5, 2) := by decide +kernel
theorem dX1_leastBound_27 : decode cX1_leastBound 27 = .ok (.iload_n 2, 1) := by decide +kernel
theorem dX1_leastBound_28 : decode cX1_leastBound 28 = .ok (.invokevirtual 120, 3) := by decide +kernel
theorem dX1_leastBound_31 : decode cX1_leastBound 31 = .ok (.ifCond .eq 29, 3) := by decide +kernel
theorem dX1_leastBound_34 : decode cX1_leastBound 34 = .ok (.iload 4, 2) := by decide +kernel
theorem dX1_leastBound_36 : decode cX1_leastBound 36 = .ok (.aload_n 3, 1) := by decide +kernel
theorem dX1_leastBound_37 : decode cX1_leastBound 37 = .ok (.aload_n 3, 1) := by decide +kernel
theorem dX1_leastBound_38 : decode cX1_leastBound 38 = .ok (.aload_n 0, 1) := by decide +kernel
theorem dX1_leastBound_39 : decode cX1_leastBound 39 = .ok (.getfield 37, 3) := by decide +kernel
theorem dX1_leastBound_42 : decode cX1_leastBound 42 = .ok (.iload 5, 2) := by decide +kernel
theorem dX1_leastBound_44 : decode cX1_leastBound 44 = .ok (.iaload, 1) := by decide +kernel
theorem dX1_leastBound_45 : decode cX1_leastBound 45 = .ok (.aload_n 1, 1) := by decide +kernel
theorem dX1_leastBound_46 : decode cX1_leastBound 46 = .ok (.getfield 72, 3) := by decide +kernel
theorem dX1_leastBound_49 : decode cX1_leastBound 49 = .ok (.invokevirtual 128, 3) := by decide +kernel
theorem dX1_leastBound_52 : decode cX1_leastBound 52 = .ok (.invokevirtual 136, 3) := by decide +kernel
theorem dX1_leastBound_55 : decode cX1_leastBound 55 = .ok (.invokestatic 53, 3) := by decide +kernel
theorem dX1_leastBound_58 : decode cX1_leastBound 58 = .ok (.istore 4, 2) := by decide +kernel
theorem dX1_leastBound_60 : decode cX1_leastBound 60 = .ok (.iinc 5 1, 3) := by decide +kernel
theorem dX1_leastBound_63 : decode cX1_leastBound 63 = .ok (.goto (-48), 3) := by decide +kernel
theorem dX1_leastBound_66 : decode cX1_leastBound 66 = .ok (.iload 4, 2) := by decide +kernel
theorem dX1_leastBound_68 : decode cX1_leastBound 68 = .ok (.ireturn, 1) := by decide +kernel
theorem dX2_makeForm_0 : decode cX2_makeForm 0 = .ok (.aload_n 0, 1) := by decide +kernel
theorem dX2_makeForm_1 : decode cX2_makeForm 1 = .ok (.aload_n 1, 1) := by decide +kernel
theorem dX2_makeForm_2 : decode cX2_makeForm 2 = .ok (.getfield 37, 3) := by decide +kernel
theorem dX2_makeForm_5 : decode cX2_makeForm 5 = .ok (.putfield 24, 3) := by decide +kernel
theorem dX2_makeForm_8 : decode cX2_makeForm 8 = .ok (.iconst 0, 1) := by decide +kernel
theorem dX2_makeForm_9 : decode cX2_makeForm 9 = .ok (.istore_n 2, 1) := by decide +kernel
theorem dX2_makeForm_10 : decode cX2_makeForm 10 = .ok (.iload_n 2, 1) := by decide +kernel
theorem dX2_makeForm_11 : decode cX2_makeForm 11 = .ok (.aload_n 0, 1) := by decide +kernel
theorem dX2_makeForm_12 : decode cX2_makeForm 12 = .ok (.getfield 24, 3) := by decide +kernel
theorem dX2_makeForm_15 : decode cX2_makeForm 15 = .ok (.if_icmp .ge 42, 3) := by decide +kernel
theorem dX2_makeForm_18 : decode cX2_makeForm 18 = .ok (.iconst 0, 1) := by decide +kernel
theorem dX2_makeForm_19 : decode cX2_makeForm 19 = .ok (.istore_n 3, 1) := by decide +kernel
theorem dX2_makeForm_20 : decode cX2_makeForm 20 = .ok (.iload_n 3, 1) := by decide +kernel
theorem dX2_makeForm_21 : decode cX2_makeForm 21 = .ok (.aload_n 0, 1) := by decide +kernel
theorem dX2_makeForm_22 : decode cX2_makeForm 22 = .ok (.getfield 24, 3) := by decide +kernel
theorem dX2_makeForm_25 : decode cX2_makeForm 25 = .ok (.if_icmp .ge 26, 3) := by decide +kernel
theorem dX2_makeForm_28 : decode cX2_makeForm 28 = .ok (.aload_n 0, 1) := by decide +kernel
theorem dX2_makeForm_29 : decode cX2_makeForm 29 = .ok (.getfield 11, 3) := by decide +kernel
theorem dX2_makeForm_32 : decode cX2_makeForm 32 = .ok (.iload_n 2, 1) := by decide +kernel
theorem dX2_makeForm_33 : decode cX2_makeForm 33 = .ok (.aaload, 1) := by decide +kernel
theorem dX2_makeForm_34 : decode cX2_makeForm 34 = .ok (.iload_n 3, 1) := by decide +kernel
theorem dX2_makeForm_35 : decode cX2_makeForm 35 = .ok (.aload_n 1, 1) := by decide +kernel
theorem dX2_makeForm_36 : decode cX2_makeForm 36 = .ok (.getfield 40, 3) := by decide +kernel
theorem dX2_makeForm_39 : decode cX2_makeForm 39 = .ok (.iload_n 2, 1) := by decide +kernel
theorem dX2_makeForm_40 : decode cX2_makeForm 40 = .ok (.aaload, 1) := by decide +kernel
theorem dX2_makeForm_41 : decode cX2_makeForm 41 = .ok (.iload_n 3, 1) := by decide +kernel
theorem dX2_makeForm_42 : decode cX2_makeForm 42 = .ok (.iaload, 1) := by decide +kernel
theorem dX2_makeForm_43 : decode cX2_makeForm 43 = .ok (.i2l, 1) := by decide +kernel
theorem dX2_makeForm_44 : decode cX2_makeForm 44 = .ok (.lastore, 1) := by decide +kernel
theorem dX2_makeForm_45 : decode cX2_makeForm 45 = .ok (.iinc 3 1, 3) := by decide +kernel
theorem dX2_makeForm_48 : decode cX2_makeForm 48 = .ok (.goto (-28), 3) := by decide +kernel
theorem dX2_makeForm_51 : decode cX2_makeForm 51 = .ok (.iinc 2 1, 3) := by decide +kernel
theorem dX2_makeForm_54 : decode cX2_makeForm 54 = .ok (.goto (-44), 3) := by decide +kernel
theorem dX2_makeForm_57 : decode cX2_makeForm 57 = .ok (.lconst 1, 1) := by decide +kernel
theorem dX2_makeForm_58 : decode cX2_makeForm 58 = .ok (.lstore_n 2, 1) := by decide +kernel
theorem dX2_makeForm_59 : decode cX2_makeForm 59 = .ok (.iconst 0, 1) := by decide +kernel
theorem dX2_makeForm_60 : decode cX2_makeForm 60 = .ok (.istore 4, 2) := by decide +kernel
theorem dX2_makeForm_62 : decode cX2_makeForm 62 = .ok (.iload 4, 2) := by decide +kernel
theorem dX2_makeForm_64 : decode cX2_makeForm 64 = .ok (.aload_n 0, 1) := by decide +kernel
theorem dX2_makeForm_65 : decode cX2_makeForm 65 = .ok (.getfield 24, 3) := by decide +kernel
theorem dX2_makeForm_68 : decode cX2_makeForm 68 = .ok (.if_icmp .ge 92, 3) := by decide +kernel
theorem dX2_makeForm_71 : decode cX2_makeForm 71 = .ok (.iload 4, 2) := by decide +kernel
theorem dX2_makeForm_73 : decode cX2_makeForm 73 = .ok (.iconst 1, 1) := by decide +kernel
theorem dX2_makeForm_74 : decode cX2_makeForm 74 = .ok (.iadd, 1) := by decide +kernel
theorem dX2_makeForm_75 : decode cX2_makeForm 75 = .ok (.istore 5, 2) := by decide +kernel
theorem dX2_makeForm_77 : decode cX2_makeForm 77 = .ok (.iload 5, 2) := by decide +kernel
theorem dX2_makeForm_79 : decode cX2_makeForm 79 = .ok (.aload_n 0, 1) := by decide +kernel
theorem dX2_makeForm_80 : decode cX2_makeForm 80 = .ok (.getfield 24, 3) := by decide +kernel
theorem dX2_makeForm_83 : decode cX2_makeForm 83 = .ok (.if_icmp .ge 21, 3) := by decide +kernel
theorem dX2_makeForm_86 : decode cX2_makeForm 86 = .ok (.lload_n 2, 1) := by decide +kernel
theorem dX2_makeForm_87 : decode cX2_makeForm 87 = .ok (.aload_n 0, 1) := by decide +kernel
theorem dX2_makeForm_88 : decode cX2_makeForm 88 = .ok (.iload 4, 2) := by decide +kernel
theorem dX2_makeForm_90 : decode cX2_makeForm 90 = .ok (.iload 5, 2) := by decide +kernel
theorem dX2_makeForm_92 : decode cX2_makeForm 92 = .ok (.invokevirtual 44, 3) := by decide +kernel
theorem dX2_makeForm_95 : decode cX2_makeForm 95 = .ok (.i2l, 1) := by decide +kernel
theorem dX2_makeForm_96 : decode cX2_makeForm 96 = .ok (.lmul, 1) := by decide +kernel
theorem dX2_makeForm_97 : decode cX2_makeForm 97 = .ok (.lstore_n 2, 1) := by decide +kernel
theorem dX2_makeForm_98 : decode cX2_makeForm 98 = .ok (.iinc 5 1, 3) := by decide +kernel
theorem dX2_makeForm_101 : decode cX2_makeForm 101 = .ok (.goto (-24), 3) := by decide +kernel
theorem dX2_makeForm_104 : decode cX2_makeForm 104 = .ok (.aload_n 0, 1) := by decide +kernel
theorem dX2_makeForm_105 : decode cX2_makeForm 105 = .ok (.getfield 11, 3) := by decide +kernel
theorem dX2_makeForm_108 : decode cX2_makeForm 108 = .ok (.iload 4, 2) := by decide +kernel
theorem dX2_makeForm_110 : decode cX2_makeForm 110 = .ok (.aaload, 1) := by decide +kernel
theorem dX2_makeForm_111 : decode cX2_makeForm 111 = .ok (.iload 4, 2) := by decide +kernel
theorem dX2_makeForm_113 : decode cX2_makeForm 113 = .ok (.laload, 1) := by decide +kernel
theorem dX2_makeForm_114 : decode cX2_makeForm 114 = .ok (.lconst 0, 1) := by decide +kernel
theorem dX2_makeForm_115 : decode cX2_makeForm 115 = .ok (.lcmp, 1) := by decide +kernel
theorem dX2_makeForm_116 : decode cX2_makeForm 116 = .ok (.ifCond .ge 17, 3) := by decide +kernel
theorem dX2_makeForm_119 : decode cX2_makeForm 119 = .ok (.aload_n 0, 1) := by decide +kernel
theorem dX2_makeForm_120 : decode cX2_makeForm 120 = .ok (.iload 4, 2) := by decide +kernel
theorem dX2_makeForm_122 : decode cX2_makeForm 122 = .ok (.iload 4, 2) := by decide +kernel
theorem dX2_makeForm_124 : decode cX2_makeForm 124 = .ok (.ldc2_w 48, 3) := by decide +kernel
theorem dX2_makeForm_127 : decode cX2_makeForm 127 = .ok (.invokevirtual 50, 3) := by decide +kernel
theorem dX2_makeForm_130 : decode cX2_makeForm 130 = .ok (.lload_n 2, 1) := by decide +kernel
theorem dX2_makeForm_131 : decode cX2_makeForm 131 = .ok (.lneg, 1) := by decide +kernel
theorem dX2_makeForm_132 : decode cX2_makeForm 132 = .ok (.lstore_n 2, 1) := by decide +kernel
theorem dX2_makeForm_133 : decode cX2_makeForm 133 = .ok (.lload_n 2, 1) := by decide +kernel
theorem dX2_makeForm_134 : decode cX2_makeForm 134 = .ok (.aload_n 0, 1) := by decide +kernel
theorem dX2_makeForm_135 : decode cX2_makeForm 135 = .ok (.getfield 11, 3) := by decide +kernel
theorem dX2_makeForm_138 : decode cX2_makeForm 138 = .ok (.iload 4, 2) := by decide +kernel
theorem dX2_makeForm_140 : decode cX2_makeForm 140 = .ok (.aaload, 1) := by decide +kernel
theorem dX2_makeForm_141 : decode cX2_makeForm 141 = .ok (.iload 4, 2) := by decide +kernel
theorem dX2_makeForm_143 : decode cX2_makeForm 143 = .ok (.laload, 1) := by decide +kernel
theorem dX2_makeForm_144 : decode cX2_makeForm 144 = .ok (.lmul, 1) := by decide +kernel
theorem dX2_makeForm_145 : decode cX2_makeForm 145 = .ok (.lstore_n 2, 1) := by decide +kernel
theorem dX2_makeForm_146 : decode cX2_makeForm 146 = .ok (.lload_n 2, 1) := by decide +kernel
theorem dX2_makeForm_147 : decode cX2_makeForm 147 = .ok (.lconst 0, 1) := by decide +kernel
theorem dX2_makeForm_148 : decode cX2_makeForm 148 = .ok (.lcmp, 1) := by decide +kernel
theorem dX2_makeForm_149 : decode cX2_makeForm 149 = .ok (.ifCond .ne 5, 3) := by decide +kernel
theorem dX2_makeForm_152 : decode cX2_makeForm 152 = .ok (.iconst 0, 1) := by decide +kernel
theorem dX2_makeForm_153 : decode cX2_makeForm 153 = .ok (.ireturn, 1) := by decide +kernel
theorem dX2_makeForm_154 : decode cX2_makeForm 154 = .ok (.iinc 4 1, 3) := by decide +kernel
theorem dX2_makeForm_157 : decode cX2_makeForm 157 = .ok (.goto (-95), 3) := by decide +kernel
theorem dX2_makeForm_160 : decode cX2_makeForm 160 = .ok (.aload_n 0, 1) := by decide +kernel
theorem dX2_makeForm_161 : decode cX2_makeForm 161 = .ok (.invokevirtual 54, 3) := by decide +kernel
theorem dX2_makeForm_164 : decode cX2_makeForm 164 = .ok (.lload_n 2, 1) := by decide +kernel
theorem dX2_makeForm_165 : decode cX2_makeForm 165 = .ok (.l2i, 1) := by decide +kernel
theorem dX2_makeForm_166 : decode cX2_makeForm 166 = .ok (.ireturn, 1) := by decide +kernel
theorem dX2_clearBelow_0 : decode cX2_clearBelow 0 = .ok (.iconst 1, 1) := by decide +kernel
theorem dX2_clearBelow_1 : decode cX2_clearBelow 1 = .ok (.istore_n 3, 1) := by decide +kernel
theorem dX2_clearBelow_2 : decode cX2_clearBelow 2 = .ok (.iconst 0, 1) := by decide +kernel
theorem dX2_clearBelow_3 : decode cX2_clearBelow 3 = .ok (.istore 4, 2) := by decide +kernel
theorem dX2_clearBelow_5 : decode cX2_clearBelow 5 = .ok (.iload 4, 2) := by decide +kernel
theorem dX2_clearBelow_7 : decode cX2_clearBelow 7 = .ok (.bipush 100, 2) := by decide +kernel
theorem dX2_clearBelow_9 : decode cX2_clearBelow 9 = .ok (.if_icmp .ge 107, 3) := by decide +kernel
theorem dX2_clearBelow_12 : decode cX2_clearBelow 12 = .ok (.aload_n 0, 1) := by decide +kernel
theorem dX2_clearBelow_13 : decode cX2_clearBelow 13 = .ok (.getfield 11, 3) := by decide +kernel
theorem dX2_clearBelow_16 : decode cX2_clearBelow 16 = .ok (.iload_n 2, 1) := by decide +kernel
theorem dX2_clearBelow_17 : decode cX2_clearBelow 17 = .ok (.aaload, 1) := by decide +kernel
theorem dX2_clearBelow_18 : decode cX2_clearBelow 18 = .ok (.iload_n 1, 1) := by decide +kernel
theorem dX2_clearBelow_19 : decode cX2_clearBelow 19 = .ok (.laload, 1) := by decide +kernel
theorem dX2_clearBelow_20 : decode cX2_clearBelow 20 = .ok (.lconst 0, 1) := by decide +kernel
theorem dX2_clearBelow_21 : decode cX2_clearBelow 21 = .ok (.lcmp, 1) := by decide +kernel
theorem dX2_clearBelow_22 : decode cX2_clearBelow 22 = .ok (.ifCond .eq 94, 3) := by decide +kernel
theorem dX2_clearBelow_25 : decode cX2_clearBelow 25 = .ok (.aload_n 0, 1) := by decide +kernel
theorem dX2_clearBelow_26 : decode cX2_clearBelow 26 = .ok (.iload_n 2, 1) := by decide +kernel
theorem dX2_clearBelow_27 : decode cX2_clearBelow 27 = .ok (.iload_n 1, 1) := by decide +kernel
theorem dX2_clearBelow_28 : decode cX2_clearBelow 28 = .ok (.aload_n 0, 1) := by decide +kernel
theorem dX2_clearBelow_29 : decode cX2_clearBelow 29 = .ok (.getfield 11, 3) := by decide +kernel
theorem dX2_clearBelow_32 : decode cX2_clearBelow 32 = .ok (.iload_n 1, 1) := by decide +kernel
theorem dX2_clearBelow_33 : decode cX2_clearBelow 33 = .ok (.aaload, 1) := by decide +kernel
theorem dX2_clearBelow_34 : decode cX2_clearBelow 34 = .ok (.iload_n 1, 1) := by decide +kernel
theorem dX2_clearBelow_35 : decode cX2_clearBelow 35 = .ok (.laload, 1) := by decide +kernel
theorem dX2_clearBelow_36 : decode cX2_clearBelow 36 = .ok (.aload_n 0, 1) := by decide +kernel
theorem dX2_clearBelow_37 : decode cX2_clearBelow 37 = .ok (.getfield 11, 3) := by decide +kernel
theorem dX2_clearBelow_40 : decode cX2_clearBelow 40 = .ok (.iload_n 2, 1) := by decide +kernel
theorem dX2_clearBelow_41 : decode cX2_clearBelow 41 = .ok (.aaload, 1) := by decide +kernel
theorem dX2_clearBelow_42 : decode cX2_clearBelow 42 = .ok (.iload_n 1, 1) := by decide +kernel
theorem dX2_clearBelow_43 : decode cX2_clearBelow 43 = .ok (.laload, 1) := by decide +kernel
theorem dX2_clearBelow_44 : decode cX2_clearBelow 44 = .ok (.ldiv, 1) := by decide +kernel
theorem dX2_clearBelow_45 : decode cX2_clearBelow 45 = .ok (.lneg, 1) := by decide +kernel
theorem dX2_clearBelow_46 : decode cX2_clearBelow 46 = .ok (.invokevirtual 50, 3) := by decide +kernel
theorem dX2_clearBelow_49 : decode cX2_clearBelow 49 = .ok (.iconst 0, 1) := by decide +kernel
theorem dX2_clearBelow_50 : decode cX2_clearBelow 50 = .ok (.istore 5, 2) := by decide +kernel
theorem dX2_clearBelow_52 : decode cX2_clearBelow 52 = .ok (.iload 5, 2) := by decide +kernel
theorem dX2_clearBelow_54 : decode cX2_clearBelow 54 = .ok (.aload_n 0, 1) := by decide +kernel
theorem dX2_clearBelow_55 : decode cX2_clearBelow 55 = .ok (.getfield 24, 3) := by decide +kernel
theorem dX2_clearBelow_58 : decode cX2_clearBelow 58 = .ok (.if_icmp .ge 49, 3) := by decide +kernel
theorem dX2_clearBelow_61 : decode cX2_clearBelow 61 = .ok (.aload_n 0, 1) := by decide +kernel
theorem dX2_clearBelow_62 : decode cX2_clearBelow 62 = .ok (.getfield 11, 3) := by decide +kernel
theorem dX2_clearBelow_65 : decode cX2_clearBelow 65 = .ok (.iload_n 1, 1) := by decide +kernel
theorem dX2_clearBelow_66 : decode cX2_clearBelow 66 = .ok (.aaload, 1) := by decide +kernel
theorem dX2_clearBelow_67 : decode cX2_clearBelow 67 = .ok (.iload 5, 2) := by decide +kernel
theorem dX2_clearBelow_69 : decode cX2_clearBelow 69 = .ok (.laload, 1) := by decide +kernel
theorem dX2_clearBelow_70 : decode cX2_clearBelow 70 = .ok (.lstore 6, 2) := by decide +kernel
theorem dX2_clearBelow_72 : decode cX2_clearBelow 72 = .ok (.aload_n 0, 1) := by decide +kernel
theorem dX2_clearBelow_73 : decode cX2_clearBelow 73 = .ok (.getfield 11, 3) := by decide +kernel
theorem dX2_clearBelow_76 : decode cX2_clearBelow 76 = .ok (.iload_n 1, 1) := by decide +kernel
theorem dX2_clearBelow_77 : decode cX2_clearBelow 77 = .ok (.aaload, 1) := by decide +kernel
theorem dX2_clearBelow_78 : decode cX2_clearBelow 78 = .ok (.iload 5, 2) := by decide +kernel
theorem dX2_clearBelow_80 : decode cX2_clearBelow 80 = .ok (.aload_n 0, 1) := by decide +kernel
theorem dX2_clearBelow_81 : decode cX2_clearBelow 81 = .ok (.getfield 11, 3) := by decide +kernel
theorem dX2_clearBelow_84 : decode cX2_clearBelow 84 = .ok (.iload_n 2, 1) := by decide +kernel
theorem dX2_clearBelow_85 : decode cX2_clearBelow 85 = .ok (.aaload, 1) := by decide +kernel
theorem dX2_clearBelow_86 : decode cX2_clearBelow 86 = .ok (.iload 5, 2) := by decide +kernel
theorem dX2_clearBelow_88 : decode cX2_clearBelow 88 = .ok (.laload, 1) := by decide +kernel
theorem dX2_clearBelow_89 : decode cX2_clearBelow 89 = .ok (.lastore, 1) := by decide +kernel
theorem dX2_clearBelow_90 : decode cX2_clearBelow 90 = .ok (.aload_n 0, 1) := by decide +kernel
theorem dX2_clearBelow_91 : decode cX2_clearBelow 91 = .ok (.getfield 11, 3) := by decide +kernel
theorem dX2_clearBelow_94 : decode cX2_clearBelow 94 = .ok (.iload_n 2, 1) := by decide +kernel
theorem dX2_clearBelow_95 : decode cX2_clearBelow 95 = .ok (.aaload, 1) := by decide +kernel
theorem dX2_clearBelow_96 : decode cX2_clearBelow 96 = .ok (.iload 5, 2) := by decide +kernel
theorem dX2_clearBelow_98 : decode cX2_clearBelow 98 = .ok (.lload 6, 2) := by decide +kernel
theorem dX2_clearBelow_100 : decode cX2_clearBelow 100 = .ok (.lastore, 1) := by decide +kernel
theorem dX2_clearBelow_101 : decode cX2_clearBelow 101 = .ok (.iinc 5 1, 3) := by decide +kernel
theorem dX2_clearBelow_104 : decode cX2_clearBelow 104 = .ok (.goto (-52), 3) := by decide +kernel
theorem dX2_clearBelow_107 : decode cX2_clearBelow 107 = .ok (.iload_n 3, 1) := by decide +kernel
theorem dX2_clearBelow_108 : decode cX2_clearBelow 108 = .ok (.ineg, 1) := by decide +kernel
theorem dX2_clearBelow_109 : decode cX2_clearBelow 109 = .ok (.istore_n 3, 1) := by decide +kernel
theorem dX2_clearBelow_110 : decode cX2_clearBelow 110 = .ok (.iinc 4 1, 3) := by decide +kernel
theorem dX2_clearBelow_113 : decode cX2_clearBelow 113 = .ok (.goto (-108), 3) := by decide +kernel
theorem dX2_clearBelow_116 : decode cX2_clearBelow 116 = .ok (.iload_n 3, 1) := by decide +kernel
theorem dX2_clearBelow_117 : decode cX2_clearBelow 117 = .ok (.ireturn, 1) := by decide +kernel
theorem dX2_addTimes_0 : decode cX2_addTimes 0 = .ok (.iconst 0, 1) := by decide +kernel
theorem dX2_addTimes_1 : decode cX2_addTimes 1 = .ok (.istore 5, 2) := by decide +kernel
theorem dX2_addTimes_3 : decode cX2_addTimes 3 = .ok (.iload 5, 2) := by decide +kernel
theorem dX2_addTimes_5 : decode cX2_addTimes 5 = .ok (.aload_n 0, 1) := by decide +kernel
theorem dX2_addTimes_6 : decode cX2_addTimes 6 = .ok (.getfield 24, 3) := by decide +kernel
theorem dX2_addTimes_9 : decode cX2_addTimes 9 = .ok (.if_icmp .ge 32, 3) := by decide +kernel
theorem dX2_addTimes_12 : decode cX2_addTimes 12 = .ok (.aload_n 0, 1) := by decide +kernel
theorem dX2_addTimes_13 : decode cX2_addTimes 13 = .ok (.getfield 11, 3) := by decide +kernel
theorem dX2_addTimes_16 : decode cX2_addTimes 16 = .ok (.iload_n 2, 1) := by decide +kernel
theorem dX2_addTimes_17 : decode cX2_addTimes 17 = .ok (.aaload, 1) := by decide +kernel
theorem dX2_addTimes_18 : decode cX2_addTimes 18 = .ok (.iload 5, 2) := by decide +kernel
theorem dX2_addTimes_20 : decode cX2_addTimes 20 = .ok (.dup2, 1) := by decide +kernel
theorem dX2_addTimes_21 : decode cX2_addTimes 21 = .ok (.laload, 1) := by decide +kernel
theorem dX2_addTimes_22 : decode cX2_addTimes 22 = .ok (.lload_n 3, 1) := by decide +kernel
theorem dX2_addTimes_23 : decode cX2_addTimes 23 = .ok (.aload_n 0, 1) := by decide +kernel
theorem dX2_addTimes_24 : decode cX2_addTimes 24 = .ok (.getfield 11, 3) := by decide +kernel
theorem dX2_addTimes_27 : decode cX2_addTimes 27 = .ok (.iload_n 1, 1) := by decide +kernel
theorem dX2_addTimes_28 : decode cX2_addTimes 28 = .ok (.aaload, 1) := by decide +kernel
theorem dX2_addTimes_29 : decode cX2_addTimes 29 = .ok (.iload 5, 2) := by decide +kernel
theorem dX2_addTimes_31 : decode cX2_addTimes 31 = .ok (.laload, 1) := by decide +kernel
theorem dX2_addTimes_32 : decode cX2_addTimes 32 = .ok (.lmul, 1) := by decide +kernel
theorem dX2_addTimes_33 : decode cX2_addTimes 33 = .ok (.ladd, 1) := by decide +kernel
theorem dX2_addTimes_34 : decode cX2_addTimes 34 = .ok (.lastore, 1) := by decide +kernel
theorem dX2_addTimes_35 : decode cX2_addTimes 35 = .ok (.iinc 5 1, 3) := by decide +kernel
theorem dX2_addTimes_38 : decode cX2_addTimes 38 = .ok (.goto (-35), 3) := by decide +kernel
theorem dX2_addTimes_41 : decode cX2_addTimes 41 = .ok (.return_, 1) := by decide +kernel
theorem dX2_lowerAbove_0 : decode cX2_lowerAbove 0 = .ok (.aload_n 0, 1) := by decide +kernel
theorem dX2_lowerAbove_1 : decode cX2_lowerAbove 1 = .ok (.getfield 24, 3) := by decide +kernel
theorem dX2_lowerAbove_4 : decode cX2_lowerAbove 4 = .ok (.iconst 2, 1) := by decide +kernel
theorem dX2_lowerAbove_5 : decode cX2_lowerAbove 5 = .ok (.isub, 1) := by decide +kernel
theorem dX2_lowerAbove_6 : decode cX2_lowerAbove 6 = .ok (.istore_n 1, 1) := by decide +kernel
theorem dX2_lowerAbove_7 : decode cX2_lowerAbove 7 = .ok (.iload_n 1, 1) := by decide +kernel
theorem dX2_lowerAbove_8 : decode cX2_lowerAbove 8 = .ok (.ifCond .lt 66, 3) := by decide +kernel
theorem dX2_lowerAbove_11 : decode cX2_lowerAbove 11 = .ok (.iload_n 1, 1) := by decide +kernel
theorem dX2_lowerAbove_12 : decode cX2_lowerAbove 12 = .ok (.iconst 1, 1) := by decide +kernel
theorem dX2_lowerAbove_13 : decode cX2_lowerAbove 13 = .ok (.iadd, 1) := by decide +kernel
theorem dX2_lowerAbove_14 : decode cX2_lowerAbove 14 = .ok (.istore_n 2, 1) := by decide +kernel
theorem dX2_lowerAbove_15 : decode cX2_lowerAbove 15 = .ok (.iload_n 2, 1) := by decide +kernel
theorem dX2_lowerAbove_16 : decode cX2_lowerAbove 16 = .ok (.aload_n 0, 1) := by decide +kernel
theorem dX2_lowerAbove_17 : decode cX2_lowerAbove 17 = .ok (.getfield 24, 3) := by decide +kernel
theorem dX2_lowerAbove_20 : decode cX2_lowerAbove 20 = .ok (.if_icmp .ge 48, 3) := by decide +kernel
theorem dX2_lowerAbove_23 : decode cX2_lowerAbove 23 = .ok (.aload_n 0, 1) := by decide +kernel
theorem dX2_lowerAbove_24 : decode cX2_lowerAbove 24 = .ok (.getfield 11, 3) := by decide +kernel
theorem dX2_lowerAbove_27 : decode cX2_lowerAbove 27 = .ok (.iload_n 2, 1) := by decide +kernel
theorem dX2_lowerAbove_28 : decode cX2_lowerAbove 28 = .ok (.aaload, 1) := by decide +kernel
theorem dX2_lowerAbove_29 : decode cX2_lowerAbove 29 = .ok (.iload_n 2, 1) := by decide +kernel
theorem dX2_lowerAbove_30 : decode cX2_lowerAbove 30 = .ok (.laload, 1) := by decide +kernel
theorem dX2_lowerAbove_31 : decode cX2_lowerAbove 31 = .ok (.lconst 0, 1) := by decide +kernel
theorem dX2_lowerAbove_32 : decode cX2_lowerAbove 32 = .ok (.lcmp, 1) := by decide +kernel
theorem dX2_lowerAbove_33 : decode cX2_lowerAbove 33 = .ok (.ifCond .le 29, 3) := by decide +kernel
theorem dX2_lowerAbove_36 : decode cX2_lowerAbove 36 = .ok (.aload_n 0, 1) := by decide +kernel
theorem dX2_lowerAbove_37 : decode cX2_lowerAbove 37 = .ok (.iload_n 2, 1) := by decide +kernel
theorem dX2_lowerAbove_38 : decode cX2_lowerAbove 38 = .ok (.iload_n 1, 1) := by decide +kernel
theorem dX2_lowerAbove_39 : decode cX2_lowerAbove 39 = .ok (.aload_n 0, 1) := by decide +kernel
theorem dX2_lowerAbove_40 : decode cX2_lowerAbove 40 = .ok (.getfield 11, 3) := by decide +kernel
theorem dX2_lowerAbove_43 : decode cX2_lowerAbove 43 = .ok (.iload_n 1, 1) := by decide +kernel
theorem dX2_lowerAbove_44 : decode cX2_lowerAbove 44 = .ok (.aaload, 1) := by decide +kernel
theorem dX2_lowerAbove_45 : decode cX2_lowerAbove 45 = .ok (.iload_n 2, 1) := by decide +kernel
theorem dX2_lowerAbove_46 : decode cX2_lowerAbove 46 = .ok (.laload, 1) := by decide +kernel
theorem dX2_lowerAbove_47 : decode cX2_lowerAbove 47 = .ok (.aload_n 0, 1) := by decide +kernel
theorem dX2_lowerAbove_48 : decode cX2_lowerAbove 48 = .ok (.getfield 11, 3) := by decide +kernel
theorem dX2_lowerAbove_51 : decode cX2_lowerAbove 51 = .ok (.iload_n 2, 1) := by decide +kernel
theorem dX2_lowerAbove_52 : decode cX2_lowerAbove 52 = .ok (.aaload, 1) := by decide +kernel
theorem dX2_lowerAbove_53 : decode cX2_lowerAbove 53 = .ok (.iload_n 2, 1) := by decide +kernel
theorem dX2_lowerAbove_54 : decode cX2_lowerAbove 54 = .ok (.laload, 1) := by decide +kernel
theorem dX2_lowerAbove_55 : decode cX2_lowerAbove 55 = .ok (.invokestatic 57, 3) := by decide +kernel
theorem dX2_lowerAbove_58 : decode cX2_lowerAbove 58 = .ok (.lneg, 1) := by decide +kernel
theorem dX2_lowerAbove_59 : decode cX2_lowerAbove 59 = .ok (.invokevirtual 50, 3) := by decide +kernel
theorem dX2_lowerAbove_62 : decode cX2_lowerAbove 62 = .ok (.iinc 2 1, 3) := by decide +kernel
theorem dX2_lowerAbove_65 : decode cX2_lowerAbove 65 = .ok (.goto (-50), 3) := by decide +kernel
theorem dX2_lowerAbove_68 : decode cX2_lowerAbove 68 = .ok (.iinc 1 (-1), 3) := by decide +kernel
theorem dX2_lowerAbove_71 : decode cX2_lowerAbove 71 = .ok (.goto (-64), 3) := by decide +kernel
theorem dX2_lowerAbove_74 : decode cX2_lowerAbove 74 = .ok (.return_, 1) := by decide +kernel
theorem dX2_contains_0 : decode cX2_contains 0 = .ok (.iconst 0, 1) := by decide +kernel
theorem dX2_contains_1 : decode cX2_contains 1 = .ok (.istore_n 2, 1) := by decide +kernel
theorem dX2_contains_2 : decode cX2_contains 2 = .ok (.iload_n 2, 1) := by decide +kernel
theorem dX2_contains_3 : decode cX2_contains 3 = .ok (.aload_n 0, 1) := by decide +kernel
theorem dX2_contains_4 : decode cX2_contains 4 = .ok (.getfield 24, 3) := by decide +kernel
theorem dX2_contains_7 : decode cX2_contains 7 = .ok (.if_icmp .ge 19, 3) := by decide +kernel
theorem dX2_contains_10 : decode cX2_contains 10 = .ok (.aload_n 0, 1) := by decide +kernel
theorem dX2_contains_11 : decode cX2_contains 11 = .ok (.getfield 27, 3) := by decide +kernel
theorem dX2_contains_14 : decode cX2_contains 14 = .ok (.iload_n 2, 1) := by decide +kernel
theorem dX2_contains_15 : decode cX2_contains 15 = .ok (.aload_n 1, 1) := by decide +kernel
theorem dX2_contains_16 : decode cX2_contains 16 = .ok (.iload_n 2, 1) := by decide +kernel
theorem dX2_contains_17 : decode cX2_contains 17 = .ok (.iaload, 1) := by decide +kernel
theorem dX2_contains_18 : decode cX2_contains 18 = .ok (.i2l, 1) := by decide +kernel
theorem dX2_contains_19 : decode cX2_contains 19 = .ok (.lastore, 1) := by decide +kernel
theorem dX2_contains_20 : decode cX2_contains 20 = .ok (.iinc 2 1, 3) := by decide +kernel
theorem dX2_contains_23 : decode cX2_contains 23 = .ok (.goto (-21), 3) := by decide +kernel
theorem dX2_contains_26 : decode cX2_contains 26 = .ok (.iconst 0, 1) := by decide +kernel
theorem dX2_contains_27 : decode cX2_contains 27 = .ok (.istore_n 2, 1) := by decide +kernel
theorem dX2_contains_28 : decode cX2_contains 28 = .ok (.iload_n 2, 1) := by decide +kernel
theorem dX2_contains_29 : decode cX2_contains 29 = .ok (.aload_n 0, 1) := by decide +kernel
theorem dX2_contains_30 : decode cX2_contains 30 = .ok (.getfield 24, 3) := by decide +kernel
theorem dX2_contains_33 : decode cX2_contains 33 = .ok (.if_icmp .ge 99, 3) := by decide +kernel
theorem dX2_contains_36 : decode cX2_contains 36 = .ok (.aload_n 0, 1) := by decide +kernel
theorem dX2_contains_37 : decode cX2_contains 37 = .ok (.getfield 11, 3) := by decide +kernel
theorem dX2_contains_40 : decode cX2_contains 40 = .ok (.iload_n 2, 1) := by decide +kernel
theorem dX2_contains_41 : decode cX2_contains 41 = .ok (.aaload, 1) := by decide +kernel
theorem dX2_contains_42 : decode cX2_contains 42 = .ok (.iload_n 2, 1) := by decide +kernel
theorem dX2_contains_43 : decode cX2_contains 43 = .ok (.laload, 1) := by decide +kernel
theorem dX2_contains_44 : decode cX2_contains 44 = .ok (.lconst 0, 1) := by decide +kernel
theorem dX2_contains_45 : decode cX2_contains 45 = .ok (.lcmp, 1) := by decide +kernel
theorem dX2_contains_46 : decode cX2_contains 46 = .ok (.ifCond .le 23, 3) := by decide +kernel
theorem dX2_contains_49 : decode cX2_contains 49 = .ok (.aload_n 0, 1) := by decide +kernel
theorem dX2_contains_50 : decode cX2_contains 50 = .ok (.getfield 27, 3) := by decide +kernel
theorem dX2_contains_53 : decode cX2_contains 53 = .ok (.iload_n 2, 1) := by decide +kernel
theorem dX2_contains_54 : decode cX2_contains 54 = .ok (.laload, 1) := by decide +kernel
theorem dX2_contains_55 : decode cX2_contains 55 = .ok (.aload_n 0, 1) := by decide +kernel
theorem dX2_contains_56 : decode cX2_contains 56 = .ok (.getfield 11, 3) := by decide +kernel
theorem dX2_contains_59 : decode cX2_contains 59 = .ok (.iload_n 2, 1) := by decide +kernel
theorem dX2_contains_60 : decode cX2_contains 60 = .ok (.aaload, 1) := by decide +kernel
theorem dX2_contains_61 : decode cX2_contains 61 = .ok (.iload_n 2, 1) := by decide +kernel
theorem dX2_contains_62 : decode cX2_contains 62 = .ok (.laload, 1) := by decide +kernel
theorem dX2_contains_63 : decode cX2_contains 63 = .ok (.lrem, 1) := by decide +kernel
theorem dX2_contains_64 : decode cX2_contains 64 = .ok (.lconst 0, 1) := by decide +kernel
theorem dX2_contains_65 : decode cX2_contains 65 = .ok (.lcmp, 1) := by decide +kernel
theorem dX2_contains_66 : decode cX2_contains 66 = .ok (.ifCond .eq 5, 3) := by decide +kernel
theorem dX2_contains_69 : decode cX2_contains 69 = .ok (.iconst 0, 1) := by decide +kernel
theorem dX2_contains_70 : decode cX2_contains 70 = .ok (.ireturn, 1) := by decide +kernel
theorem dX2_contains_71 : decode cX2_contains 71 = .ok (.aload_n 0, 1) := by decide +kernel
theorem dX2_contains_72 : decode cX2_contains 72 = .ok (.getfield 27, 3) := by decide +kernel
theorem dX2_contains_75 : decode cX2_contains 75 = .ok (.iload_n 2, 1) := by decide +kernel
theorem dX2_contains_76 : decode cX2_contains 76 = .ok (.laload, 1) := by decide +kernel
theorem dX2_contains_77 : decode cX2_contains 77 = .ok (.aload_n 0, 1) := by decide +kernel
theorem dX2_contains_78 : decode cX2_contains 78 = .ok (.getfield 11, 3) := by decide +kernel
theorem dX2_contains_81 : decode cX2_contains 81 = .ok (.iload_n 2, 1) := by decide +kernel
theorem dX2_contains_82 : decode cX2_contains 82 = .ok (.aaload, 1) := by decide +kernel
theorem dX2_contains_83 : decode cX2_contains 83 = .ok (.iload_n 2, 1) := by decide +kernel
theorem dX2_contains_84 : decode cX2_contains 84 = .ok (.laload, 1) := by decide +kernel
theorem dX2_contains_85 : decode cX2_contains 85 = .ok (.ldiv, 1) := by decide +kernel
theorem dX2_contains_86 : decode cX2_contains 86 = .ok (.lstore_n 3, 1) := by decide +kernel
theorem dX2_contains_87 : decode cX2_contains 87 = .ok (.iload_n 2, 1) := by decide +kernel
theorem dX2_contains_88 : decode cX2_contains 88 = .ok (.istore 5, 2) := by decide +kernel
theorem dX2_contains_90 : decode cX2_contains 90 = .ok (.iload 5, 2) := by decide +kernel
theorem dX2_contains_92 : decode cX2_contains 92 = .ok (.aload_n 0, 1) := by decide +kernel
theorem dX2_contains_93 : decode cX2_contains 93 = .ok (.getfield 24, 3) := by decide +kernel
theorem dX2_contains_96 : decode cX2_contains 96 = .ok (.if_icmp .ge 30, 3) := by decide +kernel
theorem dX2_contains_99 : decode cX2_contains 99 = .ok (.aload_n 0, 1) := by decide +kernel
theorem dX2_contains_100 : decode cX2_contains 100 = .ok (.getfield 27, 3) := by decide +kernel
theorem dX2_contains_103 : decode cX2_contains 103 = .ok (.iload 5, 2) := by decide +kernel
theorem dX2_contains_105 : decode cX2_contains 105 = .ok (.dup2, 1) := by decide +kernel
theorem dX2_contains_106 : decode cX2_contains 106 = .ok (.laload, 1) := by decide +kernel
theorem dX2_contains_107 : decode cX2_contains 107 = .ok (.lload_n 3, 1) := by decide +kernel
theorem dX2_contains_108 : decode cX2_contains 108 = .ok (.aload_n 0, 1) := by decide +kernel
theorem dX2_contains_109 : decode cX2_contains 109 = .ok (.getfield 11, 3) := by decide +kernel
theorem dX2_contains_112 : decode cX2_contains 112 = .ok (.iload_n 2, 1) := by decide +kernel
theorem dX2_contains_113 : decode cX2_contains 113 = .ok (.aaload, 1) := by decide +kernel
theorem dX2_contains_114 : decode cX2_contains 114 = .ok (.iload 5, 2) := by decide +kernel
theorem dX2_contains_116 : decode cX2_contains 116 = .ok (.laload, 1) := by decide +kernel
theorem dX2_contains_117 : decode cX2_contains 117 = .ok (.lmul, 1) := by decide +kernel
theorem dX2_contains_118 : decode cX2_contains 118 = .ok (.lsub, 1) := by decide +kernel
theorem dX2_contains_119 : decode cX2_contains 119 = .ok (.lastore, 1) := by decide +kernel
theorem dX2_contains_120 : decode cX2_contains 120 = .ok (.iinc 5 1, 3) := by decide +kernel
theorem dX2_contains_123 : decode cX2_contains 123 = .ok (.goto (-33), 3) := by decide +kernel
theorem dX2_contains_126 : decode cX2_contains 126 = .ok (.iinc 2 1, 3) := by decide +kernel
theorem dX2_contains_129 : decode cX2_contains 129 = .ok (.goto (-101), 3) := by decide +kernel
theorem dX2_contains_132 : decode cX2_contains 132 = .ok (.iconst 1, 1) := by decide +kernel
theorem dX2_contains_133 : decode cX2_contains 133 = .ok (.ireturn, 1) := by decide +kernel
theorem dX2_findShort_0 : decode cX2_findShort 0 = .ok (.aload_n 0, 1) := by decide +kernel
theorem dX2_findShort_1 : decode cX2_findShort 1 = .ok (.ldc 63, 2) := by decide +kernel
theorem dX2_findShort_3 : decode cX2_findShort 3 = .ok (.putfield 20, 3) := by decide +kernel
theorem dX2_findShort_6 : decode cX2_findShort 6 = .ok (.iconst 0, 1) := by decide +kernel
theorem dX2_findShort_7 : decode cX2_findShort 7 = .ok (.istore_n 2, 1) := by decide +kernel
theorem dX2_findShort_8 : decode cX2_findShort 8 = .ok (.iload_n 2, 1) := by decide +kernel
theorem dX2_findShort_9 : decode cX2_findShort 9 = .ok (.aload_n 0, 1) := by decide +kernel
theorem dX2_findShort_10 : decode cX2_findShort 10 = .ok (.getfield 24, 3) := by decide +kernel
theorem dX2_findShort_13 : decode cX2_findShort 13 = .ok (.if_icmp .ge 63, 3) := by decide +kernel
theorem dX2_findShort_16 : decode cX2_findShort 16 = .ok (.iconst 0, 1) := by decide +kernel
theorem dX2_findShort_17 : decode cX2_findShort 17 = .ok (.istore_n 3, 1) := by decide +kernel
theorem dX2_findShort_18 : decode cX2_findShort 18 = .ok (.iconst 0, 1) := by decide +kernel
theorem dX2_findShort_19 : decode cX2_findShort 19 = .ok (.istore 4, 2) := by decide +kernel
theorem dX2_findShort_21 : decode cX2_findShort 21 = .ok (.iload 4, 2) := by decide +kernel
theorem dX2_findShort_23 : decode cX2_findShort 23 = .ok (.aload_n 0, 1) := by decide +kernel
theorem dX2_findShort_24 : decode cX2_findShort 24 = .ok (.getfield 24, 3) := by decide +kernel
theorem dX2_findShort_27 : decode cX2_findShort 27 = .ok (.if_icmp .ge 31, 3) := by decide +kernel
theorem dX2_findShort_30 : decode cX2_findShort 30 = .ok (.iload_n 3, 1) := by decide +kernel
theorem dX2_findShort_31 : decode cX2_findShort 31 = .ok (.aload_n 1, 1) := by decide +kernel
theorem dX2_findShort_32 : decode cX2_findShort 32 = .ok (.getfield 40, 3) := by decide +kernel
theorem dX2_findShort_35 : decode cX2_findShort 35 = .ok (.iload_n 2, 1) := by decide +kernel
theorem dX2_findShort_36 : decode cX2_findShort 36 = .ok (.aaload, 1) := by decide +kernel
theorem dX2_findShort_37 : decode cX2_findShort 37 = .ok (.iload 4, 2) := by decide +kernel
theorem dX2_findShort_39 : decode cX2_findShort 39 = .ok (.iaload, 1) := by decide +kernel
theorem dX2_findShort_40 : decode cX2_findShort 40 = .ok (.aload_n 1, 1) := by decide +kernel
theorem dX2_findShort_41 : decode cX2_findShort 41 = .ok (.getfield 40, 3) := by decide +kernel
theorem dX2_findShort_44 : decode cX2_findShort 44 = .ok (.iload_n 2, 1) := by decide +kernel
theorem dX2_findShort_45 : decode cX2_findShort 45 = .ok (.aaload, 1) := by decide +kernel
theorem dX2_findShort_46 : decode cX2_findShort 46 = .ok (.iload 4, 2) := by decide +kernel
theorem dX2_findShort_48 : decode cX2_findShort 48 = .ok (.iaload, 1) := by decide +kernel
theorem dX2_findShort_49 : decode cX2_findShort 49 = .ok (.imul, 1) := by decide +kernel
theorem dX2_findShort_50 : decode cX2_findShort 50 = .ok (.iadd, 1) := by decide +kernel
theorem dX2_findShort_51 : decode cX2_findShort 51 = .ok (.istore_n 3, 1) := by decide +kernel
theorem dX2_findShort_52 : decode cX2_findShort 52 = .ok (.iinc 4 1, 3) := by decide +kernel
theorem dX2_findShort_55 : decode cX2_findShort 55 = .ok (.goto (-34), 3) := by decide +kernel
theorem dX2_findShort_58 : decode cX2_findShort 58 = .ok (.aload_n 0, 1) := by decide +kernel
theorem dX2_findShort_59 : decode cX2_findShort 59 = .ok (.aload_n 0, 1) := by decide +kernel
theorem dX2_findShort_60 : decode cX2_findShort 60 = .ok (.getfield 20, 3) := by decide +kernel
theorem dX2_findShort_63 : decode cX2_findShort 63 = .ok (.iload_n 3, 1) := by decide +kernel
theorem dX2_findShort_64 : decode cX2_findShort 64 = .ok (.invokestatic 64, 3) := by decide +kernel
theorem dX2_findShort_67 : decode cX2_findShort 67 = .ok (.putfield 20, 3) := by decide +kernel
theorem dX2_findShort_70 : decode cX2_findShort 70 = .ok (.iinc 2 1, 3) := by decide +kernel
theorem dX2_findShort_73 : decode cX2_findShort 73 = .ok (.goto (-65), 3) := by decide +kernel
theorem dX2_findShort_76 : decode cX2_findShort 76 = .ok (.aload_n 0, 1) := by decide +kernel
theorem dX2_findShort_77 : decode cX2_findShort 77 = .ok (.dup, 1) := by decide +kernel
theorem dX2_findShort_78 : decode cX2_findShort 78 = .ok (.getfield 20, 3) := by decide +kernel
theorem dX2_findShort_81 : decode cX2_findShort 81 = .ok (.iconst 1, 1) := by decide +kernel
theorem dX2_findShort_82 : decode cX2_findShort 82 = .ok (.iadd, 1) := by decide +kernel
theorem dX2_findShort_83 : decode cX2_findShort 83 = .ok (.putfield 20, 3) := by decide +kernel
theorem dX2_findShort_86 : decode cX2_findShort 86 = .ok (.aload_n 0, 1) := by decide +kernel
theorem dX2_findShort_87 : decode cX2_findShort 87 = .ok (.iconst 0, 1) := by decide +kernel
theorem dX2_findShort_88 : decode cX2_findShort 88 = .ok (.iconst 0, 1) := by decide +kernel
theorem dX2_findShort_89 : decode cX2_findShort 89 = .ok (.invokevirtual 67, 3) := by decide +kernel
theorem dX2_findShort_92 : decode cX2_findShort 92 = .ok (.return_, 1) := by decide +kernel
theorem dX2_tryLetter_0 : decode cX2_tryLetter 0 = .ok (.iload_n 1, 1) := by decide +kernel
theorem dX2_tryLetter_1 : decode cX2_tryLetter 1 = .ok (.aload_n 0, 1) := by decide +kernel
theorem dX2_tryLetter_2 : decode cX2_tryLetter 2 = .ok (.getfield 24, 3) := by decide +kernel
theorem dX2_tryLetter_5 : decode cX2_tryLetter 5 = .ok (.if_icmp .lt 35, 3) := by decide +kernel
theorem dX2_tryLetter_8 : decode cX2_tryLetter 8 = .ok (.iload_n 2, 1) := by decide +kernel
theorem dX2_tryLetter_9 : decode cX2_tryLetter 9 = .ok (.ifCond .le 30, 3) := by decide +kernel
theorem dX2_tryLetter_12 : decode cX2_tryLetter 12 = .ok (.iload_n 2, 1) := by decide +kernel
theorem dX2_tryLetter_13 : decode cX2_tryLetter 13 = .ok (.aload_n 0, 1) := by decide +kernel
theorem dX2_tryLetter_14 : decode cX2_tryLetter 14 = .ok (.getfield 20, 3) := by decide +kernel
theorem dX2_tryLetter_17 : decode cX2_tryLetter 17 = .ok (.if_icmp .ge 22, 3) := by decide +kernel
theorem dX2_tryLetter_20 : decode cX2_tryLetter 20 = .ok (.aload_n 0, 1) := by decide +kernel
theorem dX2_tryLetter_21 : decode cX2_tryLetter 21 = .ok (.iload_n 2, 1) := by decide +kernel
theorem dX2_tryLetter_22 : decode cX2_tryLetter 22 = .ok (.putfield 20, 3) := by decide +kernel
theorem dX2_tryLetter_25 : decode cX2_tryLetter 25 = .ok (.aload_n 0, 1) := by decide +kernel
theorem dX2_tryLetter_26 : decode cX2_tryLetter 26 = .ok (.getfield 34, 3) := by decide +kernel
theorem dX2_tryLetter_29 : decode cX2_tryLetter 29 = .ok (.iconst 0, 1) := by decide +kernel
theorem dX2_tryLetter_30 : decode cX2_tryLetter 30 = .ok (.aload_n 0, 1) := by decide +kernel
theorem dX2_tryLetter_31 : decode cX2_tryLetter 31 = .ok (.getfield 16, 3) := by decide +kernel
theorem dX2_tryLetter_34 : decode cX2_tryLetter 34 = .ok (.iconst 0, 1) := by decide +kernel
theorem dX2_tryLetter_35 : decode cX2_tryLetter 35 = .ok (.iconst 4, 1) := by decide +kernel
theorem dX2_tryLetter_36 : decode cX2_tryLetter 36 = .ok (.invokestatic 71, 3) := by decide +kernel
theorem dX2_tryLetter_39 : decode cX2_tryLetter 39 = .ok (.return_, 1) := by decide +kernel
theorem dX2_tryLetter_40 : decode cX2_tryLetter 40 = .ok (.aload_n 0, 1) := by decide +kernel
theorem dX2_tryLetter_41 : decode cX2_tryLetter 41 = .ok (.getfield 11, 3) := by decide +kernel
theorem dX2_tryLetter_44 : decode cX2_tryLetter 44 = .ok (.iload_n 1, 1) := by decide +kernel
theorem dX2_tryLetter_45 : decode cX2_tryLetter 45 = .ok (.aaload, 1) := by decide +kernel
theorem dX2_tryLetter_46 : decode cX2_tryLetter 46 = .ok (.iload_n 1, 1) := by decide +kernel
theorem dX2_tryLetter_47 : decode cX2_tryLetter 47 = .ok (.laload, 1) := by decide +kernel
theorem dX2_tryLetter_48 : decode cX2_tryLetter 48 = .ok (.lstore_n 3, 1) := by decide +kernel
theorem dX2_tryLetter_49 : decode cX2_tryLetter 49 = .ok (.lload_n 3, 1) := by decide +kernel
theorem dX2_tryLetter_50 : decode cX2_tryLetter 50 = .ok (.lconst 0, 1) := by decide +kernel
theorem dX2_tryLetter_51 : decode cX2_tryLetter 51 = .ok (.lcmp, 1) := by decide +kernel
theorem dX2_tryLetter_52 : decode cX2_tryLetter 52 = .ok (.ifCond .gt 4, 3) := by decide +kernel
theorem dX2_tryLetter_55 : decode cX2_tryLetter 55 = .ok (.return_, 1) := by decide +kernel
theorem dX2_tryLetter_56 : decode cX2_tryLetter 56 = .ok (.lconst 0, 1) := by decide +kernel
theorem dX2_tryLetter_57 : decode cX2_tryLetter 57 = .ok (.lstore 5, 2) := by decide +kernel
theorem dX2_tryLetter_59 : decode cX2_tryLetter 59 = .ok (.iconst 0, 1) := by decide +kernel
theorem dX2_tryLetter_60 : decode cX2_tryLetter 60 = .ok (.istore 7, 2) := by decide +kernel
theorem dX2_tryLetter_62 : decode cX2_tryLetter 62 = .ok (.iload 7, 2) := by decide +kernel
theorem dX2_tryLetter_64 : decode cX2_tryLetter 64 = .ok (.iload_n 1, 1) := by decide +kernel
theorem dX2_tryLetter_65 : decode cX2_tryLetter 65 = .ok (.if_icmp .ge 31, 3) := by decide +kernel
theorem dX2_tryLetter_68 : decode cX2_tryLetter 68 = .ok (.lload 5, 2) := by decide +kernel
theorem dX2_tryLetter_70 : decode cX2_tryLetter 70 = .ok (.aload_n 0, 1) := by decide +kernel
theorem dX2_tryLetter_71 : decode cX2_tryLetter 71 = .ok (.getfield 31, 3) := by decide +kernel
theorem dX2_tryLetter_74 : decode cX2_tryLetter 74 = .ok (.iload 7, 2) := by decide +kernel
theorem dX2_tryLetter_76 : decode cX2_tryLetter 76 = .ok (.laload, 1) := by decide +kernel
theorem dX2_tryLetter_77 : decode cX2_tryLetter 77 = .ok (.aload_n 0, 1) := by decide +kernel
theorem dX2_tryLetter_78 : decode cX2_tryLetter 78 = .ok (.getfield 11, 3) := by decide +kernel
theorem dX2_tryLetter_81 : decode cX2_tryLetter 81 = .ok (.iload 7, 2) := by decide +kernel
theorem dX2_tryLetter_83 : decode cX2_tryLetter 83 = .ok (.aaload, 1) := by decide +kernel
theorem dX2_tryLetter_84 : decode cX2_tryLetter 84 = .ok (.iload_n 1, 1) := by decide +kernel
theorem dX2_tryLetter_85 : decode cX2_tryLetter 85 = .ok (.laload, 1) := by decide +kernel
theorem dX2_tryLetter_86 : decode cX2_tryLetter 86 = .ok (.lmul, 1) := by decide +kernel
theorem dX2_tryLetter_87 : decode cX2_tryLetter 87 = .ok (.ladd, 1) := by decide +kernel
theorem dX2_tryLetter_88 : decode cX2_tryLetter 88 = .ok (.lstore 5, 2) := by decide +kernel
theorem dX2_tryLetter_90 : decode cX2_tryLetter 90 = .ok (.iinc 7 1, 3) := by decide +kernel
theorem dX2_tryLetter_93 : decode cX2_tryLetter 93 = .ok (.goto (-31), 3) := by decide +kernel
theorem dX2_tryLetter_96 : decode cX2_tryLetter 96 = .ok (.bipush 8, 2) := by decide +kernel
theorem dX2_tryLetter_98 : decode cX2_tryLetter 98 = .ok (.istore 7, 2) := by decide +kernel
theorem dX2_tryLetter_100 : decode cX2_tryLetter 100 = .ok (.iload 7, 2) := by decide +kernel
theorem dX2_tryLetter_102 : decode cX2_tryLetter 102 = .ok (.bipush (-8), 2) := by decide +kernel
theorem dX2_tryLetter_104 : decode cX2_tryLetter 104 = .ok (.if_icmp .lt 72, 3) := by decide +kernel
theorem dX2_tryLetter_107 : decode cX2_tryLetter 107 = .ok (.iload_n 2, 1) := by decide +kernel
theorem dX2_tryLetter_108 : decode cX2_tryLetter 108 = .ok (.iload 7, 2) := by decide +kernel
theorem dX2_tryLetter_110 : decode cX2_tryLetter 110 = .ok (.iload 7, 2) := by decide +kernel
theorem dX2_tryLetter_112 : decode cX2_tryLetter 112 = .ok (.imul, 1) := by decide +kernel
theorem dX2_tryLetter_113 : decode cX2_tryLetter 113 = .ok (.iadd, 1) := by decide +kernel
theorem dX2_tryLetter_114 : decode cX2_tryLetter 114 = .ok (.aload_n 0, 1) := by decide +kernel
theorem dX2_tryLetter_115 : decode cX2_tryLetter 115 = .ok (.getfield 20, 3) := by decide +kernel
theorem dX2_tryLetter_118 : decode cX2_tryLetter 118 = .ok (.if_icmp .ge 52, 3) := by decide +kernel
theorem dX2_tryLetter_121 : decode cX2_tryLetter 121 = .ok (.iload 7, 2) := by decide +kernel
theorem dX2_tryLetter_123 : decode cX2_tryLetter 123 = .ok (.i2l, 1) := by decide +kernel
theorem dX2_tryLetter_124 : decode cX2_tryLetter 124 = .ok (.lload 5, 2) := by decide +kernel
theorem dX2_tryLetter_126 : decode cX2_tryLetter 126 = .ok (.lsub, 1) := by decide +kernel
theorem dX2_tryLetter_127 : decode cX2_tryLetter 127 = .ok (.lload_n 3, 1) := by decide +kernel
theorem dX2_tryLetter_128 : decode cX2_tryLetter 128 = .ok (.lrem, 1) := by decide +kernel
theorem dX2_tryLetter_129 : decode cX2_tryLetter 129 = .ok (.lconst 0, 1) := by decide +kernel
theorem dX2_tryLetter_130 : decode cX2_tryLetter 130 = .ok (.lcmp, 1) := by decide +kernel
theorem dX2_tryLetter_131 : decode cX2_tryLetter 131 = .ok (.ifCond .ne 39, 3) := by decide +kernel
theorem dX2_tryLetter_134 : decode cX2_tryLetter 134 = .ok (.aload_n 0, 1) := by decide +kernel
theorem dX2_tryLetter_135 : decode cX2_tryLetter 135 = .ok (.getfield 31, 3) := by decide +kernel
theorem dX2_tryLetter_138 : decode cX2_tryLetter 138 = .ok (.iload_n 1, 1) := by decide +kernel
theorem dX2_tryLetter_139 : decode cX2_tryLetter 139 = .ok (.iload 7, 2) := by decide +kernel
theorem dX2_tryLetter_141 : decode cX2_tryLetter 141 = .ok (.i2l, 1) := by decide +kernel
theorem dX2_tryLetter_142 : decode cX2_tryLetter 142 = .ok (.lload 5, 2) := by decide +kernel
theorem dX2_tryLetter_144 : decode cX2_tryLetter 144 = .ok (.lsub, 1) := by decide +kernel
theorem dX2_tryLetter_145 : decode cX2_tryLetter 145 = .ok (.lload_n 3, 1) := by decide +kernel
theorem dX2_tryLetter_146 : decode cX2_tryLetter 146 = .ok (.ldiv, 1) := by decide +kernel
theorem dX2_tryLetter_147 : decode cX2_tryLetter 147 = .ok (.lastore, 1) := by decide +kernel
theorem dX2_tryLetter_148 : decode cX2_tryLetter 148 = .ok (.aload_n 0, 1) := by decide +kernel
theorem dX2_tryLetter_149 : decode cX2_tryLetter 149 = .ok (.getfield 34, 3) := by decide +kernel
theorem dX2_tryLetter_152 : decode cX2_tryLetter 152 = .ok (.iload_n 1, 1) := by decide +kernel
theorem dX2_tryLetter_153 : decode cX2_tryLetter 153 = .ok (.iload 7, 2) := by decide +kernel
theorem dX2_tryLetter_155 : decode cX2_tryLetter 155 = .ok (.iastore, 1) := by decide +kernel
theorem dX2_tryLetter_156 : decode cX2_tryLetter 156 = .ok (.aload_n 0, 1) := by decide +kernel
theorem dX2_tryLetter_157 : decode cX2_tryLetter 157 = .ok (.iload_n 1, 1) := by decide +kernel
theorem dX2_tryLetter_158 : decode cX2_tryLetter 158 = .ok (.iconst 1, 1) := by decide +kernel
theorem dX2_tryLetter_159 : decode cX2_tryLetter 159 = .ok (.iadd, 1) := by decide +kernel
theorem dX2_tryLetter_160 : decode cX2_tryLetter 160 = .ok (.iload_n 2, 1) := by decide +kernel
theorem dX2_tryLetter_161 : decode cX2_tryLetter 161 = .ok (.iload 7, 2) := by decide +kernel
theorem dX2_tryLetter_163 : decode cX2_tryLetter 163 = .ok (.iload 7, 2) := by decide +kernel
theorem dX2_tryLetter_165 : decode cX2_tryLetter 165 = .ok (.imul, 1) := by decide +kernel
theorem dX2_tryLetter_166 : decode cX2_tryLetter 166 = .ok (.iadd, 1) := by decide +kernel
theorem dX2_tryLetter_167 : decode cX2_tryLetter 167 = .ok (.invokevirtual 67, 3) := by decide +kernel
theorem dX2_tryLetter_170 : decode cX2_tryLetter 170 = .ok (.iinc 7 (-1), 3) := by decide +kernel
theorem dX2_tryLetter_173 : decode cX2_tryLetter 173 = .ok (.goto (-73), 3) := by decide +kernel
theorem dX2_tryLetter_176 : decode cX2_tryLetter 176 = .ok (.return_, 1) := by decide +kernel
theorem dX3_add_0 : decode cX3_add 0 = .ok (.aload_n 0, 1) := by decide +kernel
theorem dX3_add_1 : decode cX3_add 1 = .ok (.getfield 9, 3) := by decide +kernel
theorem dX3_add_4 : decode cX3_add 4 = .ok (.bipush 120, 2) := by decide +kernel
theorem dX3_add_6 : decode cX3_add 6 = .ok (.if_icmp .ge 23, 3) := by decide +kernel
theorem dX3_add_9 : decode cX3_add 9 = .ok (.aload_n 0, 1) := by decide +kernel
theorem dX3_add_10 : decode cX3_add 10 = .ok (.getfield 15, 3) := by decide +kernel
theorem dX3_add_13 : decode cX3_add 13 = .ok (.aload_n 0, 1) := by decide +kernel
theorem dX3_add_14 : decode cX3_add 14 = .ok (.getfield 9, 3) := by decide +kernel
theorem dX3_add_17 : decode cX3_add 17 = .ok (.iload_n 1, 1) := by decide +kernel
theorem dX3_add_18 : decode cX3_add 18 = .ok (.bastore, 1) := by decide +kernel
theorem dX3_add_19 : decode cX3_add 19 = .ok (.aload_n 0, 1) := by decide +kernel
theorem dX3_add_20 : decode cX3_add 20 = .ok (.dup, 1) := by decide +kernel
theorem dX3_add_21 : decode cX3_add 21 = .ok (.getfield 9, 3) := by decide +kernel
theorem dX3_add_24 : decode cX3_add 24 = .ok (.iconst 1, 1) := by decide +kernel
theorem dX3_add_25 : decode cX3_add 25 = .ok (.iadd, 1) := by decide +kernel
theorem dX3_add_26 : decode cX3_add 26 = .ok (.putfield 9, 3) := by decide +kernel
theorem dX3_add_29 : decode cX3_add 29 = .ok (.return_, 1) := by decide +kernel
theorem dX3_read_0 : decode cX3_read 0 = .ok (.aload_n 0, 1) := by decide +kernel
theorem dX3_read_1 : decode cX3_read 1 = .ok (.iconst 0, 1) := by decide +kernel
theorem dX3_read_2 : decode cX3_read 2 = .ok (.putfield 25, 3) := by decide +kernel
theorem dX3_read_5 : decode cX3_read 5 = .ok (.aload_n 0, 1) := by decide +kernel
theorem dX3_read_6 : decode cX3_read 6 = .ok (.invokevirtual 31, 3) := by decide +kernel
theorem dX3_read_9 : decode cX3_read 9 = .ok (.iconst 1, 1) := by decide +kernel
theorem dX3_read_10 : decode cX3_read 10 = .ok (.istore_n 2, 1) := by decide +kernel
theorem dX3_read_11 : decode cX3_read 11 = .ok (.iload_n 2, 1) := by decide +kernel
theorem dX3_read_12 : decode cX3_read 12 = .ok (.bipush 120, 2) := by decide +kernel
theorem dX3_read_14 : decode cX3_read 14 = .ok (.if_icmp .gt 52, 3) := by decide +kernel
theorem dX3_read_17 : decode cX3_read 17 = .ok (.aload_n 0, 1) := by decide +kernel
theorem dX3_read_18 : decode cX3_read 18 = .ok (.aload_n 1, 1) := by decide +kernel
theorem dX3_read_19 : decode cX3_read 19 = .ok (.invokevirtual 34, 3) := by decide +kernel
theorem dX3_read_22 : decode cX3_read 22 = .ok (.ifCond .ne 10, 3) := by decide +kernel
theorem dX3_read_25 : decode cX3_read 25 = .ok (.iconst (-1), 1) := by decide +kernel
theorem dX3_read_26 : decode cX3_read 26 = .ok (.aload_n 0, 1) := by decide +kernel
theorem dX3_read_27 : decode cX3_read 27 = .ok (.getfield 22, 3) := by decide +kernel
theorem dX3_read_30 : decode cX3_read 30 = .ok (.isub, 1) := by decide +kernel
theorem dX3_read_31 : decode cX3_read 31 = .ok (.ireturn, 1) := by decide +kernel
theorem dX3_read_32 : decode cX3_read 32 = .ok (.aload_n 0, 1) := by decide +kernel
theorem dX3_read_33 : decode cX3_read 33 = .ok (.getfield 19, 3) := by decide +kernel
theorem dX3_read_36 : decode cX3_read 36 = .ok (.ifCond .ne 5, 3) := by decide +kernel
theorem dX3_read_39 : decode cX3_read 39 = .ok (.iload_n 2, 1) := by decide +kernel
theorem dX3_read_40 : decode cX3_read 40 = .ok (.ireturn, 1) := by decide +kernel
theorem dX3_read_41 : decode cX3_read 41 = .ok (.aload_n 0, 1) := by decide +kernel
theorem dX3_read_42 : decode cX3_read 42 = .ok (.getfield 19, 3) := by decide +kernel
theorem dX3_read_45 : decode cX3_read 45 = .ok (.iconst 3, 1) := by decide +kernel
theorem dX3_read_46 : decode cX3_read 46 = .ok (.if_icmp .eq 10, 3) := by decide +kernel
theorem dX3_read_49 : decode cX3_read 49 = .ok (.iconst (-1), 1) := by decide +kernel
theorem dX3_read_50 : decode cX3_read 50 = .ok (.aload_n 0, 1) := by decide +kernel
theorem dX3_read_51 : decode cX3_read 51 = .ok (.getfield 22, 3) := by decide +kernel
theorem dX3_read_54 : decode cX3_read 54 = .ok (.isub, 1) := by decide +kernel
theorem dX3_read_55 : decode cX3_read 55 = .ok (.ireturn, 1) := by decide +kernel
theorem dX3_read_56 : decode cX3_read 56 = .ok (.aload_n 0, 1) := by decide +kernel
theorem dX3_read_57 : decode cX3_read 57 = .ok (.invokevirtual 31, 3) := by decide +kernel
theorem dX3_read_60 : decode cX3_read 60 = .ok (.iinc 2 1, 3) := by decide +kernel
theorem dX3_read_63 : decode cX3_read 63 = .ok (.goto (-52), 3) := by decide +kernel
theorem dX3_read_66 : decode cX3_read 66 = .ok (.iconst (-1), 1) := by decide +kernel
theorem dX3_read_67 : decode cX3_read 67 = .ok (.aload_n 0, 1) := by decide +kernel
theorem dX3_read_68 : decode cX3_read 68 = .ok (.getfield 22, 3) := by decide +kernel
theorem dX3_read_71 : decode cX3_read 71 = .ok (.isub, 1) := by decide +kernel
theorem dX3_read_72 : decode cX3_read 72 = .ok (.ireturn, 1) := by decide +kernel
theorem dX3_nextToken_0 : decode cX3_nextToken 0 = .ok (.aload_n 0, 1) := by decide +kernel
theorem dX3_nextToken_1 : decode cX3_nextToken 1 = .ok (.aload_n 0, 1) := by decide +kernel
theorem dX3_nextToken_2 : decode cX3_nextToken 2 = .ok (.getfield 25, 3) := by decide +kernel
theorem dX3_nextToken_5 : decode cX3_nextToken 5 = .ok (.putfield 22, 3) := by decide +kernel
theorem dX3_nextToken_8 : decode cX3_nextToken 8 = .ok (.aload_n 0, 1) := by decide +kernel
theorem dX3_nextToken_9 : decode cX3_nextToken 9 = .ok (.getfield 22, 3) := by decide +kernel
theorem dX3_nextToken_12 : decode cX3_nextToken 12 = .ok (.aload_n 0, 1) := by decide +kernel
theorem dX3_nextToken_13 : decode cX3_nextToken 13 = .ok (.getfield 9, 3) := by decide +kernel
theorem dX3_nextToken_16 : decode cX3_nextToken 16 = .ok (.if_icmp .ge 30, 3) := by decide +kernel
theorem dX3_nextToken_19 : decode cX3_nextToken 19 = .ok (.aload_n 0, 1) := by decide +kernel
theorem dX3_nextToken_20 : decode cX3_nextToken 20 = .ok (.getfield 15, 3) := by decide +kernel
theorem dX3_nextToken_23 : decode cX3_nextToken 23 = .ok (.aload_n 0, 1) := by decide +kernel
theorem dX3_nextToken_24 : decode cX3_nextToken 24 = .ok (.getfield 22, 3) := by decide +kernel
theorem dX3_nextToken_27 : decode cX3_nextToken 27 = .ok (.baload, 1) := by decide +kernel
theorem dX3_nextToken_28 : decode cX3_nextToken 28 = .ok (.bipush 32, 2) := by decide +kernel
theorem dX3_nextToken_30 : decode cX3_nextToken 30 = .ok (.if_icmp .ne 16, 3) := by decide +kernel
theorem dX3_nextToken_33 : decode cX3_nextToken 33 = .ok (.aload_n 0, 1) := by decide +kernel
theorem dX3_nextToken_34 : decode cX3_nextToken 34 = .ok (.dup, 1) := by decide +kernel
theorem dX3_nextToken_35 : decode cX3_nextToken 35 = .ok (.getfield 22, 3) := by decide +kernel
theorem dX3_nextToken_38 : decode cX3_nextToken 38 = .ok (.iconst 1, 1) := by decide +kernel
theorem dX3_nextToken_39 : decode cX3_nextToken 39 = .ok (.iadd, 1) := by decide +kernel
theorem dX3_nextToken_40 : decode cX3_nextToken 40 = .ok (.putfield 22, 3) := by decide +kernel
theorem dX3_nextToken_43 : decode cX3_nextToken 43 = .ok (.goto (-35), 3) := by decide +kernel
theorem dX3_nextToken_46 : decode cX3_nextToken 46 = .ok (.aload_n 0, 1) := by decide +kernel
theorem dX3_nextToken_47 : decode cX3_nextToken 47 = .ok (.aload_n 0, 1) := by decide +kernel
theorem dX3_nextToken_48 : decode cX3_nextToken 48 = .ok (.aload_n 0, 1) := by decide +kernel
theorem dX3_nextToken_49 : decode cX3_nextToken 49 = .ok (.getfield 22, 3) := by decide +kernel
theorem dX3_nextToken_52 : decode cX3_nextToken 52 = .ok (.invokevirtual 38, 3) := by decide +kernel
theorem dX3_nextToken_55 : decode cX3_nextToken 55 = .ok (.putfield 19, 3) := by decide +kernel
theorem dX3_nextToken_58 : decode cX3_nextToken 58 = .ok (.aload_n 0, 1) := by decide +kernel
theorem dX3_nextToken_59 : decode cX3_nextToken 59 = .ok (.iconst 0, 1) := by decide +kernel
theorem dX3_nextToken_60 : decode cX3_nextToken 60 = .ok (.putfield 28, 3) := by decide +kernel
theorem dX3_nextToken_63 : decode cX3_nextToken 63 = .ok (.aload_n 0, 1) := by decide +kernel
theorem dX3_nextToken_64 : decode cX3_nextToken 64 = .ok (.aload_n 0, 1) := by decide +kernel
theorem dX3_nextToken_65 : decode cX3_nextToken 65 = .ok (.getfield 22, 3) := by decide +kernel
theorem dX3_nextToken_68 : decode cX3_nextToken 68 = .ok (.putfield 25, 3) := by decide +kernel
theorem dX3_nextToken_71 : decode cX3_nextToken 71 = .ok (.aload_n 0, 1) := by decide +kernel
theorem dX3_nextToken_72 : decode cX3_nextToken 72 = .ok (.getfield 19, 3) := by decide +kernel
theorem dX3_nextToken_75 : decode cX3_nextToken 75 = .ok (.iconst 1, 1) := by decide +kernel
theorem dX3_nextToken_76 : decode cX3_nextToken 76 = .ok (.if_icmp .eq 11, 3) := by decide +kernel
theorem dX3_nextToken_79 : decode cX3_nextToken 79 = .ok (.aload_n 0, 1) := by decide +kernel
theorem dX3_nextToken_80 : decode cX3_nextToken 80 = .ok (.getfield 19, 3) := by decide +kernel
theorem dX3_nextToken_83 : decode cX3_nextToken 83 = .ok (.iconst 2, 1) := by decide +kernel
theorem dX3_nextToken_84 : decode cX3_nextToken 84 = .ok (.if_icmp .ne 10, 3) := by decide +kernel
theorem dX3_nextToken_87 : decode cX3_nextToken 87 = .ok (.aload_n 0, 1) := by decide +kernel
theorem dX3_nextToken_88 : decode cX3_nextToken 88 = .ok (.getfield 9, 3) := by decide +kernel
theorem dX3_nextToken_91 : decode cX3_nextToken 91 = .ok (.goto 16, 3) := by decide +kernel
theorem dX3_nextToken_94 : decode cX3_nextToken 94 = .ok (.aload_n 0, 1) := by decide +kernel
theorem dX3_nextToken_95 : decode cX3_nextToken 95 = .ok (.getfield 22, 3) := by decide +kernel
theorem dX3_nextToken_98 : decode cX3_nextToken 98 = .ok (.iconst 1, 1) := by decide +kernel
theorem dX3_nextToken_99 : decode cX3_nextToken 99 = .ok (.iadd, 1) := by decide +kernel
theorem dX3_nextToken_100 : decode cX3_nextToken 100 = .ok (.aload_n 0, 1) := by decide +kernel
theorem dX3_nextToken_101 : decode cX3_nextToken 101 = .ok (.getfield 9, 3) := by decide +kernel
theorem dX3_nextToken_104 : decode cX3_nextToken 104 = .ok (.invokestatic 42, 3) := by decide +kernel
theorem dX3_nextToken_107 : decode cX3_nextToken 107 = .ok (.istore_n 1, 1) := by decide +kernel
theorem dX3_nextToken_108 : decode cX3_nextToken 108 = .ok (.aload_n 0, 1) := by decide +kernel
theorem dX3_nextToken_109 : decode cX3_nextToken 109 = .ok (.getfield 25, 3) := by decide +kernel
theorem dX3_nextToken_112 : decode cX3_nextToken 112 = .ok (.iload_n 1, 1) := by decide +kernel
theorem dX3_nextToken_113 : decode cX3_nextToken 113 = .ok (.if_icmp .ge 69, 3) := by decide +kernel
theorem dX3_nextToken_116 : decode cX3_nextToken 116 = .ok (.aload_n 0, 1) := by decide +kernel
theorem dX3_nextToken_117 : decode cX3_nextToken 117 = .ok (.aload_n 0, 1) := by decide +kernel
theorem dX3_nextToken_118 : decode cX3_nextToken 118 = .ok (.getfield 25, 3) := by decide +kernel
theorem dX3_nextToken_121 : decode cX3_nextToken 121 = .ok (.invokevirtual 38, 3) := by decide +kernel
theorem dX3_nextToken_124 : decode cX3_nextToken 124 = .ok (.aload_n 0, 1) := by decide +kernel
theorem dX3_nextToken_125 : decode cX3_nextToken 125 = .ok (.getfield 19, 3) := by decide +kernel
theorem dX3_nextToken_128 : decode cX3_nextToken 128 = .ok (.if_icmp .ne 54, 3) := by decide +kernel
theorem dX3_nextToken_131 : decode cX3_nextToken 131 = .ok (.aload_n 0, 1) := by decide +kernel
theorem dX3_nextToken_132 : decode cX3_nextToken 132 = .ok (.getfield 19, 3) := by decide +kernel
theorem dX3_nextToken_135 : decode cX3_nextToken 135 = .ok (.iconst 2, 1) := by decide +kernel
theorem dX3_nextToken_136 : decode cX3_nextToken 136 = .ok (.if_icmp .ne 33, 3) := by decide +kernel
theorem dX3_nextToken_139 : decode cX3_nextToken 139 = .ok (.aload_n 0, 1) := by decide +kernel
theorem dX3_nextToken_140 : decode cX3_nextToken 140 = .ok (.aload_n 0, 1) := by decide +kernel
theorem dX3_nextToken_141 : decode cX3_nextToken 141 = .ok (.getfield 28, 3) := by decide +kernel
theorem dX3_nextToken_144 : decode cX3_nextToken 144 = .ok (.bipush 10, 2) := by decide +kernel
theorem dX3_nextToken_146 : decode cX3_nextToken 146 = .ok (.imul, 1) := by decide +kernel
theorem dX3_nextToken_147 : decode cX3_nextToken 147 = .ok (.aload_n 0, 1) := by decide +kernel
theorem dX3_nextToken_148 : decode cX3_nextToken 148 = .ok (.getfield 15, 3) := by decide +kernel
theorem dX3_nextToken_151 : decode cX3_nextToken 151 = .ok (.aload_n 0, 1) := by decide +kernel
theorem dX3_nextToken_152 : decode cX3_nextToken 152 = .ok (.getfield 25, 3) := by decide +kernel
theorem dX3_nextToken_155 : decode cX3_nextToken 155 = .ok (.baload, 1) := by decide +kernel
theorem dX3_nextToken_156 : decode cX3_nextToken 156 = .ok (.iadd, 1) := by decide +kernel
theorem dX3_nextToken_157 : decode cX3_nextToken 157 = .ok (.bipush 48, 2) := by decide +kernel
theorem dX3_nextToken_159 : decode cX3_nextToken 159 = .ok (.isub, 1) := by decide +kernel
theorem dX3_nextToken_160 : decode cX3_nextToken 160 = .ok (.sipush 1000, 3) := by decide +kernel
theorem dX3_nextToken_163 : decode cX3_nextToken 163 = .ok (.invokestatic 42, 3) := by decide +kernel
theorem dX3_nextToken_166 : decode cX3_nextToken 166 = .ok (.putfield 28, 3) := by decide +kernel
theorem dX3_nextToken_169 : decode cX3_nextToken 169 = .ok (.aload_n 0, 1) := by decide +kernel
theorem dX3_nextToken_170 : decode cX3_nextToken 170 = .ok (.dup, 1) := by decide +kernel
theorem dX3_nextToken_171 : decode cX3_nextToken 171 = .ok (.getfield 25, 3) := by decide +kernel
theorem dX3_nextToken_174 : decode cX3_nextToken 174 = .ok (.iconst 1, 1) := by decide +kernel
theorem dX3_nextToken_175 : decode cX3_nextToken 175 = .ok (.iadd, 1) := by decide +kernel
