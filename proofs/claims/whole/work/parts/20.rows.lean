theorem dX0_resetVectors_0 : decode cX0_resetVectors 0 = .ok (.iconst 0, 1) := by decide +kernel
theorem dX0_resetVectors_1 : decode cX0_resetVectors 1 = .ok (.istore_n 1, 1) := by decide +kernel
theorem dX0_resetVectors_2 : decode cX0_resetVectors 2 = .ok (.iload_n 1, 1) := by decide +kernel
theorem dX0_resetVectors_3 : decode cX0_resetVectors 3 = .ok (.iconst 4, 1) := by decide +kernel
theorem dX0_resetVectors_4 : decode cX0_resetVectors 4 = .ok (.if_icmp .ge 40, 3) := by decide +kernel
theorem dX0_resetVectors_7 : decode cX0_resetVectors 7 = .ok (.iconst 0, 1) := by decide +kernel
theorem dX0_resetVectors_8 : decode cX0_resetVectors 8 = .ok (.istore_n 2, 1) := by decide +kernel
theorem dX0_resetVectors_9 : decode cX0_resetVectors 9 = .ok (.iload_n 2, 1) := by decide +kernel
theorem dX0_resetVectors_10 : decode cX0_resetVectors 10 = .ok (.iconst 4, 1) := by decide +kernel
theorem dX0_resetVectors_11 : decode cX0_resetVectors 11 = .ok (.if_icmp .ge 27, 3) := by decide +kernel
theorem dX0_resetVectors_14 : decode cX0_resetVectors 14 = .ok (.aload_n 0, 1) := by decide +kernel
theorem dX0_resetVectors_15 : decode cX0_resetVectors 15 = .ok (.getfield 33, 3) := by decide +kernel
theorem dX0_resetVectors_18 : decode cX0_resetVectors 18 = .ok (.iload_n 1, 1) := by decide +kernel
theorem dX0_resetVectors_19 : decode cX0_resetVectors 19 = .ok (.aaload, 1) := by decide +kernel
theorem dX0_resetVectors_20 : decode cX0_resetVectors 20 = .ok (.iload_n 2, 1) := by decide +kernel
theorem dX0_resetVectors_21 : decode cX0_resetVectors 21 = .ok (.iload_n 1, 1) := by decide +kernel
theorem dX0_resetVectors_22 : decode cX0_resetVectors 22 = .ok (.iload_n 2, 1) := by decide +kernel
theorem dX0_resetVectors_23 : decode cX0_resetVectors 23 = .ok (.if_icmp .ne 7, 3) := by decide +kernel
theorem dX0_resetVectors_26 : decode cX0_resetVectors 26 = .ok (.iconst 1, 1) := by decide +kernel
theorem dX0_resetVectors_27 : decode cX0_resetVectors 27 = .ok (.goto 4, 3) := by decide +kernel
theorem dX0_resetVectors_30 : decode cX0_resetVectors 30 = .ok (.iconst 0, 1) := by decide +kernel
theorem dX0_resetVectors_31 : decode cX0_resetVectors 31 = .ok (.iastore, 1) := by decide +kernel
theorem dX0_resetVectors_32 : decode cX0_resetVectors 32 = .ok (.iinc 2 1, 3) := by decide +kernel
theorem dX0_resetVectors_35 : decode cX0_resetVectors 35 = .ok (.goto (-26), 3) := by decide +kernel
theorem dX0_resetVectors_38 : decode cX0_resetVectors 38 = .ok (.iinc 1 1, 3) := by decide +kernel
theorem dX0_resetVectors_41 : decode cX0_resetVectors 41 = .ok (.goto (-39), 3) := by decide +kernel
theorem dX0_resetVectors_44 : decode cX0_resetVectors 44 = .ok (.return_, 1) := by decide +kernel
theorem dX0_hasLetter_0 : decode cX0_hasLetter 0 = .ok (.iload_n 1, 1) := by decide +kernel
theorem dX0_hasLetter_1 : decode cX0_hasLetter 1 = .ok (.ifCond .lt 15, 3) := by decide +kernel
theorem dX0_hasLetter_4 : decode cX0_hasLetter 4 = .ok (.iload_n 1, 1) := by decide +kernel
theorem dX0_hasLetter_5 : decode cX0_hasLetter 5 = .ok (.aload_n 0, 1) := by decide +kernel
theorem dX0_hasLetter_6 : decode cX0_hasLetter 6 = .ok (.getfield 9, 3) := by decide +kernel
theorem dX0_hasLetter_9 : decode cX0_hasLetter 9 = .ok (.if_icmp .ge 7, 3) := by decide +kernel
theorem dX0_hasLetter_12 : decode cX0_hasLetter 12 = .ok (.iconst 1, 1) := by decide +kernel
theorem dX0_hasLetter_13 : decode cX0_hasLetter 13 = .ok (.goto 4, 3) := by decide +kernel
theorem dX0_hasLetter_16 : decode cX0_hasLetter 16 = .ok (.iconst 0, 1) := by decide +kernel
theorem dX0_hasLetter_17 : decode cX0_hasLetter 17 = .ok (.ireturn, 1) := by decide +kernel
theorem dX0_points_0 : decode cX0_points 0 = .ok (.aload_n 0, 1) := by decide +kernel
theorem dX0_points_1 : decode cX0_points 1 = .ok (.aload_n 0, 1) := by decide +kernel
theorem dX0_points_2 : decode cX0_points 2 = .ok (.getfield 9, 3) := by decide +kernel
theorem dX0_points_5 : decode cX0_points 5 = .ok (.invokevirtual 50, 3) := by decide +kernel
theorem dX0_points_8 : decode cX0_points 8 = .ok (.ireturn, 1) := by decide +kernel
theorem dX0_pointsWithLetters_0 : decode cX0_pointsWithLetters 0 = .ok (.iconst 1, 1) := by decide +kernel
theorem dX0_pointsWithLetters_1 : decode cX0_pointsWithLetters 1 = .ok (.istore_n 2, 1) := by decide +kernel
theorem dX0_pointsWithLetters_2 : decode cX0_pointsWithLetters 2 = .ok (.iconst 0, 1) := by decide +kernel
theorem dX0_pointsWithLetters_3 : decode cX0_pointsWithLetters 3 = .ok (.istore_n 3, 1) := by decide +kernel
theorem dX0_pointsWithLetters_4 : decode cX0_pointsWithLetters 4 = .ok (.iload_n 3, 1) := by decide +kernel
theorem dX0_pointsWithLetters_5 : decode cX0_pointsWithLetters 5 = .ok (.iload_n 1, 1) := by decide +kernel
theorem dX0_pointsWithLetters_6 : decode cX0_pointsWithLetters 6 = .ok (.if_icmp .ge 39, 3) := by decide +kernel
theorem dX0_pointsWithLetters_9 : decode cX0_pointsWithLetters 9 = .ok (.iload_n 2, 1) := by decide +kernel
theorem dX0_pointsWithLetters_10 : decode cX0_pointsWithLetters 10 = .ok (.iload_n 3, 1) := by decide +kernel
theorem dX0_pointsWithLetters_11 : decode cX0_pointsWithLetters 11 = .ok (.aload_n 0, 1) := by decide +kernel
theorem dX0_pointsWithLetters_12 : decode cX0_pointsWithLetters 12 = .ok (.getfield 9, 3) := by decide +kernel
theorem dX0_pointsWithLetters_15 : decode cX0_pointsWithLetters 15 = .ok (.if_icmp .ge 21, 3) := by decide +kernel
theorem dX0_pointsWithLetters_18 : decode cX0_pointsWithLetters 18 = .ok (.aload_n 0, 1) := by decide +kernel
theorem dX0_pointsWithLetters_19 : decode cX0_pointsWithLetters 19 = .ok (.getfield 19, 3) := by decide +kernel
theorem dX0_pointsWithLetters_22 : decode cX0_pointsWithLetters 22 = .ok (.iload_n 3, 1) := by decide +kernel
theorem dX0_pointsWithLetters_23 : decode cX0_pointsWithLetters 23 = .ok (.iaload, 1) := by decide +kernel
theorem dX0_pointsWithLetters_24 : decode cX0_pointsWithLetters 24 = .ok (.aload_n 0, 1) := by decide +kernel
theorem dX0_pointsWithLetters_25 : decode cX0_pointsWithLetters 25 = .ok (.getfield 15, 3) := by decide +kernel
theorem dX0_pointsWithLetters_28 : decode cX0_pointsWithLetters 28 = .ok (.iload_n 3, 1) := by decide +kernel
theorem dX0_pointsWithLetters_29 : decode cX0_pointsWithLetters 29 = .ok (.iaload, 1) := by decide +kernel
theorem dX0_pointsWithLetters_30 : decode cX0_pointsWithLetters 30 = .ok (.isub, 1) := by decide +kernel
theorem dX0_pointsWithLetters_31 : decode cX0_pointsWithLetters 31 = .ok (.iconst 1, 1) := by decide +kernel
theorem dX0_pointsWithLetters_32 : decode cX0_pointsWithLetters 32 = .ok (.iadd, 1) := by decide +kernel
theorem dX0_pointsWithLetters_33 : decode cX0_pointsWithLetters 33 = .ok (.goto 4, 3) := by decide +kernel
theorem dX0_pointsWithLetters_36 : decode cX0_pointsWithLetters 36 = .ok (.iconst 4, 1) := by decide +kernel
theorem dX0_pointsWithLetters_37 : decode cX0_pointsWithLetters 37 = .ok (.imul, 1) := by decide +kernel
theorem dX0_pointsWithLetters_38 : decode cX0_pointsWithLetters 38 = .ok (.istore_n 2, 1) := by decide +kernel
theorem dX0_pointsWithLetters_39 : decode cX0_pointsWithLetters 39 = .ok (.iinc 3 1, 3) := by decide +kernel
theorem dX0_pointsWithLetters_42 : decode cX0_pointsWithLetters 42 = .ok (.goto (-38), 3) := by decide +kernel
theorem dX0_pointsWithLetters_45 : decode cX0_pointsWithLetters 45 = .ok (.iload_n 2, 1) := by decide +kernel
theorem dX0_pointsWithLetters_46 : decode cX0_pointsWithLetters 46 = .ok (.ireturn, 1) := by decide +kernel
theorem dX0_pointsWithSide_0 : decode cX0_pointsWithSide 0 = .ok (.iconst 1, 1) := by decide +kernel
theorem dX0_pointsWithSide_1 : decode cX0_pointsWithSide 1 = .ok (.istore 4, 2) := by decide +kernel
theorem dX0_pointsWithSide_3 : decode cX0_pointsWithSide 3 = .ok (.iconst 0, 1) := by decide +kernel
theorem dX0_pointsWithSide_4 : decode cX0_pointsWithSide 4 = .ok (.istore 5, 2) := by decide +kernel
theorem dX0_pointsWithSide_6 : decode cX0_pointsWithSide 6 = .ok (.iload 5, 2) := by decide +kernel
theorem dX0_pointsWithSide_8 : decode cX0_pointsWithSide 8 = .ok (.aload_n 0, 1) := by decide +kernel
theorem dX0_pointsWithSide_9 : decode cX0_pointsWithSide 9 = .ok (.getfield 9, 3) := by decide +kernel
theorem dX0_pointsWithSide_12 : decode cX0_pointsWithSide 12 = .ok (.if_icmp .ge 45, 3) := by decide +kernel
theorem dX0_pointsWithSide_15 : decode cX0_pointsWithSide 15 = .ok (.iload 4, 2) := by decide +kernel
theorem dX0_pointsWithSide_17 : decode cX0_pointsWithSide 17 = .ok (.iload 5, 2) := by decide +kernel
theorem dX0_pointsWithSide_19 : decode cX0_pointsWithSide 19 = .ok (.iload_n 1, 1) := by decide +kernel
theorem dX0_pointsWithSide_20 : decode cX0_pointsWithSide 20 = .ok (.if_icmp .ne 11, 3) := by decide +kernel
theorem dX0_pointsWithSide_23 : decode cX0_pointsWithSide 23 = .ok (.iload_n 3, 1) := by decide +kernel
theorem dX0_pointsWithSide_24 : decode cX0_pointsWithSide 24 = .ok (.iload_n 2, 1) := by decide +kernel
theorem dX0_pointsWithSide_25 : decode cX0_pointsWithSide 25 = .ok (.isub, 1) := by decide +kernel
theorem dX0_pointsWithSide_26 : decode cX0_pointsWithSide 26 = .ok (.iconst 1, 1) := by decide +kernel
theorem dX0_pointsWithSide_27 : decode cX0_pointsWithSide 27 = .ok (.iadd, 1) := by decide +kernel
theorem dX0_pointsWithSide_28 : decode cX0_pointsWithSide 28 = .ok (.goto 20, 3) := by decide +kernel
theorem dX0_pointsWithSide_31 : decode cX0_pointsWithSide 31 = .ok (.aload_n 0, 1) := by decide +kernel
theorem dX0_pointsWithSide_32 : decode cX0_pointsWithSide 32 = .ok (.getfield 19, 3) := by decide +kernel
theorem dX0_pointsWithSide_35 : decode cX0_pointsWithSide 35 = .ok (.iload 5, 2) := by decide +kernel
theorem dX0_pointsWithSide_37 : decode cX0_pointsWithSide 37 = .ok (.iaload, 1) := by decide +kernel
theorem dX0_pointsWithSide_38 : decode cX0_pointsWithSide 38 = .ok (.aload_n 0, 1) := by decide +kernel
theorem dX0_pointsWithSide_39 : decode cX0_pointsWithSide 39 = .ok (.getfield 15, 3) := by decide +kernel
theorem dX0_pointsWithSide_42 : decode cX0_pointsWithSide 42 = .ok (.iload 5, 2) := by decide +kernel
theorem dX0_pointsWithSide_44 : decode cX0_pointsWithSide 44 = .ok (.iaload, 1) := by decide +kernel
theorem dX0_pointsWithSide_45 : decode cX0_pointsWithSide 45 = .ok (.isub, 1) := by decide +kernel
theorem dX0_pointsWithSide_46 : decode cX0_pointsWithSide 46 = .ok (.iconst 1, 1) := by decide +kernel
theorem dX0_pointsWithSide_47 : decode cX0_pointsWithSide 47 = .ok (.iadd, 1) := by decide +kernel
theorem dX0_pointsWithSide_48 : decode cX0_pointsWithSide 48 = .ok (.imul, 1) := by decide +kernel
theorem dX0_pointsWithSide_49 : decode cX0_pointsWithSide 49 = .ok (.istore 4, 2) := by decide +kernel
theorem dX0_pointsWithSide_51 : decode cX0_pointsWithSide 51 = .ok (.iinc 5 1, 3) := by decide +kernel
theorem dX0_pointsWithSide_54 : decode cX0_pointsWithSide 54 = .ok (.goto (-48), 3) := by decide +kernel
theorem dX0_pointsWithSide_57 : decode cX0_pointsWithSide 57 = .ok (.iload 4, 2) := by decide +kernel
theorem dX0_pointsWithSide_59 : decode cX0_pointsWithSide 59 = .ok (.ireturn, 1) := by decide +kernel
theorem dX0_setLetters_0 : decode cX0_setLetters 0 = .ok (.iload_n 1, 1) := by decide +kernel
theorem dX0_setLetters_1 : decode cX0_setLetters 1 = .ok (.aload_n 0, 1) := by decide +kernel
theorem dX0_setLetters_2 : decode cX0_setLetters 2 = .ok (.getfield 9, 3) := by decide +kernel
theorem dX0_setLetters_5 : decode cX0_setLetters 5 = .ok (.if_icmp .ne 4, 3) := by decide +kernel
theorem dX0_setLetters_8 : decode cX0_setLetters 8 = .ok (.return_, 1) := by decide +kernel
theorem dX0_setLetters_9 : decode cX0_setLetters 9 = .ok (.aload_n 0, 1) := by decide +kernel
theorem dX0_setLetters_10 : decode cX0_setLetters 10 = .ok (.getfield 9, 3) := by decide +kernel
theorem dX0_setLetters_13 : decode cX0_setLetters 13 = .ok (.istore_n 2, 1) := by decide +kernel
theorem dX0_setLetters_14 : decode cX0_setLetters 14 = .ok (.iload_n 2, 1) := by decide +kernel
theorem dX0_setLetters_15 : decode cX0_setLetters 15 = .ok (.iload_n 1, 1) := by decide +kernel
theorem dX0_setLetters_16 : decode cX0_setLetters 16 = .ok (.if_icmp .ge 23, 3) := by decide +kernel
theorem dX0_setLetters_19 : decode cX0_setLetters 19 = .ok (.aload_n 0, 1) := by decide +kernel
theorem dX0_setLetters_20 : decode cX0_setLetters 20 = .ok (.getfield 15, 3) := by decide +kernel
theorem dX0_setLetters_23 : decode cX0_setLetters 23 = .ok (.iload_n 2, 1) := by decide +kernel
theorem dX0_setLetters_24 : decode cX0_setLetters 24 = .ok (.iconst 0, 1) := by decide +kernel
theorem dX0_setLetters_25 : decode cX0_setLetters 25 = .ok (.iastore, 1) := by decide +kernel
theorem dX0_setLetters_26 : decode cX0_setLetters 26 = .ok (.aload_n 0, 1) := by decide +kernel
theorem dX0_setLetters_27 : decode cX0_setLetters 27 = .ok (.getfield 19, 3) := by decide +kernel
theorem dX0_setLetters_30 : decode cX0_setLetters 30 = .ok (.iload_n 2, 1) := by decide +kernel
theorem dX0_setLetters_31 : decode cX0_setLetters 31 = .ok (.iconst 3, 1) := by decide +kernel
theorem dX0_setLetters_32 : decode cX0_setLetters 32 = .ok (.iastore, 1) := by decide +kernel
theorem dX0_setLetters_33 : decode cX0_setLetters 33 = .ok (.iinc 2 1, 3) := by decide +kernel
theorem dX0_setLetters_36 : decode cX0_setLetters 36 = .ok (.goto (-22), 3) := by decide +kernel
theorem dX0_setLetters_39 : decode cX0_setLetters 39 = .ok (.aload_n 0, 1) := by decide +kernel
theorem dX0_setLetters_40 : decode cX0_setLetters 40 = .ok (.iload_n 1, 1) := by decide +kernel
theorem dX0_setLetters_41 : decode cX0_setLetters 41 = .ok (.putfield 9, 3) := by decide +kernel
theorem dX0_setLetters_44 : decode cX0_setLetters 44 = .ok (.aload_n 0, 1) := by decide +kernel
theorem dX0_setLetters_45 : decode cX0_setLetters 45 = .ok (.invokevirtual 37, 3) := by decide +kernel
theorem dX0_setLetters_48 : decode cX0_setLetters 48 = .ok (.return_, 1) := by decide +kernel
theorem dX0_setSide_0 : decode cX0_setSide 0 = .ok (.aload_n 0, 1) := by decide +kernel
theorem dX0_setSide_1 : decode cX0_setSide 1 = .ok (.getfield 15, 3) := by decide +kernel
theorem dX0_setSide_4 : decode cX0_setSide 4 = .ok (.iload_n 1, 1) := by decide +kernel
theorem dX0_setSide_5 : decode cX0_setSide 5 = .ok (.iload_n 2, 1) := by decide +kernel
theorem dX0_setSide_6 : decode cX0_setSide 6 = .ok (.iastore, 1) := by decide +kernel
theorem dX0_setSide_7 : decode cX0_setSide 7 = .ok (.aload_n 0, 1) := by decide +kernel
theorem dX0_setSide_8 : decode cX0_setSide 8 = .ok (.getfield 19, 3) := by decide +kernel
theorem dX0_setSide_11 : decode cX0_setSide 11 = .ok (.iload_n 1, 1) := by decide +kernel
theorem dX0_setSide_12 : decode cX0_setSide 12 = .ok (.iload_n 3, 1) := by decide +kernel
theorem dX0_setSide_13 : decode cX0_setSide 13 = .ok (.iastore, 1) := by decide +kernel
theorem dX0_setSide_14 : decode cX0_setSide 14 = .ok (.return_, 1) := by decide +kernel
theorem dX7_letters_0 : decode cX7_letters 0 = .ok (.iload_n 1, 1) := by decide +kernel
theorem dX7_letters_1 : decode cX7_letters 1 = .ok (.iconst 1, 1) := by decide +kernel
theorem dX7_letters_2 : decode cX7_letters 2 = .ok (.if_icmp .lt 8, 3) := by decide +kernel
theorem dX7_letters_5 : decode cX7_letters 5 = .ok (.iload_n 1, 1) := by decide +kernel
theorem dX7_letters_6 : decode cX7_letters 6 = .ok (.iconst 4, 1) := by decide +kernel
theorem dX7_letters_7 : decode cX7_letters 7 = .ok (.if_icmp .le 9, 3) := by decide +kernel
theorem dX7_letters_10 : decode cX7_letters 10 = .ok (.aload_n 0, 1) := by decide +kernel
theorem dX7_letters_11 : decode cX7_letters 11 = .ok (.iconst 0, 1) := by decide +kernel
theorem dX7_letters_12 : decode cX7_letters 12 = .ok (.invokevirtual 68, 3) := by decide +kernel
theorem dX7_letters_15 : decode cX7_letters 15 = .ok (.ireturn, 1) := by decide +kernel
theorem dX7_letters_16 : decode cX7_letters 16 = .ok (.aload_n 0, 1) := by decide +kernel
theorem dX7_letters_17 : decode cX7_letters 17 = .ok (.getfield 12, 3) := by decide +kernel
theorem dX7_letters_20 : decode cX7_letters 20 = .ok (.iload_n 1, 1) := by decide +kernel
theorem dX7_letters_21 : decode cX7_letters 21 = .ok (.invokevirtual 72, 3) := by decide +kernel
theorem dX7_letters_24 : decode cX7_letters 24 = .ok (.sipush 4096, 3) := by decide +kernel
theorem dX7_letters_27 : decode cX7_letters 27 = .ok (.if_icmp .le 9, 3) := by decide +kernel
theorem dX7_letters_30 : decode cX7_letters 30 = .ok (.aload_n 0, 1) := by decide +kernel
theorem dX7_letters_31 : decode cX7_letters 31 = .ok (.iconst 1, 1) := by decide +kernel
theorem dX7_letters_32 : decode cX7_letters 32 = .ok (.invokevirtual 68, 3) := by decide +kernel
theorem dX7_letters_35 : decode cX7_letters 35 = .ok (.ireturn, 1) := by decide +kernel
theorem dX7_letters_36 : decode cX7_letters 36 = .ok (.aload_n 0, 1) := by decide +kernel
theorem dX7_letters_37 : decode cX7_letters 37 = .ok (.getfield 12, 3) := by decide +kernel
theorem dX7_letters_40 : decode cX7_letters 40 = .ok (.getfield 75, 3) := by decide +kernel
theorem dX7_letters_43 : decode cX7_letters 43 = .ok (.istore_n 2, 1) := by decide +kernel
theorem dX7_letters_44 : decode cX7_letters 44 = .ok (.aload_n 0, 1) := by decide +kernel
theorem dX7_letters_45 : decode cX7_letters 45 = .ok (.getfield 12, 3) := by decide +kernel
theorem dX7_letters_48 : decode cX7_letters 48 = .ok (.iload_n 1, 1) := by decide +kernel
theorem dX7_letters_49 : decode cX7_letters 49 = .ok (.invokevirtual 79, 3) := by decide +kernel
theorem dX7_letters_52 : decode cX7_letters 52 = .ok (.aload_n 0, 1) := by decide +kernel
theorem dX7_letters_53 : decode cX7_letters 53 = .ok (.invokevirtual 83, 3) := by decide +kernel
theorem dX7_letters_56 : decode cX7_letters 56 = .ok (.iload_n 2, 1) := by decide +kernel
theorem dX7_letters_57 : decode cX7_letters 57 = .ok (.ireturn, 1) := by decide +kernel
theorem dX7_box_0 : decode cX7_box 0 = .ok (.aload_n 0, 1) := by decide +kernel
theorem dX7_box_1 : decode cX7_box 1 = .ok (.getfield 12, 3) := by decide +kernel
theorem dX7_box_4 : decode cX7_box 4 = .ok (.iload_n 1, 1) := by decide +kernel
theorem dX7_box_5 : decode cX7_box 5 = .ok (.invokevirtual 86, 3) := by decide +kernel
theorem dX7_box_8 : decode cX7_box 8 = .ok (.ifCond .eq 26, 3) := by decide +kernel
theorem dX7_box_11 : decode cX7_box 11 = .ok (.iload_n 2, 1) := by decide +kernel
theorem dX7_box_12 : decode cX7_box 12 = .ok (.bipush 9, 2) := by decide +kernel
theorem dX7_box_14 : decode cX7_box 14 = .ok (.invokestatic 90, 3) := by decide +kernel
theorem dX7_box_17 : decode cX7_box 17 = .ok (.ifCond .eq 17, 3) := by decide +kernel
theorem dX7_box_20 : decode cX7_box 20 = .ok (.iload_n 3, 1) := by decide +kernel
theorem dX7_box_21 : decode cX7_box 21 = .ok (.bipush 9, 2) := by decide +kernel
theorem dX7_box_23 : decode cX7_box 23 = .ok (.invokestatic 90, 3) := by decide +kernel
theorem dX7_box_26 : decode cX7_box 26 = .ok (.ifCond .eq 8, 3) := by decide +kernel
theorem dX7_box_29 : decode cX7_box 29 = .ok (.iload_n 2, 1) := by decide +kernel
theorem dX7_box_30 : decode cX7_box 30 = .ok (.iload_n 3, 1) := by decide +kernel
theorem dX7_box_31 : decode cX7_box 31 = .ok (.if_icmp .le 9, 3) := by decide +kernel
theorem dX7_box_34 : decode cX7_box 34 = .ok (.aload_n 0, 1) := by decide +kernel
theorem dX7_box_35 : decode cX7_box 35 = .ok (.iconst 0, 1) := by decide +kernel
theorem dX7_box_36 : decode cX7_box 36 = .ok (.invokevirtual 68, 3) := by decide +kernel
theorem dX7_box_39 : decode cX7_box 39 = .ok (.ireturn, 1) := by decide +kernel
theorem dX7_box_40 : decode cX7_box 40 = .ok (.aload_n 0, 1) := by decide +kernel
theorem dX7_box_41 : decode cX7_box 41 = .ok (.getfield 12, 3) := by decide +kernel
theorem dX7_box_44 : decode cX7_box 44 = .ok (.iload_n 1, 1) := by decide +kernel
theorem dX7_box_45 : decode cX7_box 45 = .ok (.iload_n 2, 1) := by decide +kernel
theorem dX7_box_46 : decode cX7_box 46 = .ok (.iload_n 3, 1) := by decide +kernel
theorem dX7_box_47 : decode cX7_box 47 = .ok (.invokevirtual 94, 3) := by decide +kernel
theorem dX7_box_50 : decode cX7_box 50 = .ok (.sipush 4096, 3) := by decide +kernel
theorem dX7_box_53 : decode cX7_box 53 = .ok (.if_icmp .le 9, 3) := by decide +kernel
theorem dX7_box_56 : decode cX7_box 56 = .ok (.aload_n 0, 1) := by decide +kernel
theorem dX7_box_57 : decode cX7_box 57 = .ok (.iconst 1, 1) := by decide +kernel
theorem dX7_box_58 : decode cX7_box 58 = .ok (.invokevirtual 68, 3) := by decide +kernel
theorem dX7_box_61 : decode cX7_box 61 = .ok (.ireturn, 1) := by decide +kernel
theorem dX7_box_62 : decode cX7_box 62 = .ok (.aload_n 0, 1) := by decide +kernel
theorem dX7_box_63 : decode cX7_box 63 = .ok (.getfield 12, 3) := by decide +kernel
theorem dX7_box_66 : decode cX7_box 66 = .ok (.iload_n 1, 1) := by decide +kernel
theorem dX7_box_67 : decode cX7_box 67 = .ok (.iload_n 2, 1) := by decide +kernel
theorem dX7_box_68 : decode cX7_box 68 = .ok (.iload_n 3, 1) := by decide +kernel
theorem dX7_box_69 : decode cX7_box 69 = .ok (.invokevirtual 98, 3) := by decide +kernel
theorem dX7_box_72 : decode cX7_box 72 = .ok (.aload_n 0, 1) := by decide +kernel
theorem dX7_box_73 : decode cX7_box 73 = .ok (.invokevirtual 83, 3) := by decide +kernel
theorem dX7_box_76 : decode cX7_box 76 = .ok (.aload_n 0, 1) := by decide +kernel
theorem dX7_box_77 : decode cX7_box 77 = .ok (.getfield 12, 3) := by decide +kernel
theorem dX7_box_80 : decode cX7_box 80 = .ok (.invokevirtual 102, 3) := by decide +kernel
theorem dX7_box_83 : decode cX7_box 83 = .ok (.ireturn, 1) := by decide +kernel
theorem dX7_finding_0 : decode cX7_finding 0 = .ok (.iload_n 1, 1) := by decide +kernel
theorem dX7_finding_1 : decode cX7_finding 1 = .ok (.ifCond .lt 19, 3) := by decide +kernel
theorem dX7_finding_4 : decode cX7_finding 4 = .ok (.iload_n 1, 1) := by decide +kernel
theorem dX7_finding_5 : decode cX7_finding 5 = .ok (.bipush 7, 2) := by decide +kernel
theorem dX7_finding_7 : decode cX7_finding 7 = .ok (.if_icmp .ge 13, 3) := by decide +kernel
theorem dX7_finding_10 : decode cX7_finding 10 = .ok (.aload_n 0, 1) := by decide +kernel
theorem dX7_finding_11 : decode cX7_finding 11 = .ok (.getfield 60, 3) := by decide +kernel
theorem dX7_finding_14 : decode cX7_finding 14 = .ok (.iload_n 1, 1) := by decide +kernel
theorem dX7_finding_15 : decode cX7_finding 15 = .ok (.dup2, 1) := by decide +kernel
theorem dX7_finding_16 : decode cX7_finding 16 = .ok (.iaload, 1) := by decide +kernel
theorem dX7_finding_17 : decode cX7_finding 17 = .ok (.iconst 1, 1) := by decide +kernel
theorem dX7_finding_18 : decode cX7_finding 18 = .ok (.iadd, 1) := by decide +kernel
theorem dX7_finding_19 : decode cX7_finding 19 = .ok (.iastore, 1) := by decide +kernel
theorem dX7_finding_20 : decode cX7_finding 20 = .ok (.ldc_w 360, 3) := by decide +kernel
theorem dX7_finding_23 : decode cX7_finding 23 = .ok (.iload_n 1, 1) := by decide +kernel
theorem dX7_finding_24 : decode cX7_finding 24 = .ok (.isub, 1) := by decide +kernel
theorem dX7_finding_25 : decode cX7_finding 25 = .ok (.ireturn, 1) := by decide +kernel
theorem dX7_bodyChanged_0 : decode cX7_bodyChanged 0 = .ok (.aload_n 0, 1) := by decide +kernel
theorem dX7_bodyChanged_1 : decode cX7_bodyChanged 1 = .ok (.getfield 29, 3) := by decide +kernel
theorem dX7_bodyChanged_4 : decode cX7_bodyChanged 4 = .ok (.iconst 1, 1) := by decide +kernel
theorem dX7_bodyChanged_5 : decode cX7_bodyChanged 5 = .ok (.putfield 361, 3) := by decide +kernel
theorem dX7_bodyChanged_8 : decode cX7_bodyChanged 8 = .ok (.aload_n 0, 1) := by decide +kernel
theorem dX7_bodyChanged_9 : decode cX7_bodyChanged 9 = .ok (.getfield 36, 3) := by decide +kernel
theorem dX7_bodyChanged_12 : decode cX7_bodyChanged 12 = .ok (.iconst 1, 1) := by decide +kernel
theorem dX7_bodyChanged_13 : decode cX7_bodyChanged 13 = .ok (.putfield 364, 3) := by decide +kernel
theorem dX7_bodyChanged_16 : decode cX7_bodyChanged 16 = .ok (.return_, 1) := by decide +kernel
theorem dX7_within_0 : decode cX7_within 0 = .ok (.iload_n 0, 1) := by decide +kernel
theorem dX7_within_1 : decode cX7_within 1 = .ok (.iload_n 1, 1) := by decide +kernel
theorem dX7_within_2 : decode cX7_within 2 = .ok (.ineg, 1) := by decide +kernel
theorem dX7_within_3 : decode cX7_within 3 = .ok (.if_icmp .lt 12, 3) := by decide +kernel
theorem dX7_within_6 : decode cX7_within 6 = .ok (.iload_n 0, 1) := by decide +kernel
theorem dX7_within_7 : decode cX7_within 7 = .ok (.iload_n 1, 1) := by decide +kernel
theorem dX7_within_8 : decode cX7_within 8 = .ok (.if_icmp .gt 7, 3) := by decide +kernel
theorem dX7_within_11 : decode cX7_within 11 = .ok (.iconst 1, 1) := by decide +kernel
theorem dX7_within_12 : decode cX7_within 12 = .ok (.goto 4, 3) := by decide +kernel
theorem dX7_within_15 : decode cX7_within 15 = .ok (.iconst 0, 1) := by decide +kernel
theorem dX7_within_16 : decode cX7_within 16 = .ok (.ireturn, 1) := by decide +kernel
