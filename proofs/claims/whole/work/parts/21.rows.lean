theorem dX3_nextToken_176 : decode cX3_nextToken 176 = .ok (.putfield 25, 3) := by decide +kernel
theorem dX3_nextToken_179 : decode cX3_nextToken 179 = .ok (.goto (-71), 3) := by decide +kernel
theorem dX3_nextToken_182 : decode cX3_nextToken 182 = .ok (.return_, 1) := by decide +kernel
theorem dX3_sortAt_0 : decode cX3_sortAt 0 = .ok (.iload_n 1, 1) := by decide +kernel
theorem dX3_sortAt_1 : decode cX3_sortAt 1 = .ok (.ifCond .lt 11, 3) := by decide +kernel
theorem dX3_sortAt_4 : decode cX3_sortAt 4 = .ok (.iload_n 1, 1) := by decide +kernel
theorem dX3_sortAt_5 : decode cX3_sortAt 5 = .ok (.aload_n 0, 1) := by decide +kernel
theorem dX3_sortAt_6 : decode cX3_sortAt 6 = .ok (.getfield 9, 3) := by decide +kernel
theorem dX3_sortAt_9 : decode cX3_sortAt 9 = .ok (.if_icmp .lt 5, 3) := by decide +kernel
theorem dX3_sortAt_12 : decode cX3_sortAt 12 = .ok (.iconst 0, 1) := by decide +kernel
theorem dX3_sortAt_13 : decode cX3_sortAt 13 = .ok (.ireturn, 1) := by decide +kernel
theorem dX3_sortAt_14 : decode cX3_sortAt 14 = .ok (.aload_n 0, 1) := by decide +kernel
theorem dX3_sortAt_15 : decode cX3_sortAt 15 = .ok (.getfield 15, 3) := by decide +kernel
theorem dX3_sortAt_18 : decode cX3_sortAt 18 = .ok (.iload_n 1, 1) := by decide +kernel
theorem dX3_sortAt_19 : decode cX3_sortAt 19 = .ok (.baload, 1) := by decide +kernel
theorem dX3_sortAt_20 : decode cX3_sortAt 20 = .ok (.istore_n 2, 1) := by decide +kernel
theorem dX3_sortAt_21 : decode cX3_sortAt 21 = .ok (.iload_n 2, 1) := by decide +kernel
theorem dX3_sortAt_22 : decode cX3_sortAt 22 = .ok (.bipush 97, 2) := by decide +kernel
theorem dX3_sortAt_24 : decode cX3_sortAt 24 = .ok (.if_icmp .lt 11, 3) := by decide +kernel
theorem dX3_sortAt_27 : decode cX3_sortAt 27 = .ok (.iload_n 2, 1) := by decide +kernel
theorem dX3_sortAt_28 : decode cX3_sortAt 28 = .ok (.bipush 122, 2) := by decide +kernel
theorem dX3_sortAt_30 : decode cX3_sortAt 30 = .ok (.if_icmp .gt 5, 3) := by decide +kernel
theorem dX3_sortAt_33 : decode cX3_sortAt 33 = .ok (.iconst 1, 1) := by decide +kernel
theorem dX3_sortAt_34 : decode cX3_sortAt 34 = .ok (.ireturn, 1) := by decide +kernel
theorem dX3_sortAt_35 : decode cX3_sortAt 35 = .ok (.iload_n 2, 1) := by decide +kernel
theorem dX3_sortAt_36 : decode cX3_sortAt 36 = .ok (.bipush 48, 2) := by decide +kernel
theorem dX3_sortAt_38 : decode cX3_sortAt 38 = .ok (.if_icmp .lt 11, 3) := by decide +kernel
theorem dX3_sortAt_41 : decode cX3_sortAt 41 = .ok (.iload_n 2, 1) := by decide +kernel
theorem dX3_sortAt_42 : decode cX3_sortAt 42 = .ok (.bipush 57, 2) := by decide +kernel
theorem dX3_sortAt_44 : decode cX3_sortAt 44 = .ok (.if_icmp .gt 5, 3) := by decide +kernel
theorem dX3_sortAt_47 : decode cX3_sortAt 47 = .ok (.iconst 2, 1) := by decide +kernel
theorem dX3_sortAt_48 : decode cX3_sortAt 48 = .ok (.ireturn, 1) := by decide +kernel
theorem dX3_sortAt_49 : decode cX3_sortAt 49 = .ok (.iload_n 2, 1) := by decide +kernel
theorem dX3_sortAt_50 : decode cX3_sortAt 50 = .ok (.bipush 59, 2) := by decide +kernel
theorem dX3_sortAt_52 : decode cX3_sortAt 52 = .ok (.if_icmp .ne 5, 3) := by decide +kernel
theorem dX3_sortAt_55 : decode cX3_sortAt 55 = .ok (.iconst 3, 1) := by decide +kernel
theorem dX3_sortAt_56 : decode cX3_sortAt 56 = .ok (.ireturn, 1) := by decide +kernel
theorem dX3_sortAt_57 : decode cX3_sortAt 57 = .ok (.iload_n 2, 1) := by decide +kernel
theorem dX3_sortAt_58 : decode cX3_sortAt 58 = .ok (.bipush 45, 2) := by decide +kernel
theorem dX3_sortAt_60 : decode cX3_sortAt 60 = .ok (.if_icmp .ne 7, 3) := by decide +kernel
theorem dX3_sortAt_63 : decode cX3_sortAt 63 = .ok (.iconst 4, 1) := by decide +kernel
theorem dX3_sortAt_64 : decode cX3_sortAt 64 = .ok (.goto 4, 3) := by decide +kernel
theorem dX3_sortAt_67 : decode cX3_sortAt 67 = .ok (.iconst 5, 1) := by decide +kernel
theorem dX3_sortAt_68 : decode cX3_sortAt 68 = .ok (.ireturn, 1) := by decide +kernel
theorem dX3_isWord_0 : decode cX3_isWord 0 = .ok (.aload_n 0, 1) := by decide +kernel
theorem dX3_isWord_1 : decode cX3_isWord 1 = .ok (.getfield 19, 3) := by decide +kernel
theorem dX3_isWord_4 : decode cX3_isWord 4 = .ok (.iconst 1, 1) := by decide +kernel
theorem dX3_isWord_5 : decode cX3_isWord 5 = .ok (.if_icmp .ne 19, 3) := by decide +kernel
theorem dX3_isWord_8 : decode cX3_isWord 8 = .ok (.aload_n 0, 1) := by decide +kernel
theorem dX3_isWord_9 : decode cX3_isWord 9 = .ok (.getfield 25, 3) := by decide +kernel
theorem dX3_isWord_12 : decode cX3_isWord 12 = .ok (.aload_n 0, 1) := by decide +kernel
theorem dX3_isWord_13 : decode cX3_isWord 13 = .ok (.getfield 22, 3) := by decide +kernel
theorem dX3_isWord_16 : decode cX3_isWord 16 = .ok (.isub, 1) := by decide +kernel
theorem dX3_isWord_17 : decode cX3_isWord 17 = .ok (.aload_n 1, 1) := by decide +kernel
theorem dX3_isWord_18 : decode cX3_isWord 18 = .ok (.invokevirtual 48, 3) := by decide +kernel
theorem dX3_isWord_21 : decode cX3_isWord 21 = .ok (.if_icmp .eq 5, 3) := by decide +kernel
theorem dX3_isWord_24 : decode cX3_isWord 24 = .ok (.iconst 0, 1) := by decide +kernel
theorem dX3_isWord_25 : decode cX3_isWord 25 = .ok (.ireturn, 1) := by decide +kernel
theorem dX3_isWord_26 : decode cX3_isWord 26 = .ok (.iconst 0, 1) := by decide +kernel
theorem dX3_isWord_27 : decode cX3_isWord 27 = .ok (.istore_n 2, 1) := by decide +kernel
theorem dX3_isWord_28 : decode cX3_isWord 28 = .ok (.iload_n 2, 1) := by decide +kernel
theorem dX3_isWord_29 : decode cX3_isWord 29 = .ok (.aload_n 1, 1) := by decide +kernel
theorem dX3_isWord_30 : decode cX3_isWord 30 = .ok (.invokevirtual 48, 3) := by decide +kernel
theorem dX3_isWord_33 : decode cX3_isWord 33 = .ok (.if_icmp .ge 30, 3) := by decide +kernel
theorem dX3_isWord_36 : decode cX3_isWord 36 = .ok (.aload_n 0, 1) := by decide +kernel
theorem dX3_isWord_37 : decode cX3_isWord 37 = .ok (.getfield 15, 3) := by decide +kernel
theorem dX3_isWord_40 : decode cX3_isWord 40 = .ok (.aload_n 0, 1) := by decide +kernel
theorem dX3_isWord_41 : decode cX3_isWord 41 = .ok (.getfield 22, 3) := by decide +kernel
theorem dX3_isWord_44 : decode cX3_isWord 44 = .ok (.iload_n 2, 1) := by decide +kernel
theorem dX3_isWord_45 : decode cX3_isWord 45 = .ok (.iadd, 1) := by decide +kernel
theorem dX3_isWord_46 : decode cX3_isWord 46 = .ok (.baload, 1) := by decide +kernel
theorem dX3_isWord_47 : decode cX3_isWord 47 = .ok (.aload_n 1, 1) := by decide +kernel
theorem dX3_isWord_48 : decode cX3_isWord 48 = .ok (.iload_n 2, 1) := by decide +kernel
theorem dX3_isWord_49 : decode cX3_isWord 49 = .ok (.invokevirtual 53, 3) := by decide +kernel
theorem dX3_isWord_52 : decode cX3_isWord 52 = .ok (.if_icmp .eq 5, 3) := by decide +kernel
theorem dX3_isWord_55 : decode cX3_isWord 55 = .ok (.iconst 0, 1) := by decide +kernel
theorem dX3_isWord_56 : decode cX3_isWord 56 = .ok (.ireturn, 1) := by decide +kernel
theorem dX3_isWord_57 : decode cX3_isWord 57 = .ok (.iinc 2 1, 3) := by decide +kernel
theorem dX3_isWord_60 : decode cX3_isWord 60 = .ok (.goto (-32), 3) := by decide +kernel
theorem dX3_isWord_63 : decode cX3_isWord 63 = .ok (.iconst 1, 1) := by decide +kernel
theorem dX3_isWord_64 : decode cX3_isWord 64 = .ok (.ireturn, 1) := by decide +kernel
theorem dX3_kindOfWord_0 : decode cX3_kindOfWord 0 = .ok (.aload_n 0, 1) := by decide +kernel
theorem dX3_kindOfWord_1 : decode cX3_kindOfWord 1 = .ok (.ldc 57, 2) := by decide +kernel
theorem dX3_kindOfWord_3 : decode cX3_kindOfWord 3 = .ok (.invokevirtual 59, 3) := by decide +kernel
theorem dX3_kindOfWord_6 : decode cX3_kindOfWord 6 = .ok (.ifCond .eq 5, 3) := by decide +kernel
theorem dX3_kindOfWord_9 : decode cX3_kindOfWord 9 = .ok (.iconst 0, 1) := by decide +kernel
theorem dX3_kindOfWord_10 : decode cX3_kindOfWord 10 = .ok (.ireturn, 1) := by decide +kernel
theorem dX3_kindOfWord_11 : decode cX3_kindOfWord 11 = .ok (.aload_n 0, 1) := by decide +kernel
theorem dX3_kindOfWord_12 : decode cX3_kindOfWord 12 = .ok (.ldc 63, 2) := by decide +kernel
theorem dX3_kindOfWord_14 : decode cX3_kindOfWord 14 = .ok (.invokevirtual 59, 3) := by decide +kernel
theorem dX3_kindOfWord_17 : decode cX3_kindOfWord 17 = .ok (.ifCond .eq 5, 3) := by decide +kernel
theorem dX3_kindOfWord_20 : decode cX3_kindOfWord 20 = .ok (.iconst 1, 1) := by decide +kernel
theorem dX3_kindOfWord_21 : decode cX3_kindOfWord 21 = .ok (.ireturn, 1) := by decide +kernel
theorem dX3_kindOfWord_22 : decode cX3_kindOfWord 22 = .ok (.aload_n 0, 1) := by decide +kernel
theorem dX3_kindOfWord_23 : decode cX3_kindOfWord 23 = .ok (.ldc 65, 2) := by decide +kernel
theorem dX3_kindOfWord_25 : decode cX3_kindOfWord 25 = .ok (.invokevirtual 59, 3) := by decide +kernel
theorem dX3_kindOfWord_28 : decode cX3_kindOfWord 28 = .ok (.ifCond .eq 5, 3) := by decide +kernel
theorem dX3_kindOfWord_31 : decode cX3_kindOfWord 31 = .ok (.iconst 2, 1) := by decide +kernel
theorem dX3_kindOfWord_32 : decode cX3_kindOfWord 32 = .ok (.ireturn, 1) := by decide +kernel
theorem dX3_kindOfWord_33 : decode cX3_kindOfWord 33 = .ok (.aload_n 0, 1) := by decide +kernel
theorem dX3_kindOfWord_34 : decode cX3_kindOfWord 34 = .ok (.ldc 67, 2) := by decide +kernel
theorem dX3_kindOfWord_36 : decode cX3_kindOfWord 36 = .ok (.invokevirtual 59, 3) := by decide +kernel
theorem dX3_kindOfWord_39 : decode cX3_kindOfWord 39 = .ok (.ifCond .eq 5, 3) := by decide +kernel
theorem dX3_kindOfWord_42 : decode cX3_kindOfWord 42 = .ok (.iconst 3, 1) := by decide +kernel
theorem dX3_kindOfWord_43 : decode cX3_kindOfWord 43 = .ok (.ireturn, 1) := by decide +kernel
theorem dX3_kindOfWord_44 : decode cX3_kindOfWord 44 = .ok (.aload_n 0, 1) := by decide +kernel
theorem dX3_kindOfWord_45 : decode cX3_kindOfWord 45 = .ok (.ldc 69, 2) := by decide +kernel
theorem dX3_kindOfWord_47 : decode cX3_kindOfWord 47 = .ok (.invokevirtual 59, 3) := by decide +kernel
theorem dX3_kindOfWord_50 : decode cX3_kindOfWord 50 = .ok (.ifCond .eq 5, 3) := by decide +kernel
theorem dX3_kindOfWord_53 : decode cX3_kindOfWord 53 = .ok (.iconst 4, 1) := by decide +kernel
theorem dX3_kindOfWord_54 : decode cX3_kindOfWord 54 = .ok (.ireturn, 1) := by decide +kernel
theorem dX3_kindOfWord_55 : decode cX3_kindOfWord 55 = .ok (.aload_n 0, 1) := by decide +kernel
theorem dX3_kindOfWord_56 : decode cX3_kindOfWord 56 = .ok (.ldc 71, 2) := by decide +kernel
theorem dX3_kindOfWord_58 : decode cX3_kindOfWord 58 = .ok (.invokevirtual 59, 3) := by decide +kernel
theorem dX3_kindOfWord_61 : decode cX3_kindOfWord 61 = .ok (.ifCond .eq 7, 3) := by decide +kernel
theorem dX3_kindOfWord_64 : decode cX3_kindOfWord 64 = .ok (.iconst 5, 1) := by decide +kernel
theorem dX3_kindOfWord_65 : decode cX3_kindOfWord 65 = .ok (.goto 4, 3) := by decide +kernel
theorem dX3_kindOfWord_68 : decode cX3_kindOfWord 68 = .ok (.iconst (-1), 1) := by decide +kernel
theorem dX3_kindOfWord_69 : decode cX3_kindOfWord 69 = .ok (.ireturn, 1) := by decide +kernel
theorem dX3_seesNumber_0 : decode cX3_seesNumber 0 = .ok (.aload_n 0, 1) := by decide +kernel
theorem dX3_seesNumber_1 : decode cX3_seesNumber 1 = .ok (.getfield 19, 3) := by decide +kernel
theorem dX3_seesNumber_4 : decode cX3_seesNumber 4 = .ok (.iconst 2, 1) := by decide +kernel
theorem dX3_seesNumber_5 : decode cX3_seesNumber 5 = .ok (.if_icmp .ne 23, 3) := by decide +kernel
theorem dX3_seesNumber_8 : decode cX3_seesNumber 8 = .ok (.aload_n 0, 1) := by decide +kernel
theorem dX3_seesNumber_9 : decode cX3_seesNumber 9 = .ok (.getfield 28, 3) := by decide +kernel
theorem dX3_seesNumber_12 : decode cX3_seesNumber 12 = .ok (.iload_n 1, 1) := by decide +kernel
theorem dX3_seesNumber_13 : decode cX3_seesNumber 13 = .ok (.if_icmp .lt 15, 3) := by decide +kernel
theorem dX3_seesNumber_16 : decode cX3_seesNumber 16 = .ok (.aload_n 0, 1) := by decide +kernel
theorem dX3_seesNumber_17 : decode cX3_seesNumber 17 = .ok (.getfield 28, 3) := by decide +kernel
theorem dX3_seesNumber_20 : decode cX3_seesNumber 20 = .ok (.iload_n 2, 1) := by decide +kernel
theorem dX3_seesNumber_21 : decode cX3_seesNumber 21 = .ok (.if_icmp .gt 7, 3) := by decide +kernel
theorem dX3_seesNumber_24 : decode cX3_seesNumber 24 = .ok (.iconst 1, 1) := by decide +kernel
theorem dX3_seesNumber_25 : decode cX3_seesNumber 25 = .ok (.goto 4, 3) := by decide +kernel
theorem dX3_seesNumber_28 : decode cX3_seesNumber 28 = .ok (.iconst 0, 1) := by decide +kernel
theorem dX3_seesNumber_29 : decode cX3_seesNumber 29 = .ok (.ireturn, 1) := by decide +kernel
theorem dX3_seesSigned_0 : decode cX3_seesSigned 0 = .ok (.aload_n 0, 1) := by decide +kernel
theorem dX3_seesSigned_1 : decode cX3_seesSigned 1 = .ok (.getfield 19, 3) := by decide +kernel
theorem dX3_seesSigned_4 : decode cX3_seesSigned 4 = .ok (.iconst 4, 1) := by decide +kernel
theorem dX3_seesSigned_5 : decode cX3_seesSigned 5 = .ok (.if_icmp .ne 7, 3) := by decide +kernel
theorem dX3_seesSigned_8 : decode cX3_seesSigned 8 = .ok (.iconst 1, 1) := by decide +kernel
theorem dX3_seesSigned_9 : decode cX3_seesSigned 9 = .ok (.goto 4, 3) := by decide +kernel
theorem dX3_seesSigned_12 : decode cX3_seesSigned 12 = .ok (.iconst 0, 1) := by decide +kernel
theorem dX3_seesSigned_13 : decode cX3_seesSigned 13 = .ok (.istore_n 3, 1) := by decide +kernel
theorem dX3_seesSigned_14 : decode cX3_seesSigned 14 = .ok (.iload_n 3, 1) := by decide +kernel
theorem dX3_seesSigned_15 : decode cX3_seesSigned 15 = .ok (.ifCond .eq 7, 3) := by decide +kernel
theorem dX3_seesSigned_18 : decode cX3_seesSigned 18 = .ok (.aload_n 0, 1) := by decide +kernel
theorem dX3_seesSigned_19 : decode cX3_seesSigned 19 = .ok (.invokevirtual 31, 3) := by decide +kernel
theorem dX3_seesSigned_22 : decode cX3_seesSigned 22 = .ok (.aload_n 0, 1) := by decide +kernel
theorem dX3_seesSigned_23 : decode cX3_seesSigned 23 = .ok (.getfield 19, 3) := by decide +kernel
theorem dX3_seesSigned_26 : decode cX3_seesSigned 26 = .ok (.iconst 2, 1) := by decide +kernel
theorem dX3_seesSigned_27 : decode cX3_seesSigned 27 = .ok (.if_icmp .eq 5, 3) := by decide +kernel
theorem dX3_seesSigned_30 : decode cX3_seesSigned 30 = .ok (.iconst 0, 1) := by decide +kernel
theorem dX3_seesSigned_31 : decode cX3_seesSigned 31 = .ok (.ireturn, 1) := by decide +kernel
theorem dX3_seesSigned_32 : decode cX3_seesSigned 32 = .ok (.aload_n 0, 1) := by decide +kernel
theorem dX3_seesSigned_33 : decode cX3_seesSigned 33 = .ok (.iload_n 3, 1) := by decide +kernel
theorem dX3_seesSigned_34 : decode cX3_seesSigned 34 = .ok (.ifCond .eq 11, 3) := by decide +kernel
theorem dX3_seesSigned_37 : decode cX3_seesSigned 37 = .ok (.aload_n 0, 1) := by decide +kernel
theorem dX3_seesSigned_38 : decode cX3_seesSigned 38 = .ok (.getfield 28, 3) := by decide +kernel
theorem dX3_seesSigned_41 : decode cX3_seesSigned 41 = .ok (.ineg, 1) := by decide +kernel
theorem dX3_seesSigned_42 : decode cX3_seesSigned 42 = .ok (.goto 7, 3) := by decide +kernel
theorem dX3_seesSigned_45 : decode cX3_seesSigned 45 = .ok (.aload_n 0, 1) := by decide +kernel
theorem dX3_seesSigned_46 : decode cX3_seesSigned 46 = .ok (.getfield 28, 3) := by decide +kernel
theorem dX3_seesSigned_49 : decode cX3_seesSigned 49 = .ok (.putfield 28, 3) := by decide +kernel
theorem dX3_seesSigned_52 : decode cX3_seesSigned 52 = .ok (.aload_n 0, 1) := by decide +kernel
theorem dX3_seesSigned_53 : decode cX3_seesSigned 53 = .ok (.getfield 28, 3) := by decide +kernel
theorem dX3_seesSigned_56 : decode cX3_seesSigned 56 = .ok (.iload_n 1, 1) := by decide +kernel
theorem dX3_seesSigned_57 : decode cX3_seesSigned 57 = .ok (.if_icmp .lt 15, 3) := by decide +kernel
theorem dX3_seesSigned_60 : decode cX3_seesSigned 60 = .ok (.aload_n 0, 1) := by decide +kernel
theorem dX3_seesSigned_61 : decode cX3_seesSigned 61 = .ok (.getfield 28, 3) := by decide +kernel
theorem dX3_seesSigned_64 : decode cX3_seesSigned 64 = .ok (.iload_n 2, 1) := by decide +kernel
theorem dX3_seesSigned_65 : decode cX3_seesSigned 65 = .ok (.if_icmp .gt 7, 3) := by decide +kernel
theorem dX3_seesSigned_68 : decode cX3_seesSigned 68 = .ok (.iconst 1, 1) := by decide +kernel
theorem dX3_seesSigned_69 : decode cX3_seesSigned 69 = .ok (.goto 4, 3) := by decide +kernel
theorem dX3_seesSigned_72 : decode cX3_seesSigned 72 = .ok (.iconst 0, 1) := by decide +kernel
theorem dX3_seesSigned_73 : decode cX3_seesSigned 73 = .ok (.ireturn, 1) := by decide +kernel
theorem dX3_readItem_0 : decode cX3_readItem 0 = .ok (.aload_n 0, 1) := by decide +kernel
theorem dX3_readItem_1 : decode cX3_readItem 1 = .ok (.ldc 73, 2) := by decide +kernel
theorem dX3_readItem_3 : decode cX3_readItem 3 = .ok (.invokevirtual 59, 3) := by decide +kernel
theorem dX3_readItem_6 : decode cX3_readItem 6 = .ok (.ifCond .eq 9, 3) := by decide +kernel
theorem dX3_readItem_9 : decode cX3_readItem 9 = .ok (.aload_n 0, 1) := by decide +kernel
theorem dX3_readItem_10 : decode cX3_readItem 10 = .ok (.aload_n 1, 1) := by decide +kernel
theorem dX3_readItem_11 : decode cX3_readItem 11 = .ok (.invokevirtual 75, 3) := by decide +kernel
theorem dX3_readItem_14 : decode cX3_readItem 14 = .ok (.ireturn, 1) := by decide +kernel
theorem dX3_readItem_15 : decode cX3_readItem 15 = .ok (.aload_n 0, 1) := by decide +kernel
theorem dX3_readItem_16 : decode cX3_readItem 16 = .ok (.ldc 78, 2) := by decide +kernel
theorem dX3_readItem_18 : decode cX3_readItem 18 = .ok (.invokevirtual 59, 3) := by decide +kernel
theorem dX3_readItem_21 : decode cX3_readItem 21 = .ok (.ifCond .eq 9, 3) := by decide +kernel
theorem dX3_readItem_24 : decode cX3_readItem 24 = .ok (.aload_n 0, 1) := by decide +kernel
theorem dX3_readItem_25 : decode cX3_readItem 25 = .ok (.aload_n 1, 1) := by decide +kernel
theorem dX3_readItem_26 : decode cX3_readItem 26 = .ok (.invokevirtual 80, 3) := by decide +kernel
theorem dX3_readItem_29 : decode cX3_readItem 29 = .ok (.ireturn, 1) := by decide +kernel
theorem dX3_readItem_30 : decode cX3_readItem 30 = .ok (.aload_n 0, 1) := by decide +kernel
theorem dX3_readItem_31 : decode cX3_readItem 31 = .ok (.invokevirtual 83, 3) := by decide +kernel
theorem dX3_readItem_34 : decode cX3_readItem 34 = .ok (.istore_n 2, 1) := by decide +kernel
theorem dX3_readItem_35 : decode cX3_readItem 35 = .ok (.iload_n 2, 1) := by decide +kernel
theorem dX3_readItem_36 : decode cX3_readItem 36 = .ok (.ifCond .lt 16, 3) := by decide +kernel
theorem dX3_readItem_39 : decode cX3_readItem 39 = .ok (.aload_n 0, 1) := by decide +kernel
theorem dX3_readItem_40 : decode cX3_readItem 40 = .ok (.aload_n 1, 1) := by decide +kernel
theorem dX3_readItem_41 : decode cX3_readItem 41 = .ok (.iload_n 2, 1) := by decide +kernel
theorem dX3_readItem_42 : decode cX3_readItem 42 = .ok (.invokevirtual 86, 3) := by decide +kernel
theorem dX3_readItem_45 : decode cX3_readItem 45 = .ok (.ifCond .eq 7, 3) := by decide +kernel
theorem dX3_readItem_48 : decode cX3_readItem 48 = .ok (.iconst 1, 1) := by decide +kernel
theorem dX3_readItem_49 : decode cX3_readItem 49 = .ok (.goto 4, 3) := by decide +kernel
theorem dX3_readItem_52 : decode cX3_readItem 52 = .ok (.iconst 0, 1) := by decide +kernel
theorem dX3_readItem_53 : decode cX3_readItem 53 = .ok (.ireturn, 1) := by decide +kernel
theorem dX3_readLetters_0 : decode cX3_readLetters 0 = .ok (.aload_n 0, 1) := by decide +kernel
theorem dX3_readLetters_1 : decode cX3_readLetters 1 = .ok (.invokevirtual 31, 3) := by decide +kernel
theorem dX3_readLetters_4 : decode cX3_readLetters 4 = .ok (.aload_n 0, 1) := by decide +kernel
theorem dX3_readLetters_5 : decode cX3_readLetters 5 = .ok (.iconst 1, 1) := by decide +kernel
theorem dX3_readLetters_6 : decode cX3_readLetters 6 = .ok (.iconst 4, 1) := by decide +kernel
theorem dX3_readLetters_7 : decode cX3_readLetters 7 = .ok (.invokevirtual 90, 3) := by decide +kernel
theorem dX3_readLetters_10 : decode cX3_readLetters 10 = .ok (.ifCond .eq 17, 3) := by decide +kernel
theorem dX3_readLetters_13 : decode cX3_readLetters 13 = .ok (.aload_n 1, 1) := by decide +kernel
theorem dX3_readLetters_14 : decode cX3_readLetters 14 = .ok (.aload_n 0, 1) := by decide +kernel
theorem dX3_readLetters_15 : decode cX3_readLetters 15 = .ok (.getfield 28, 3) := by decide +kernel
theorem dX3_readLetters_18 : decode cX3_readLetters 18 = .ok (.invokevirtual 94, 3) := by decide +kernel
theorem dX3_readLetters_21 : decode cX3_readLetters 21 = .ok (.sipush 4096, 3) := by decide +kernel
theorem dX3_readLetters_24 : decode cX3_readLetters 24 = .ok (.if_icmp .le 5, 3) := by decide +kernel
theorem dX3_readLetters_27 : decode cX3_readLetters 27 = .ok (.iconst 0, 1) := by decide +kernel
theorem dX3_readLetters_28 : decode cX3_readLetters 28 = .ok (.ireturn, 1) := by decide +kernel
theorem dX3_readLetters_29 : decode cX3_readLetters 29 = .ok (.aload_n 1, 1) := by decide +kernel
theorem dX3_readLetters_30 : decode cX3_readLetters 30 = .ok (.aload_n 0, 1) := by decide +kernel
theorem dX3_readLetters_31 : decode cX3_readLetters 31 = .ok (.getfield 28, 3) := by decide +kernel
theorem dX3_readLetters_34 : decode cX3_readLetters 34 = .ok (.invokevirtual 99, 3) := by decide +kernel
theorem dX3_readLetters_37 : decode cX3_readLetters 37 = .ok (.aload_n 0, 1) := by decide +kernel
theorem dX3_readLetters_38 : decode cX3_readLetters 38 = .ok (.invokevirtual 31, 3) := by decide +kernel
theorem dX3_readLetters_41 : decode cX3_readLetters 41 = .ok (.iconst 1, 1) := by decide +kernel
theorem dX3_readLetters_42 : decode cX3_readLetters 42 = .ok (.ireturn, 1) := by decide +kernel
theorem dX3_readBox_0 : decode cX3_readBox 0 = .ok (.aload_n 0, 1) := by decide +kernel
theorem dX3_readBox_1 : decode cX3_readBox 1 = .ok (.invokevirtual 31, 3) := by decide +kernel
theorem dX3_readBox_4 : decode cX3_readBox 4 = .ok (.aload_n 0, 1) := by decide +kernel
theorem dX3_readBox_5 : decode cX3_readBox 5 = .ok (.iconst 0, 1) := by decide +kernel
theorem dX3_readBox_6 : decode cX3_readBox 6 = .ok (.aload_n 1, 1) := by decide +kernel
theorem dX3_readBox_7 : decode cX3_readBox 7 = .ok (.getfield 103, 3) := by decide +kernel
theorem dX3_readBox_10 : decode cX3_readBox 10 = .ok (.iconst 1, 1) := by decide +kernel
theorem dX3_readBox_11 : decode cX3_readBox 11 = .ok (.isub, 1) := by decide +kernel
theorem dX3_readBox_12 : decode cX3_readBox 12 = .ok (.invokevirtual 90, 3) := by decide +kernel
theorem dX3_readBox_15 : decode cX3_readBox 15 = .ok (.ifCond .ne 5, 3) := by decide +kernel
theorem dX3_readBox_18 : decode cX3_readBox 18 = .ok (.iconst 0, 1) := by decide +kernel
theorem dX3_readBox_19 : decode cX3_readBox 19 = .ok (.ireturn, 1) := by decide +kernel
theorem dX3_readBox_20 : decode cX3_readBox 20 = .ok (.aload_n 0, 1) := by decide +kernel
theorem dX3_readBox_21 : decode cX3_readBox 21 = .ok (.getfield 28, 3) := by decide +kernel
theorem dX3_readBox_24 : decode cX3_readBox 24 = .ok (.istore_n 2, 1) := by decide +kernel
theorem dX3_readBox_25 : decode cX3_readBox 25 = .ok (.aload_n 0, 1) := by decide +kernel
theorem dX3_readBox_26 : decode cX3_readBox 26 = .ok (.invokevirtual 31, 3) := by decide +kernel
theorem dX3_readBox_29 : decode cX3_readBox 29 = .ok (.aload_n 0, 1) := by decide +kernel
theorem dX3_readBox_30 : decode cX3_readBox 30 = .ok (.bipush (-9), 2) := by decide +kernel
theorem dX3_readBox_32 : decode cX3_readBox 32 = .ok (.bipush 9, 2) := by decide +kernel
theorem dX3_readBox_34 : decode cX3_readBox 34 = .ok (.invokevirtual 106, 3) := by decide +kernel
theorem dX3_readBox_37 : decode cX3_readBox 37 = .ok (.ifCond .ne 5, 3) := by decide +kernel
theorem dX3_readBox_40 : decode cX3_readBox 40 = .ok (.iconst 0, 1) := by decide +kernel
theorem dX3_readBox_41 : decode cX3_readBox 41 = .ok (.ireturn, 1) := by decide +kernel
theorem dX3_readBox_42 : decode cX3_readBox 42 = .ok (.aload_n 0, 1) := by decide +kernel
theorem dX3_readBox_43 : decode cX3_readBox 43 = .ok (.getfield 28, 3) := by decide +kernel
theorem dX3_readBox_46 : decode cX3_readBox 46 = .ok (.istore_n 3, 1) := by decide +kernel
theorem dX3_readBox_47 : decode cX3_readBox 47 = .ok (.aload_n 0, 1) := by decide +kernel
theorem dX3_readBox_48 : decode cX3_readBox 48 = .ok (.invokevirtual 31, 3) := by decide +kernel
theorem dX3_readBox_51 : decode cX3_readBox 51 = .ok (.aload_n 0, 1) := by decide +kernel
theorem dX3_readBox_52 : decode cX3_readBox 52 = .ok (.iload_n 3, 1) := by decide +kernel
theorem dX3_readBox_53 : decode cX3_readBox 53 = .ok (.bipush 9, 2) := by decide +kernel
theorem dX3_readBox_55 : decode cX3_readBox 55 = .ok (.invokevirtual 106, 3) := by decide +kernel
theorem dX3_readBox_58 : decode cX3_readBox 58 = .ok (.ifCond .eq 19, 3) := by decide +kernel
theorem dX3_readBox_61 : decode cX3_readBox 61 = .ok (.aload_n 1, 1) := by decide +kernel
theorem dX3_readBox_62 : decode cX3_readBox 62 = .ok (.iload_n 2, 1) := by decide +kernel
theorem dX3_readBox_63 : decode cX3_readBox 63 = .ok (.iload_n 3, 1) := by decide +kernel
theorem dX3_readBox_64 : decode cX3_readBox 64 = .ok (.aload_n 0, 1) := by decide +kernel
theorem dX3_readBox_65 : decode cX3_readBox 65 = .ok (.getfield 28, 3) := by decide +kernel
theorem dX3_readBox_68 : decode cX3_readBox 68 = .ok (.invokevirtual 109, 3) := by decide +kernel
theorem dX3_readBox_71 : decode cX3_readBox 71 = .ok (.sipush 4096, 3) := by decide +kernel
theorem dX3_readBox_74 : decode cX3_readBox 74 = .ok (.if_icmp .le 5, 3) := by decide +kernel
theorem dX3_readBox_77 : decode cX3_readBox 77 = .ok (.iconst 0, 1) := by decide +kernel
theorem dX3_readBox_78 : decode cX3_readBox 78 = .ok (.ireturn, 1) := by decide +kernel
theorem dX3_readBox_79 : decode cX3_readBox 79 = .ok (.aload_n 1, 1) := by decide +kernel
theorem dX3_readBox_80 : decode cX3_readBox 80 = .ok (.iload_n 2, 1) := by decide +kernel
theorem dX3_readBox_81 : decode cX3_readBox 81 = .ok (.iload_n 3, 1) := by decide +kernel
theorem dX3_readBox_82 : decode cX3_readBox 82 = .ok (.aload_n 0, 1) := by decide +kernel
theorem dX3_readBox_83 : decode cX3_readBox 83 = .ok (.getfield 28, 3) := by decide +kernel
theorem dX3_readBox_86 : decode cX3_readBox 86 = .ok (.invokevirtual 113, 3) := by decide +kernel
theorem dX3_readBox_89 : decode cX3_readBox 89 = .ok (.aload_n 0, 1) := by decide +kernel
theorem dX3_readBox_90 : decode cX3_readBox 90 = .ok (.invokevirtual 31, 3) := by decide +kernel
theorem dX3_readBox_93 : decode cX3_readBox 93 = .ok (.iconst 1, 1) := by decide +kernel
theorem dX3_readBox_94 : decode cX3_readBox 94 = .ok (.ireturn, 1) := by decide +kernel
theorem dX3_readRow_0 : decode cX3_readRow 0 = .ok (.aload_n 1, 1) := by decide +kernel
theorem dX3_readRow_1 : decode cX3_readRow 1 = .ok (.getfield 117, 3) := by decide +kernel
theorem dX3_readRow_4 : decode cX3_readRow 4 = .ok (.bipush 8, 2) := by decide +kernel
theorem dX3_readRow_6 : decode cX3_readRow 6 = .ok (.if_icmp .lt 5, 3) := by decide +kernel
theorem dX3_readRow_9 : decode cX3_readRow 9 = .ok (.iconst 0, 1) := by decide +kernel
theorem dX3_readRow_10 : decode cX3_readRow 10 = .ok (.ireturn, 1) := by decide +kernel
theorem dX3_readRow_11 : decode cX3_readRow 11 = .ok (.aload_n 1, 1) := by decide +kernel
theorem dX3_readRow_12 : decode cX3_readRow 12 = .ok (.iload_n 2, 1) := by decide +kernel
theorem dX3_readRow_13 : decode cX3_readRow 13 = .ok (.iconst 0, 1) := by decide +kernel
theorem dX3_readRow_14 : decode cX3_readRow 14 = .ok (.iconst 1, 1) := by decide +kernel
theorem dX3_readRow_15 : decode cX3_readRow 15 = .ok (.invokevirtual 120, 3) := by decide +kernel
theorem dX3_readRow_18 : decode cX3_readRow 18 = .ok (.astore_n 3, 1) := by decide +kernel
theorem dX3_readRow_19 : decode cX3_readRow 19 = .ok (.aload_n 0, 1) := by decide +kernel
theorem dX3_readRow_20 : decode cX3_readRow 20 = .ok (.invokevirtual 31, 3) := by decide +kernel
theorem dX3_readRow_23 : decode cX3_readRow 23 = .ok (.iconst 0, 1) := by decide +kernel
theorem dX3_readRow_24 : decode cX3_readRow 24 = .ok (.istore 4, 2) := by decide +kernel
theorem dX3_readRow_26 : decode cX3_readRow 26 = .ok (.iload 4, 2) := by decide +kernel
theorem dX3_readRow_28 : decode cX3_readRow 28 = .ok (.aload_n 1, 1) := by decide +kernel
theorem dX3_readRow_29 : decode cX3_readRow 29 = .ok (.getfield 103, 3) := by decide +kernel
theorem dX3_readRow_32 : decode cX3_readRow 32 = .ok (.if_icmp .ge 37, 3) := by decide +kernel
theorem dX3_readRow_35 : decode cX3_readRow 35 = .ok (.aload_n 0, 1) := by decide +kernel
theorem dX3_readRow_36 : decode cX3_readRow 36 = .ok (.bipush (-9), 2) := by decide +kernel
theorem dX3_readRow_38 : decode cX3_readRow 38 = .ok (.bipush 9, 2) := by decide +kernel
theorem dX3_readRow_40 : decode cX3_readRow 40 = .ok (.invokevirtual 106, 3) := by decide +kernel
theorem dX3_readRow_43 : decode cX3_readRow 43 = .ok (.ifCond .ne 5, 3) := by decide +kernel
theorem dX3_readRow_46 : decode cX3_readRow 46 = .ok (.iconst 0, 1) := by decide +kernel
theorem dX3_readRow_47 : decode cX3_readRow 47 = .ok (.ireturn, 1) := by decide +kernel
theorem dX3_readRow_48 : decode cX3_readRow 48 = .ok (.aload_n 3, 1) := by decide +kernel
theorem dX3_readRow_49 : decode cX3_readRow 49 = .ok (.getfield 124, 3) := by decide +kernel
theorem dX3_readRow_52 : decode cX3_readRow 52 = .ok (.iload 4, 2) := by decide +kernel
theorem dX3_readRow_54 : decode cX3_readRow 54 = .ok (.aload_n 0, 1) := by decide +kernel
theorem dX3_readRow_55 : decode cX3_readRow 55 = .ok (.getfield 28, 3) := by decide +kernel
theorem dX3_readRow_58 : decode cX3_readRow 58 = .ok (.iastore, 1) := by decide +kernel
theorem dX3_readRow_59 : decode cX3_readRow 59 = .ok (.aload_n 0, 1) := by decide +kernel
theorem dX3_readRow_60 : decode cX3_readRow 60 = .ok (.invokevirtual 31, 3) := by decide +kernel
theorem dX3_readRow_63 : decode cX3_readRow 63 = .ok (.iinc 4 1, 3) := by decide +kernel
theorem dX3_readRow_66 : decode cX3_readRow 66 = .ok (.goto (-40), 3) := by decide +kernel
theorem dX3_readRow_69 : decode cX3_readRow 69 = .ok (.aload_n 0, 1) := by decide +kernel
theorem dX3_readRow_70 : decode cX3_readRow 70 = .ok (.ldc 130, 2) := by decide +kernel
theorem dX3_readRow_72 : decode cX3_readRow 72 = .ok (.invokevirtual 59, 3) := by decide +kernel
theorem dX3_readRow_75 : decode cX3_readRow 75 = .ok (.ifCond .eq 34, 3) := by decide +kernel
theorem dX3_readRow_78 : decode cX3_readRow 78 = .ok (.aload_n 0, 1) := by decide +kernel
theorem dX3_readRow_79 : decode cX3_readRow 79 = .ok (.invokevirtual 31, 3) := by decide +kernel
theorem dX3_readRow_82 : decode cX3_readRow 82 = .ok (.aload_n 0, 1) := by decide +kernel
theorem dX3_readRow_83 : decode cX3_readRow 83 = .ok (.sipush (-999), 3) := by decide +kernel
theorem dX3_readRow_86 : decode cX3_readRow 86 = .ok (.sipush 999, 3) := by decide +kernel
theorem dX3_readRow_89 : decode cX3_readRow 89 = .ok (.invokevirtual 106, 3) := by decide +kernel
theorem dX3_readRow_92 : decode cX3_readRow 92 = .ok (.ifCond .ne 5, 3) := by decide +kernel
theorem dX3_readRow_95 : decode cX3_readRow 95 = .ok (.iconst 0, 1) := by decide +kernel
theorem dX3_readRow_96 : decode cX3_readRow 96 = .ok (.ireturn, 1) := by decide +kernel
theorem dX3_readRow_97 : decode cX3_readRow 97 = .ok (.aload_n 3, 1) := by decide +kernel
theorem dX3_readRow_98 : decode cX3_readRow 98 = .ok (.aload_n 0, 1) := by decide +kernel
theorem dX3_readRow_99 : decode cX3_readRow 99 = .ok (.getfield 28, 3) := by decide +kernel
theorem dX3_readRow_102 : decode cX3_readRow 102 = .ok (.putfield 132, 3) := by decide +kernel
theorem dX3_readRow_105 : decode cX3_readRow 105 = .ok (.aload_n 0, 1) := by decide +kernel
theorem dX3_readRow_106 : decode cX3_readRow 106 = .ok (.invokevirtual 31, 3) := by decide +kernel
theorem dX3_readRow_109 : decode cX3_readRow 109 = .ok (.aload_n 0, 1) := by decide +kernel
theorem dX3_readRow_110 : decode cX3_readRow 110 = .ok (.ldc 134, 2) := by decide +kernel
theorem dX3_readRow_112 : decode cX3_readRow 112 = .ok (.invokevirtual 59, 3) := by decide +kernel
theorem dX3_readRow_115 : decode cX3_readRow 115 = .ok (.ifCond .eq 31, 3) := by decide +kernel
theorem dX3_readRow_118 : decode cX3_readRow 118 = .ok (.aload_n 0, 1) := by decide +kernel
theorem dX3_readRow_119 : decode cX3_readRow 119 = .ok (.invokevirtual 31, 3) := by decide +kernel
theorem dX3_readRow_122 : decode cX3_readRow 122 = .ok (.aload_n 0, 1) := by decide +kernel
theorem dX3_readRow_123 : decode cX3_readRow 123 = .ok (.iconst 1, 1) := by decide +kernel
theorem dX3_readRow_124 : decode cX3_readRow 124 = .ok (.bipush 99, 2) := by decide +kernel
theorem dX3_readRow_126 : decode cX3_readRow 126 = .ok (.invokevirtual 90, 3) := by decide +kernel
theorem dX3_readRow_129 : decode cX3_readRow 129 = .ok (.ifCond .ne 5, 3) := by decide +kernel
theorem dX3_readRow_132 : decode cX3_readRow 132 = .ok (.iconst 0, 1) := by decide +kernel
theorem dX3_readRow_133 : decode cX3_readRow 133 = .ok (.ireturn, 1) := by decide +kernel
theorem dX3_readRow_134 : decode cX3_readRow 134 = .ok (.aload_n 3, 1) := by decide +kernel
theorem dX3_readRow_135 : decode cX3_readRow 135 = .ok (.aload_n 0, 1) := by decide +kernel
theorem dX3_readRow_136 : decode cX3_readRow 136 = .ok (.getfield 28, 3) := by decide +kernel
theorem dX3_readRow_139 : decode cX3_readRow 139 = .ok (.putfield 136, 3) := by decide +kernel
theorem dX3_readRow_142 : decode cX3_readRow 142 = .ok (.aload_n 0, 1) := by decide +kernel
theorem dX3_readRow_143 : decode cX3_readRow 143 = .ok (.invokevirtual 31, 3) := by decide +kernel
theorem dX3_readRow_146 : decode cX3_readRow 146 = .ok (.iconst 1, 1) := by decide +kernel
theorem dX3_readRow_147 : decode cX3_readRow 147 = .ok (.ireturn, 1) := by decide +kernel
theorem dX4_begin_0 : decode cX4_begin 0 = .ok (.aload_n 0, 1) := by decide +kernel
theorem dX4_begin_1 : decode cX4_begin 1 = .ok (.iload_n 1, 1) := by decide +kernel
theorem dX4_begin_2 : decode cX4_begin 2 = .ok (.putfield 9, 3) := by decide +kernel
theorem dX4_begin_5 : decode cX4_begin 5 = .ok (.aload_n 0, 1) := by decide +kernel
theorem dX4_begin_6 : decode cX4_begin 6 = .ok (.iload_n 2, 1) := by decide +kernel
theorem dX4_begin_7 : decode cX4_begin 7 = .ok (.putfield 15, 3) := by decide +kernel
theorem dX4_begin_10 : decode cX4_begin 10 = .ok (.aload_n 0, 1) := by decide +kernel
theorem dX4_begin_11 : decode cX4_begin 11 = .ok (.iload_n 3, 1) := by decide +kernel
theorem dX4_begin_12 : decode cX4_begin 12 = .ok (.putfield 18, 3) := by decide +kernel
theorem dX4_begin_15 : decode cX4_begin 15 = .ok (.iconst 0, 1) := by decide +kernel
theorem dX4_begin_16 : decode cX4_begin 16 = .ok (.istore 4, 2) := by decide +kernel
theorem dX4_begin_18 : decode cX4_begin 18 = .ok (.iload 4, 2) := by decide +kernel
theorem dX4_begin_20 : decode cX4_begin 20 = .ok (.iconst 4, 1) := by decide +kernel
theorem dX4_begin_21 : decode cX4_begin 21 = .ok (.if_icmp .ge 17, 3) := by decide +kernel
theorem dX4_begin_24 : decode cX4_begin 24 = .ok (.aload_n 0, 1) := by decide +kernel
theorem dX4_begin_25 : decode cX4_begin 25 = .ok (.getfield 21, 3) := by decide +kernel
theorem dX4_begin_28 : decode cX4_begin 28 = .ok (.iload 4, 2) := by decide +kernel
theorem dX4_begin_30 : decode cX4_begin 30 = .ok (.iconst 0, 1) := by decide +kernel
theorem dX4_begin_31 : decode cX4_begin 31 = .ok (.iastore, 1) := by decide +kernel
theorem dX4_begin_32 : decode cX4_begin 32 = .ok (.iinc 4 1, 3) := by decide +kernel
theorem dX4_begin_35 : decode cX4_begin 35 = .ok (.goto (-17), 3) := by decide +kernel
theorem dX4_begin_38 : decode cX4_begin 38 = .ok (.return_, 1) := by decide +kernel
theorem dX4_take_0 : decode cX4_take 0 = .ok (.aload_n 0, 1) := by decide +kernel
theorem dX4_take_1 : decode cX4_take 1 = .ok (.aload_n 1, 1) := by decide +kernel
theorem dX4_take_2 : decode cX4_take 2 = .ok (.getfield 9, 3) := by decide +kernel
theorem dX4_take_5 : decode cX4_take 5 = .ok (.putfield 9, 3) := by decide +kernel
theorem dX4_take_8 : decode cX4_take 8 = .ok (.aload_n 0, 1) := by decide +kernel
theorem dX4_take_9 : decode cX4_take 9 = .ok (.aload_n 1, 1) := by decide +kernel
theorem dX4_take_10 : decode cX4_take 10 = .ok (.getfield 15, 3) := by decide +kernel
theorem dX4_take_13 : decode cX4_take 13 = .ok (.putfield 15, 3) := by decide +kernel
theorem dX4_take_16 : decode cX4_take 16 = .ok (.aload_n 0, 1) := by decide +kernel
theorem dX4_take_17 : decode cX4_take 17 = .ok (.aload_n 1, 1) := by decide +kernel
theorem dX4_take_18 : decode cX4_take 18 = .ok (.getfield 18, 3) := by decide +kernel
theorem dX4_take_21 : decode cX4_take 21 = .ok (.putfield 18, 3) := by decide +kernel
theorem dX4_take_24 : decode cX4_take 24 = .ok (.aload_n 1, 1) := by decide +kernel
theorem dX4_take_25 : decode cX4_take 25 = .ok (.getfield 21, 3) := by decide +kernel
theorem dX4_take_28 : decode cX4_take 28 = .ok (.iconst 0, 1) := by decide +kernel
theorem dX4_take_29 : decode cX4_take 29 = .ok (.aload_n 0, 1) := by decide +kernel
theorem dX4_take_30 : decode cX4_take 30 = .ok (.getfield 21, 3) := by decide +kernel
theorem dX4_take_33 : decode cX4_take 33 = .ok (.iconst 0, 1) := by decide +kernel
theorem dX4_take_34 : decode cX4_take 34 = .ok (.iconst 4, 1) := by decide +kernel
theorem dX4_take_35 : decode cX4_take 35 = .ok (.invokestatic 25, 3) := by decide +kernel
theorem dX4_take_38 : decode cX4_take 38 = .ok (.return_, 1) := by decide +kernel
theorem dX4_takesPart_0 : decode cX4_takesPart 0 = .ok (.iload_n 0, 1) := by decide +kernel
theorem dX4_takesPart_1 : decode cX4_takesPart 1 = .ok (.tableswitch 114 0 6 #[43, 59, 79, 96, 96, 96, 96], 43) := by decide +kernel
theorem dX4_takesPart_44 : decode cX4_takesPart 44 = .ok (.iload_n 1, 1) := by decide +kernel
theorem dX4_takesPart_45 : decode cX4_takesPart 45 = .ok (.ifCond .lt 13, 3) := by decide +kernel
theorem dX4_takesPart_48 : decode cX4_takesPart 48 = .ok (.iload_n 1, 1) := by decide +kernel
theorem dX4_takesPart_49 : decode cX4_takesPart 49 = .ok (.bipush 6, 2) := by decide +kernel
theorem dX4_takesPart_51 : decode cX4_takesPart 51 = .ok (.if_icmp .ge 7, 3) := by decide +kernel
theorem dX4_takesPart_54 : decode cX4_takesPart 54 = .ok (.iconst 1, 1) := by decide +kernel
theorem dX4_takesPart_55 : decode cX4_takesPart 55 = .ok (.goto 4, 3) := by decide +kernel
theorem dX4_takesPart_58 : decode cX4_takesPart 58 = .ok (.iconst 0, 1) := by decide +kernel
theorem dX4_takesPart_59 : decode cX4_takesPart 59 = .ok (.ireturn, 1) := by decide +kernel
theorem dX4_takesPart_60 : decode cX4_takesPart 60 = .ok (.iload_n 1, 1) := by decide +kernel
theorem dX4_takesPart_61 : decode cX4_takesPart 61 = .ok (.sipush (-999), 3) := by decide +kernel
theorem dX4_takesPart_64 : decode cX4_takesPart 64 = .ok (.if_icmp .lt 14, 3) := by decide +kernel
theorem dX4_takesPart_67 : decode cX4_takesPart 67 = .ok (.iload_n 1, 1) := by decide +kernel
theorem dX4_takesPart_68 : decode cX4_takesPart 68 = .ok (.sipush 999, 3) := by decide +kernel
theorem dX4_takesPart_71 : decode cX4_takesPart 71 = .ok (.if_icmp .gt 7, 3) := by decide +kernel
theorem dX4_takesPart_74 : decode cX4_takesPart 74 = .ok (.iconst 1, 1) := by decide +kernel
theorem dX4_takesPart_75 : decode cX4_takesPart 75 = .ok (.goto 4, 3) := by decide +kernel
theorem dX4_takesPart_78 : decode cX4_takesPart 78 = .ok (.iconst 0, 1) := by decide +kernel
theorem dX4_takesPart_79 : decode cX4_takesPart 79 = .ok (.ireturn, 1) := by decide +kernel
theorem dX4_takesPart_80 : decode cX4_takesPart 80 = .ok (.iload_n 1, 1) := by decide +kernel
theorem dX4_takesPart_81 : decode cX4_takesPart 81 = .ok (.iconst 1, 1) := by decide +kernel
theorem dX4_takesPart_82 : decode cX4_takesPart 82 = .ok (.if_icmp .lt 13, 3) := by decide +kernel
theorem dX4_takesPart_85 : decode cX4_takesPart 85 = .ok (.iload_n 1, 1) := by decide +kernel
theorem dX4_takesPart_86 : decode cX4_takesPart 86 = .ok (.bipush 99, 2) := by decide +kernel
theorem dX4_takesPart_88 : decode cX4_takesPart 88 = .ok (.if_icmp .gt 7, 3) := by decide +kernel
theorem dX4_takesPart_91 : decode cX4_takesPart 91 = .ok (.iconst 1, 1) := by decide +kernel
theorem dX4_takesPart_92 : decode cX4_takesPart 92 = .ok (.goto 4, 3) := by decide +kernel
theorem dX4_takesPart_95 : decode cX4_takesPart 95 = .ok (.iconst 0, 1) := by decide +kernel
theorem dX4_takesPart_96 : decode cX4_takesPart 96 = .ok (.ireturn, 1) := by decide +kernel
theorem dX4_takesPart_97 : decode cX4_takesPart 97 = .ok (.iload_n 1, 1) := by decide +kernel
theorem dX4_takesPart_98 : decode cX4_takesPart 98 = .ok (.bipush (-9), 2) := by decide +kernel
theorem dX4_takesPart_100 : decode cX4_takesPart 100 = .ok (.if_icmp .lt 13, 3) := by decide +kernel
theorem dX4_takesPart_103 : decode cX4_takesPart 103 = .ok (.iload_n 1, 1) := by decide +kernel
theorem dX4_takesPart_104 : decode cX4_takesPart 104 = .ok (.bipush 9, 2) := by decide +kernel
theorem dX4_takesPart_106 : decode cX4_takesPart 106 = .ok (.if_icmp .gt 7, 3) := by decide +kernel
theorem dX4_takesPart_109 : decode cX4_takesPart 109 = .ok (.iconst 1, 1) := by decide +kernel
theorem dX4_takesPart_110 : decode cX4_takesPart 110 = .ok (.goto 4, 3) := by decide +kernel
theorem dX4_takesPart_113 : decode cX4_takesPart 113 = .ok (.iconst 0, 1) := by decide +kernel
theorem dX4_takesPart_114 : decode cX4_takesPart 114 = .ok (.ireturn, 1) := by decide +kernel
theorem dX4_takesPart_115 : decode cX4_takesPart 115 = .ok (.iconst 0, 1) := by decide +kernel
theorem dX4_takesPart_116 : decode cX4_takesPart 116 = .ok (.ireturn, 1) := by decide +kernel
theorem dX4_part_0 : decode cX4_part 0 = .ok (.iload_n 1, 1) := by decide +kernel
theorem dX4_part_1 : decode cX4_part 1 = .ok (.tableswitch 42 0 2 #[27, 32, 37], 27) := by decide +kernel
theorem dX4_part_28 : decode cX4_part 28 = .ok (.aload_n 0, 1) := by decide +kernel
theorem dX4_part_29 : decode cX4_part 29 = .ok (.getfield 9, 3) := by decide +kernel
theorem dX4_part_32 : decode cX4_part 32 = .ok (.ireturn, 1) := by decide +kernel
theorem dX4_part_33 : decode cX4_part 33 = .ok (.aload_n 0, 1) := by decide +kernel
theorem dX4_part_34 : decode cX4_part 34 = .ok (.getfield 15, 3) := by decide +kernel
theorem dX4_part_37 : decode cX4_part 37 = .ok (.ireturn, 1) := by decide +kernel
theorem dX4_part_38 : decode cX4_part 38 = .ok (.aload_n 0, 1) := by decide +kernel
theorem dX4_part_39 : decode cX4_part 39 = .ok (.getfield 18, 3) := by decide +kernel
theorem dX4_part_42 : decode cX4_part 42 = .ok (.ireturn, 1) := by decide +kernel
theorem dX4_part_43 : decode cX4_part 43 = .ok (.iload_n 1, 1) := by decide +kernel
theorem dX4_part_44 : decode cX4_part 44 = .ok (.iconst 3, 1) := by decide +kernel
theorem dX4_part_45 : decode cX4_part 45 = .ok (.if_icmp .lt 20, 3) := by decide +kernel
theorem dX4_part_48 : decode cX4_part 48 = .ok (.iload_n 1, 1) := by decide +kernel
theorem dX4_part_49 : decode cX4_part 49 = .ok (.bipush 7, 2) := by decide +kernel
theorem dX4_part_51 : decode cX4_part 51 = .ok (.if_icmp .ge 14, 3) := by decide +kernel
theorem dX4_part_54 : decode cX4_part 54 = .ok (.aload_n 0, 1) := by decide +kernel
theorem dX4_part_55 : decode cX4_part 55 = .ok (.getfield 21, 3) := by decide +kernel
theorem dX4_part_58 : decode cX4_part 58 = .ok (.iload_n 1, 1) := by decide +kernel
theorem dX4_part_59 : decode cX4_part 59 = .ok (.iconst 3, 1) := by decide +kernel
theorem dX4_part_60 : decode cX4_part 60 = .ok (.isub, 1) := by decide +kernel
theorem dX4_part_61 : decode cX4_part 61 = .ok (.iaload, 1) := by decide +kernel
theorem dX4_part_62 : decode cX4_part 62 = .ok (.goto 4, 3) := by decide +kernel
theorem dX4_part_65 : decode cX4_part 65 = .ok (.iconst 0, 1) := by decide +kernel
theorem dX4_part_66 : decode cX4_part 66 = .ok (.ireturn, 1) := by decide +kernel
theorem dX4_setPart_0 : decode cX4_setPart 0 = .ok (.iload_n 1, 1) := by decide +kernel
theorem dX4_setPart_1 : decode cX4_setPart 1 = .ok (.tableswitch 51 0 2 #[27, 35, 43], 27) := by decide +kernel
theorem dX4_setPart_28 : decode cX4_setPart 28 = .ok (.aload_n 0, 1) := by decide +kernel
theorem dX4_setPart_29 : decode cX4_setPart 29 = .ok (.iload_n 2, 1) := by decide +kernel
theorem dX4_setPart_30 : decode cX4_setPart 30 = .ok (.putfield 9, 3) := by decide +kernel
theorem dX4_setPart_33 : decode cX4_setPart 33 = .ok (.goto 39, 3) := by decide +kernel
theorem dX4_setPart_36 : decode cX4_setPart 36 = .ok (.aload_n 0, 1) := by decide +kernel
theorem dX4_setPart_37 : decode cX4_setPart 37 = .ok (.iload_n 2, 1) := by decide +kernel
theorem dX4_setPart_38 : decode cX4_setPart 38 = .ok (.putfield 15, 3) := by decide +kernel
theorem dX4_setPart_41 : decode cX4_setPart 41 = .ok (.goto 31, 3) := by decide +kernel
theorem dX4_setPart_44 : decode cX4_setPart 44 = .ok (.aload_n 0, 1) := by decide +kernel
theorem dX4_setPart_45 : decode cX4_setPart 45 = .ok (.iload_n 2, 1) := by decide +kernel
theorem dX4_setPart_46 : decode cX4_setPart 46 = .ok (.putfield 18, 3) := by decide +kernel
theorem dX4_setPart_49 : decode cX4_setPart 49 = .ok (.goto 23, 3) := by decide +kernel
theorem dX4_setPart_52 : decode cX4_setPart 52 = .ok (.iload_n 1, 1) := by decide +kernel
theorem dX4_setPart_53 : decode cX4_setPart 53 = .ok (.iconst 3, 1) := by decide +kernel
theorem dX4_setPart_54 : decode cX4_setPart 54 = .ok (.if_icmp .lt 18, 3) := by decide +kernel
theorem dX4_setPart_57 : decode cX4_setPart 57 = .ok (.iload_n 1, 1) := by decide +kernel
theorem dX4_setPart_58 : decode cX4_setPart 58 = .ok (.bipush 7, 2) := by decide +kernel
theorem dX4_setPart_60 : decode cX4_setPart 60 = .ok (.if_icmp .ge 12, 3) := by decide +kernel
theorem dX4_setPart_63 : decode cX4_setPart 63 = .ok (.aload_n 0, 1) := by decide +kernel
theorem dX4_setPart_64 : decode cX4_setPart 64 = .ok (.getfield 21, 3) := by decide +kernel
theorem dX4_setPart_67 : decode cX4_setPart 67 = .ok (.iload_n 1, 1) := by decide +kernel
theorem dX4_setPart_68 : decode cX4_setPart 68 = .ok (.iconst 3, 1) := by decide +kernel
theorem dX4_setPart_69 : decode cX4_setPart 69 = .ok (.isub, 1) := by decide +kernel
theorem dX4_setPart_70 : decode cX4_setPart 70 = .ok (.iload_n 2, 1) := by decide +kernel
theorem dX4_setPart_71 : decode cX4_setPart 71 = .ok (.iastore, 1) := by decide +kernel
theorem dX4_setPart_72 : decode cX4_setPart 72 = .ok (.return_, 1) := by decide +kernel
theorem dX4_isUnder_0 : decode cX4_isUnder 0 = .ok (.iload_n 0, 1) := by decide +kernel
theorem dX4_isUnder_1 : decode cX4_isUnder 1 = .ok (.istore_n 2, 1) := by decide +kernel
theorem dX4_isUnder_2 : decode cX4_isUnder 2 = .ok (.iconst 0, 1) := by decide +kernel
theorem dX4_isUnder_3 : decode cX4_isUnder 3 = .ok (.istore_n 3, 1) := by decide +kernel
theorem dX4_isUnder_4 : decode cX4_isUnder 4 = .ok (.iload_n 3, 1) := by decide +kernel
theorem dX4_isUnder_5 : decode cX4_isUnder 5 = .ok (.bipush 6, 2) := by decide +kernel
theorem dX4_isUnder_7 : decode cX4_isUnder 7 = .ok (.if_icmp .ge 32, 3) := by decide +kernel
theorem dX4_isUnder_10 : decode cX4_isUnder 10 = .ok (.iload_n 2, 1) := by decide +kernel
theorem dX4_isUnder_11 : decode cX4_isUnder 11 = .ok (.ifCond .lt 28, 3) := by decide +kernel
theorem dX4_isUnder_14 : decode cX4_isUnder 14 = .ok (.iload_n 2, 1) := by decide +kernel
theorem dX4_isUnder_15 : decode cX4_isUnder 15 = .ok (.bipush 6, 2) := by decide +kernel
theorem dX4_isUnder_17 : decode cX4_isUnder 17 = .ok (.if_icmp .ge 22, 3) := by decide +kernel
theorem dX4_isUnder_20 : decode cX4_isUnder 20 = .ok (.iload_n 2, 1) := by decide +kernel
theorem dX4_isUnder_21 : decode cX4_isUnder 21 = .ok (.iload_n 1, 1) := by decide +kernel
theorem dX4_isUnder_22 : decode cX4_isUnder 22 = .ok (.if_icmp .ne 5, 3) := by decide +kernel
theorem dX4_isUnder_25 : decode cX4_isUnder 25 = .ok (.iconst 1, 1) := by decide +kernel
theorem dX4_isUnder_26 : decode cX4_isUnder 26 = .ok (.ireturn, 1) := by decide +kernel
theorem dX4_isUnder_27 : decode cX4_isUnder 27 = .ok (.getstatic 31, 3) := by decide +kernel
theorem dX4_isUnder_30 : decode cX4_isUnder 30 = .ok (.iload_n 2, 1) := by decide +kernel
theorem dX4_isUnder_31 : decode cX4_isUnder 31 = .ok (.iaload, 1) := by decide +kernel
theorem dX4_isUnder_32 : decode cX4_isUnder 32 = .ok (.istore_n 2, 1) := by decide +kernel
theorem dX4_isUnder_33 : decode cX4_isUnder 33 = .ok (.iinc 3 1, 3) := by decide +kernel
theorem dX4_isUnder_36 : decode cX4_isUnder 36 = .ok (.goto (-32), 3) := by decide +kernel
theorem dX4_isUnder_39 : decode cX4_isUnder 39 = .ok (.iconst 0, 1) := by decide +kernel
theorem dX4_isUnder_40 : decode cX4_isUnder 40 = .ok (.ireturn, 1) := by decide +kernel
theorem dX4_sumIn_0 : decode cX4_sumIn 0 = .ok (.iconst 0, 1) := by decide +kernel
theorem dX4_sumIn_1 : decode cX4_sumIn 1 = .ok (.istore_n 3, 1) := by decide +kernel
theorem dX4_sumIn_2 : decode cX4_sumIn 2 = .ok (.iconst 0, 1) := by decide +kernel
theorem dX4_sumIn_3 : decode cX4_sumIn 3 = .ok (.istore 4, 2) := by decide +kernel
theorem dX4_sumIn_5 : decode cX4_sumIn 5 = .ok (.iload 4, 2) := by decide +kernel
theorem dX4_sumIn_7 : decode cX4_sumIn 7 = .ok (.iload_n 2, 1) := by decide +kernel
theorem dX4_sumIn_8 : decode cX4_sumIn 8 = .ok (.if_icmp .ge 24, 3) := by decide +kernel
theorem dX4_sumIn_11 : decode cX4_sumIn 11 = .ok (.iload_n 3, 1) := by decide +kernel
theorem dX4_sumIn_12 : decode cX4_sumIn 12 = .ok (.aload_n 0, 1) := by decide +kernel
theorem dX4_sumIn_13 : decode cX4_sumIn 13 = .ok (.getfield 21, 3) := by decide +kernel
theorem dX4_sumIn_16 : decode cX4_sumIn 16 = .ok (.iload 4, 2) := by decide +kernel
theorem dX4_sumIn_18 : decode cX4_sumIn 18 = .ok (.iaload, 1) := by decide +kernel
theorem dX4_sumIn_19 : decode cX4_sumIn 19 = .ok (.aload_n 1, 1) := by decide +kernel
theorem dX4_sumIn_20 : decode cX4_sumIn 20 = .ok (.iload 4, 2) := by decide +kernel
theorem dX4_sumIn_22 : decode cX4_sumIn 22 = .ok (.iaload, 1) := by decide +kernel
theorem dX4_sumIn_23 : decode cX4_sumIn 23 = .ok (.imul, 1) := by decide +kernel
theorem dX4_sumIn_24 : decode cX4_sumIn 24 = .ok (.iadd, 1) := by decide +kernel
theorem dX4_sumIn_25 : decode cX4_sumIn 25 = .ok (.istore_n 3, 1) := by decide +kernel
theorem dX4_sumIn_26 : decode cX4_sumIn 26 = .ok (.iinc 4 1, 3) := by decide +kernel
theorem dX4_sumIn_29 : decode cX4_sumIn 29 = .ok (.goto (-24), 3) := by decide +kernel
theorem dX4_sumIn_32 : decode cX4_sumIn 32 = .ok (.iload_n 3, 1) := by decide +kernel
theorem dX4_sumIn_33 : decode cX4_sumIn 33 = .ok (.ireturn, 1) := by decide +kernel
theorem dX4_sumInPacked_0 : decode cX4_sumInPacked 0 = .ok (.iconst 0, 1) := by decide +kernel
theorem dX4_sumInPacked_1 : decode cX4_sumInPacked 1 = .ok (.istore_n 3, 1) := by decide +kernel
theorem dX4_sumInPacked_2 : decode cX4_sumInPacked 2 = .ok (.iconst 0, 1) := by decide +kernel
theorem dX4_sumInPacked_3 : decode cX4_sumInPacked 3 = .ok (.istore 4, 2) := by decide +kernel
theorem dX4_sumInPacked_5 : decode cX4_sumInPacked 5 = .ok (.iload 4, 2) := by decide +kernel
theorem dX4_sumInPacked_7 : decode cX4_sumInPacked 7 = .ok (.iload_n 2, 1) := by decide +kernel
theorem dX4_sumInPacked_8 : decode cX4_sumInPacked 8 = .ok (.if_icmp .ge 26, 3) := by decide +kernel
theorem dX4_sumInPacked_11 : decode cX4_sumInPacked 11 = .ok (.iload_n 3, 1) := by decide +kernel
theorem dX4_sumInPacked_12 : decode cX4_sumInPacked 12 = .ok (.aload_n 0, 1) := by decide +kernel
theorem dX4_sumInPacked_13 : decode cX4_sumInPacked 13 = .ok (.getfield 21, 3) := by decide +kernel
theorem dX4_sumInPacked_16 : decode cX4_sumInPacked 16 = .ok (.iload 4, 2) := by decide +kernel
theorem dX4_sumInPacked_18 : decode cX4_sumInPacked 18 = .ok (.iaload, 1) := by decide +kernel
theorem dX4_sumInPacked_19 : decode cX4_sumInPacked 19 = .ok (.iload_n 1, 1) := by decide +kernel
theorem dX4_sumInPacked_20 : decode cX4_sumInPacked 20 = .ok (.iload 4, 2) := by decide +kernel
theorem dX4_sumInPacked_22 : decode cX4_sumInPacked 22 = .ok (.invokestatic 34, 3) := by decide +kernel
theorem dX4_sumInPacked_25 : decode cX4_sumInPacked 25 = .ok (.imul, 1) := by decide +kernel
theorem dX4_sumInPacked_26 : decode cX4_sumInPacked 26 = .ok (.iadd, 1) := by decide +kernel
theorem dX4_sumInPacked_27 : decode cX4_sumInPacked 27 = .ok (.istore_n 3, 1) := by decide +kernel
theorem dX4_sumInPacked_28 : decode cX4_sumInPacked 28 = .ok (.iinc 4 1, 3) := by decide +kernel
theorem dX4_sumInPacked_31 : decode cX4_sumInPacked 31 = .ok (.goto (-26), 3) := by decide +kernel
theorem dX4_sumInPacked_34 : decode cX4_sumInPacked 34 = .ok (.iload_n 3, 1) := by decide +kernel
theorem dX4_sumInPacked_35 : decode cX4_sumInPacked 35 = .ok (.ireturn, 1) := by decide +kernel
theorem dX4_leastIn_0 : decode cX4_leastIn 0 = .ok (.iconst 0, 1) := by decide +kernel
theorem dX4_leastIn_1 : decode cX4_leastIn 1 = .ok (.istore 4, 2) := by decide +kernel
theorem dX4_leastIn_3 : decode cX4_leastIn 3 = .ok (.iconst 0, 1) := by decide +kernel
theorem dX4_leastIn_4 : decode cX4_leastIn 4 = .ok (.istore 5, 2) := by decide +kernel
theorem dX4_leastIn_6 : decode cX4_leastIn 6 = .ok (.iload 5, 2) := by decide +kernel
theorem dX4_leastIn_8 : decode cX4_leastIn 8 = .ok (.iload_n 3, 1) := by decide +kernel
theorem dX4_leastIn_9 : decode cX4_leastIn 9 = .ok (.if_icmp .ge 43, 3) := by decide +kernel
theorem dX4_leastIn_12 : decode cX4_leastIn 12 = .ok (.iload 4, 2) := by decide +kernel
theorem dX4_leastIn_14 : decode cX4_leastIn 14 = .ok (.aload_n 0, 1) := by decide +kernel
theorem dX4_leastIn_15 : decode cX4_leastIn 15 = .ok (.getfield 21, 3) := by decide +kernel
theorem dX4_leastIn_18 : decode cX4_leastIn 18 = .ok (.iload 5, 2) := by decide +kernel
theorem dX4_leastIn_20 : decode cX4_leastIn 20 = .ok (.iaload, 1) := by decide +kernel
theorem dX4_leastIn_21 : decode cX4_leastIn 21 = .ok (.aload_n 0, 1) := by decide +kernel
theorem dX4_leastIn_22 : decode cX4_leastIn 22 = .ok (.getfield 21, 3) := by decide +kernel
theorem dX4_leastIn_25 : decode cX4_leastIn 25 = .ok (.iload 5, 2) := by decide +kernel
theorem dX4_leastIn_27 : decode cX4_leastIn 27 = .ok (.iaload, 1) := by decide +kernel
theorem dX4_leastIn_28 : decode cX4_leastIn 28 = .ok (.ifCond .le 10, 3) := by decide +kernel
theorem dX4_leastIn_31 : decode cX4_leastIn 31 = .ok (.aload_n 1, 1) := by decide +kernel
theorem dX4_leastIn_32 : decode cX4_leastIn 32 = .ok (.iload 5, 2) := by decide +kernel
theorem dX4_leastIn_34 : decode cX4_leastIn 34 = .ok (.iaload, 1) := by decide +kernel
theorem dX4_leastIn_35 : decode cX4_leastIn 35 = .ok (.goto 7, 3) := by decide +kernel
theorem dX4_leastIn_38 : decode cX4_leastIn 38 = .ok (.aload_n 2, 1) := by decide +kernel
theorem dX4_leastIn_39 : decode cX4_leastIn 39 = .ok (.iload 5, 2) := by decide +kernel
theorem dX4_leastIn_41 : decode cX4_leastIn 41 = .ok (.iaload, 1) := by decide +kernel
theorem dX4_leastIn_42 : decode cX4_leastIn 42 = .ok (.imul, 1) := by decide +kernel
theorem dX4_leastIn_43 : decode cX4_leastIn 43 = .ok (.iadd, 1) := by decide +kernel
theorem dX4_leastIn_44 : decode cX4_leastIn 44 = .ok (.istore 4, 2) := by decide +kernel
theorem dX4_leastIn_46 : decode cX4_leastIn 46 = .ok (.iinc 5 1, 3) := by decide +kernel
theorem dX4_leastIn_49 : decode cX4_leastIn 49 = .ok (.goto (-43), 3) := by decide +kernel
theorem dX4_leastIn_52 : decode cX4_leastIn 52 = .ok (.iload 4, 2) := by decide +kernel
theorem dX4_leastIn_54 : decode cX4_leastIn 54 = .ok (.ireturn, 1) := by decide +kernel
theorem dX4_mostIn_0 : decode cX4_mostIn 0 = .ok (.iconst 0, 1) := by decide +kernel
theorem dX4_mostIn_1 : decode cX4_mostIn 1 = .ok (.istore 4, 2) := by decide +kernel
theorem dX4_mostIn_3 : decode cX4_mostIn 3 = .ok (.iconst 0, 1) := by decide +kernel
theorem dX4_mostIn_4 : decode cX4_mostIn 4 = .ok (.istore 5, 2) := by decide +kernel
theorem dX4_mostIn_6 : decode cX4_mostIn 6 = .ok (.iload 5, 2) := by decide +kernel
theorem dX4_mostIn_8 : decode cX4_mostIn 8 = .ok (.iload_n 3, 1) := by decide +kernel
theorem dX4_mostIn_9 : decode cX4_mostIn 9 = .ok (.if_icmp .ge 43, 3) := by decide +kernel
theorem dX4_mostIn_12 : decode cX4_mostIn 12 = .ok (.iload 4, 2) := by decide +kernel
theorem dX4_mostIn_14 : decode cX4_mostIn 14 = .ok (.aload_n 0, 1) := by decide +kernel
theorem dX4_mostIn_15 : decode cX4_mostIn 15 = .ok (.getfield 21, 3) := by decide +kernel
theorem dX4_mostIn_18 : decode cX4_mostIn 18 = .ok (.iload 5, 2) := by decide +kernel
theorem dX4_mostIn_20 : decode cX4_mostIn 20 = .ok (.iaload, 1) := by decide +kernel
theorem dX4_mostIn_21 : decode cX4_mostIn 21 = .ok (.aload_n 0, 1) := by decide +kernel
theorem dX4_mostIn_22 : decode cX4_mostIn 22 = .ok (.getfield 21, 3) := by decide +kernel
theorem dX4_mostIn_25 : decode cX4_mostIn 25 = .ok (.iload 5, 2) := by decide +kernel
theorem dX4_mostIn_27 : decode cX4_mostIn 27 = .ok (.iaload, 1) := by decide +kernel
theorem dX4_mostIn_28 : decode cX4_mostIn 28 = .ok (.ifCond .le 10, 3) := by decide +kernel
theorem dX4_mostIn_31 : decode cX4_mostIn 31 = .ok (.aload_n 2, 1) := by decide +kernel
theorem dX4_mostIn_32 : decode cX4_mostIn 32 = .ok (.iload 5, 2) := by decide +kernel
theorem dX4_mostIn_34 : decode cX4_mostIn 34 = .ok (.iaload, 1) := by decide +kernel
theorem dX4_mostIn_35 : decode cX4_mostIn 35 = .ok (.goto 7, 3) := by decide +kernel
theorem dX4_mostIn_38 : decode cX4_mostIn 38 = .ok (.aload_n 1, 1) := by decide +kernel
theorem dX4_mostIn_39 : decode cX4_mostIn 39 = .ok (.iload 5, 2) := by decide +kernel
theorem dX4_mostIn_41 : decode cX4_mostIn 41 = .ok (.iaload, 1) := by decide +kernel
theorem dX4_mostIn_42 : decode cX4_mostIn 42 = .ok (.imul, 1) := by decide +kernel
theorem dX4_mostIn_43 : decode cX4_mostIn 43 = .ok (.iadd, 1) := by decide +kernel
theorem dX4_mostIn_44 : decode cX4_mostIn 44 = .ok (.istore 4, 2) := by decide +kernel
theorem dX4_mostIn_46 : decode cX4_mostIn 46 = .ok (.iinc 5 1, 3) := by decide +kernel
theorem dX4_mostIn_49 : decode cX4_mostIn 49 = .ok (.goto (-43), 3) := by decide +kernel
theorem dX4_mostIn_52 : decode cX4_mostIn 52 = .ok (.iload 4, 2) := by decide +kernel
theorem dX4_mostIn_54 : decode cX4_mostIn 54 = .ok (.ireturn, 1) := by decide +kernel
theorem dX4_allows_0 : decode cX4_allows 0 = .ok (.aload_n 0, 1) := by decide +kernel
theorem dX4_allows_1 : decode cX4_allows 1 = .ok (.aload_n 0, 1) := by decide +kernel
theorem dX4_allows_2 : decode cX4_allows 2 = .ok (.getfield 9, 3) := by decide +kernel
theorem dX4_allows_5 : decode cX4_allows 5 = .ok (.iload_n 1, 1) := by decide +kernel
theorem dX4_allows_6 : decode cX4_allows 6 = .ok (.invokevirtual 38, 3) := by decide +kernel
theorem dX4_allows_9 : decode cX4_allows 9 = .ok (.ireturn, 1) := by decide +kernel
theorem dX4_allowsAs_0 : decode cX4_allowsAs 0 = .ok (.iload_n 1, 1) := by decide +kernel
theorem dX4_allowsAs_1 : decode cX4_allowsAs 1 = .ok (.tableswitch 134 0 4 #[35, 49, 63, 85, 112], 35) := by decide +kernel
theorem dX4_allowsAs_36 : decode cX4_allowsAs 36 = .ok (.iload_n 2, 1) := by decide +kernel
theorem dX4_allowsAs_37 : decode cX4_allowsAs 37 = .ok (.aload_n 0, 1) := by decide +kernel
theorem dX4_allowsAs_38 : decode cX4_allowsAs 38 = .ok (.getfield 15, 3) := by decide +kernel
theorem dX4_allowsAs_41 : decode cX4_allowsAs 41 = .ok (.if_icmp .gt 7, 3) := by decide +kernel
theorem dX4_allowsAs_44 : decode cX4_allowsAs 44 = .ok (.iconst 1, 1) := by decide +kernel
theorem dX4_allowsAs_45 : decode cX4_allowsAs 45 = .ok (.goto 4, 3) := by decide +kernel
theorem dX4_allowsAs_48 : decode cX4_allowsAs 48 = .ok (.iconst 0, 1) := by decide +kernel
theorem dX4_allowsAs_49 : decode cX4_allowsAs 49 = .ok (.ireturn, 1) := by decide +kernel
theorem dX4_allowsAs_50 : decode cX4_allowsAs 50 = .ok (.iload_n 2, 1) := by decide +kernel
theorem dX4_allowsAs_51 : decode cX4_allowsAs 51 = .ok (.aload_n 0, 1) := by decide +kernel
theorem dX4_allowsAs_52 : decode cX4_allowsAs 52 = .ok (.getfield 15, 3) := by decide +kernel
theorem dX4_allowsAs_55 : decode cX4_allowsAs 55 = .ok (.if_icmp .ne 7, 3) := by decide +kernel
theorem dX4_allowsAs_58 : decode cX4_allowsAs 58 = .ok (.iconst 1, 1) := by decide +kernel
theorem dX4_allowsAs_59 : decode cX4_allowsAs 59 = .ok (.goto 4, 3) := by decide +kernel
theorem dX4_allowsAs_62 : decode cX4_allowsAs 62 = .ok (.iconst 0, 1) := by decide +kernel
theorem dX4_allowsAs_63 : decode cX4_allowsAs 63 = .ok (.ireturn, 1) := by decide +kernel
theorem dX4_allowsAs_64 : decode cX4_allowsAs 64 = .ok (.iload_n 2, 1) := by decide +kernel
theorem dX4_allowsAs_65 : decode cX4_allowsAs 65 = .ok (.aload_n 0, 1) := by decide +kernel
theorem dX4_allowsAs_66 : decode cX4_allowsAs 66 = .ok (.getfield 15, 3) := by decide +kernel
theorem dX4_allowsAs_69 : decode cX4_allowsAs 69 = .ok (.isub, 1) := by decide +kernel
theorem dX4_allowsAs_70 : decode cX4_allowsAs 70 = .ok (.invokestatic 42, 3) := by decide +kernel
theorem dX4_allowsAs_73 : decode cX4_allowsAs 73 = .ok (.aload_n 0, 1) := by decide +kernel
theorem dX4_allowsAs_74 : decode cX4_allowsAs 74 = .ok (.getfield 18, 3) := by decide +kernel
theorem dX4_allowsAs_77 : decode cX4_allowsAs 77 = .ok (.if_icmp .gt 7, 3) := by decide +kernel
theorem dX4_allowsAs_80 : decode cX4_allowsAs 80 = .ok (.iconst 1, 1) := by decide +kernel
theorem dX4_allowsAs_81 : decode cX4_allowsAs 81 = .ok (.goto 4, 3) := by decide +kernel
theorem dX4_allowsAs_84 : decode cX4_allowsAs 84 = .ok (.iconst 0, 1) := by decide +kernel
theorem dX4_allowsAs_85 : decode cX4_allowsAs 85 = .ok (.ireturn, 1) := by decide +kernel
theorem dX4_allowsAs_86 : decode cX4_allowsAs 86 = .ok (.aload_n 0, 1) := by decide +kernel
theorem dX4_allowsAs_87 : decode cX4_allowsAs 87 = .ok (.getfield 18, 3) := by decide +kernel
theorem dX4_allowsAs_90 : decode cX4_allowsAs 90 = .ok (.ifCond .le 21, 3) := by decide +kernel
theorem dX4_allowsAs_93 : decode cX4_allowsAs 93 = .ok (.iload_n 2, 1) := by decide +kernel
theorem dX4_allowsAs_94 : decode cX4_allowsAs 94 = .ok (.aload_n 0, 1) := by decide +kernel
theorem dX4_allowsAs_95 : decode cX4_allowsAs 95 = .ok (.getfield 15, 3) := by decide +kernel
theorem dX4_allowsAs_98 : decode cX4_allowsAs 98 = .ok (.isub, 1) := by decide +kernel
theorem dX4_allowsAs_99 : decode cX4_allowsAs 99 = .ok (.aload_n 0, 1) := by decide +kernel
theorem dX4_allowsAs_100 : decode cX4_allowsAs 100 = .ok (.getfield 18, 3) := by decide +kernel
theorem dX4_allowsAs_103 : decode cX4_allowsAs 103 = .ok (.irem, 1) := by decide +kernel
theorem dX4_allowsAs_104 : decode cX4_allowsAs 104 = .ok (.ifCond .ne 7, 3) := by decide +kernel
theorem dX4_allowsAs_107 : decode cX4_allowsAs 107 = .ok (.iconst 1, 1) := by decide +kernel
theorem dX4_allowsAs_108 : decode cX4_allowsAs 108 = .ok (.goto 4, 3) := by decide +kernel
theorem dX4_allowsAs_111 : decode cX4_allowsAs 111 = .ok (.iconst 0, 1) := by decide +kernel
theorem dX4_allowsAs_112 : decode cX4_allowsAs 112 = .ok (.ireturn, 1) := by decide +kernel
theorem dX4_allowsAs_113 : decode cX4_allowsAs 113 = .ok (.iload_n 2, 1) := by decide +kernel
theorem dX4_allowsAs_114 : decode cX4_allowsAs 114 = .ok (.aload_n 0, 1) := by decide +kernel
theorem dX4_allowsAs_115 : decode cX4_allowsAs 115 = .ok (.getfield 15, 3) := by decide +kernel
theorem dX4_allowsAs_118 : decode cX4_allowsAs 118 = .ok (.isub, 1) := by decide +kernel
theorem dX4_allowsAs_119 : decode cX4_allowsAs 119 = .ok (.invokestatic 42, 3) := by decide +kernel
theorem dX4_allowsAs_122 : decode cX4_allowsAs 122 = .ok (.aload_n 0, 1) := by decide +kernel
theorem dX4_allowsAs_123 : decode cX4_allowsAs 123 = .ok (.getfield 18, 3) := by decide +kernel
theorem dX4_allowsAs_126 : decode cX4_allowsAs 126 = .ok (.if_icmp .le 7, 3) := by decide +kernel
theorem dX4_allowsAs_129 : decode cX4_allowsAs 129 = .ok (.iconst 1, 1) := by decide +kernel
theorem dX4_allowsAs_130 : decode cX4_allowsAs 130 = .ok (.goto 4, 3) := by decide +kernel
theorem dX4_allowsAs_133 : decode cX4_allowsAs 133 = .ok (.iconst 0, 1) := by decide +kernel
theorem dX4_allowsAs_134 : decode cX4_allowsAs 134 = .ok (.ireturn, 1) := by decide +kernel
theorem dX4_allowsAs_135 : decode cX4_allowsAs 135 = .ok (.iload_n 2, 1) := by decide +kernel
theorem dX4_allowsAs_136 : decode cX4_allowsAs 136 = .ok (.aload_n 0, 1) := by decide +kernel
theorem dX4_allowsAs_137 : decode cX4_allowsAs 137 = .ok (.getfield 15, 3) := by decide +kernel
theorem dX4_allowsAs_140 : decode cX4_allowsAs 140 = .ok (.if_icmp .lt 7, 3) := by decide +kernel
theorem dX4_allowsAs_143 : decode cX4_allowsAs 143 = .ok (.iconst 1, 1) := by decide +kernel
theorem dX4_allowsAs_144 : decode cX4_allowsAs 144 = .ok (.goto 4, 3) := by decide +kernel
theorem dX4_allowsAs_147 : decode cX4_allowsAs 147 = .ok (.iconst 0, 1) := by decide +kernel
theorem dX4_allowsAs_148 : decode cX4_allowsAs 148 = .ok (.ireturn, 1) := by decide +kernel
theorem dX4_isDead_0 : decode cX4_isDead 0 = .ok (.aload_n 0, 1) := by decide +kernel
theorem dX4_isDead_1 : decode cX4_isDead 1 = .ok (.getfield 9, 3) := by decide +kernel
theorem dX4_isDead_4 : decode cX4_isDead 4 = .ok (.tableswitch 168 0 4 #[36, 50, 72, 104, 136], 36) := by decide +kernel
theorem dX4_isDead_40 : decode cX4_isDead 40 = .ok (.iload_n 1, 1) := by decide +kernel
theorem dX4_isDead_41 : decode cX4_isDead 41 = .ok (.aload_n 0, 1) := by decide +kernel
theorem dX4_isDead_42 : decode cX4_isDead 42 = .ok (.getfield 15, 3) := by decide +kernel
theorem dX4_isDead_45 : decode cX4_isDead 45 = .ok (.if_icmp .le 7, 3) := by decide +kernel
theorem dX4_isDead_48 : decode cX4_isDead 48 = .ok (.iconst 1, 1) := by decide +kernel
theorem dX4_isDead_49 : decode cX4_isDead 49 = .ok (.goto 4, 3) := by decide +kernel
theorem dX4_isDead_52 : decode cX4_isDead 52 = .ok (.iconst 0, 1) := by decide +kernel
theorem dX4_isDead_53 : decode cX4_isDead 53 = .ok (.ireturn, 1) := by decide +kernel
theorem dX4_isDead_54 : decode cX4_isDead 54 = .ok (.aload_n 0, 1) := by decide +kernel
theorem dX4_isDead_55 : decode cX4_isDead 55 = .ok (.getfield 15, 3) := by decide +kernel
theorem dX4_isDead_58 : decode cX4_isDead 58 = .ok (.iload_n 1, 1) := by decide +kernel
theorem dX4_isDead_59 : decode cX4_isDead 59 = .ok (.if_icmp .lt 11, 3) := by decide +kernel
theorem dX4_isDead_62 : decode cX4_isDead 62 = .ok (.aload_n 0, 1) := by decide +kernel
theorem dX4_isDead_63 : decode cX4_isDead 63 = .ok (.getfield 15, 3) := by decide +kernel
theorem dX4_isDead_66 : decode cX4_isDead 66 = .ok (.iload_n 2, 1) := by decide +kernel
theorem dX4_isDead_67 : decode cX4_isDead 67 = .ok (.if_icmp .le 7, 3) := by decide +kernel
theorem dX4_isDead_70 : decode cX4_isDead 70 = .ok (.iconst 1, 1) := by decide +kernel
theorem dX4_isDead_71 : decode cX4_isDead 71 = .ok (.goto 4, 3) := by decide +kernel
theorem dX4_isDead_74 : decode cX4_isDead 74 = .ok (.iconst 0, 1) := by decide +kernel
theorem dX4_isDead_75 : decode cX4_isDead 75 = .ok (.ireturn, 1) := by decide +kernel
theorem dX4_isDead_76 : decode cX4_isDead 76 = .ok (.iload_n 1, 1) := by decide +kernel
theorem dX4_isDead_77 : decode cX4_isDead 77 = .ok (.aload_n 0, 1) := by decide +kernel
theorem dX4_isDead_78 : decode cX4_isDead 78 = .ok (.getfield 15, 3) := by decide +kernel
theorem dX4_isDead_81 : decode cX4_isDead 81 = .ok (.aload_n 0, 1) := by decide +kernel
theorem dX4_isDead_82 : decode cX4_isDead 82 = .ok (.getfield 18, 3) := by decide +kernel
theorem dX4_isDead_85 : decode cX4_isDead 85 = .ok (.iadd, 1) := by decide +kernel
theorem dX4_isDead_86 : decode cX4_isDead 86 = .ok (.if_icmp .gt 16, 3) := by decide +kernel
theorem dX4_isDead_89 : decode cX4_isDead 89 = .ok (.iload_n 2, 1) := by decide +kernel
theorem dX4_isDead_90 : decode cX4_isDead 90 = .ok (.aload_n 0, 1) := by decide +kernel
theorem dX4_isDead_91 : decode cX4_isDead 91 = .ok (.getfield 15, 3) := by decide +kernel
theorem dX4_isDead_94 : decode cX4_isDead 94 = .ok (.aload_n 0, 1) := by decide +kernel
theorem dX4_isDead_95 : decode cX4_isDead 95 = .ok (.getfield 18, 3) := by decide +kernel
theorem dX4_isDead_98 : decode cX4_isDead 98 = .ok (.isub, 1) := by decide +kernel
theorem dX4_isDead_99 : decode cX4_isDead 99 = .ok (.if_icmp .ge 7, 3) := by decide +kernel
theorem dX4_isDead_102 : decode cX4_isDead 102 = .ok (.iconst 1, 1) := by decide +kernel
theorem dX4_isDead_103 : decode cX4_isDead 103 = .ok (.goto 4, 3) := by decide +kernel
theorem dX4_isDead_106 : decode cX4_isDead 106 = .ok (.iconst 0, 1) := by decide +kernel
theorem dX4_isDead_107 : decode cX4_isDead 107 = .ok (.ireturn, 1) := by decide +kernel
theorem dX4_isDead_108 : decode cX4_isDead 108 = .ok (.aload_n 0, 1) := by decide +kernel
theorem dX4_isDead_109 : decode cX4_isDead 109 = .ok (.getfield 18, 3) := by decide +kernel
theorem dX4_isDead_112 : decode cX4_isDead 112 = .ok (.ifCond .le 26, 3) := by decide +kernel
theorem dX4_isDead_115 : decode cX4_isDead 115 = .ok (.iload_n 1, 1) := by decide +kernel
theorem dX4_isDead_116 : decode cX4_isDead 116 = .ok (.aload_n 0, 1) := by decide +kernel
theorem dX4_isDead_117 : decode cX4_isDead 117 = .ok (.getfield 15, 3) := by decide +kernel
theorem dX4_isDead_120 : decode cX4_isDead 120 = .ok (.iload_n 1, 1) := by decide +kernel
theorem dX4_isDead_121 : decode cX4_isDead 121 = .ok (.isub, 1) := by decide +kernel
theorem dX4_isDead_122 : decode cX4_isDead 122 = .ok (.aload_n 0, 1) := by decide +kernel
theorem dX4_isDead_123 : decode cX4_isDead 123 = .ok (.getfield 18, 3) := by decide +kernel
theorem dX4_isDead_126 : decode cX4_isDead 126 = .ok (.invokestatic 48, 3) := by decide +kernel
theorem dX4_isDead_129 : decode cX4_isDead 129 = .ok (.iadd, 1) := by decide +kernel
theorem dX4_isDead_130 : decode cX4_isDead 130 = .ok (.iload_n 2, 1) := by decide +kernel
theorem dX4_isDead_131 : decode cX4_isDead 131 = .ok (.if_icmp .le 7, 3) := by decide +kernel
theorem dX4_isDead_134 : decode cX4_isDead 134 = .ok (.iconst 1, 1) := by decide +kernel
theorem dX4_isDead_135 : decode cX4_isDead 135 = .ok (.goto 4, 3) := by decide +kernel
theorem dX4_isDead_138 : decode cX4_isDead 138 = .ok (.iconst 0, 1) := by decide +kernel
theorem dX4_isDead_139 : decode cX4_isDead 139 = .ok (.ireturn, 1) := by decide +kernel
theorem dX4_isDead_140 : decode cX4_isDead 140 = .ok (.iload_n 1, 1) := by decide +kernel
theorem dX4_isDead_141 : decode cX4_isDead 141 = .ok (.aload_n 0, 1) := by decide +kernel
theorem dX4_isDead_142 : decode cX4_isDead 142 = .ok (.getfield 15, 3) := by decide +kernel
theorem dX4_isDead_145 : decode cX4_isDead 145 = .ok (.aload_n 0, 1) := by decide +kernel
theorem dX4_isDead_146 : decode cX4_isDead 146 = .ok (.getfield 18, 3) := by decide +kernel
theorem dX4_isDead_149 : decode cX4_isDead 149 = .ok (.isub, 1) := by decide +kernel
theorem dX4_isDead_150 : decode cX4_isDead 150 = .ok (.if_icmp .lt 20, 3) := by decide +kernel
theorem dX4_isDead_153 : decode cX4_isDead 153 = .ok (.iload_n 2, 1) := by decide +kernel
theorem dX4_isDead_154 : decode cX4_isDead 154 = .ok (.aload_n 0, 1) := by decide +kernel
theorem dX4_isDead_155 : decode cX4_isDead 155 = .ok (.getfield 15, 3) := by decide +kernel
theorem dX4_isDead_158 : decode cX4_isDead 158 = .ok (.aload_n 0, 1) := by decide +kernel
theorem dX4_isDead_159 : decode cX4_isDead 159 = .ok (.getfield 18, 3) := by decide +kernel
theorem dX4_isDead_162 : decode cX4_isDead 162 = .ok (.iadd, 1) := by decide +kernel
theorem dX4_isDead_163 : decode cX4_isDead 163 = .ok (.if_icmp .gt 7, 3) := by decide +kernel
theorem dX4_isDead_166 : decode cX4_isDead 166 = .ok (.iconst 1, 1) := by decide +kernel
theorem dX4_isDead_167 : decode cX4_isDead 167 = .ok (.goto 4, 3) := by decide +kernel
theorem dX4_isDead_170 : decode cX4_isDead 170 = .ok (.iconst 0, 1) := by decide +kernel
theorem dX4_isDead_171 : decode cX4_isDead 171 = .ok (.ireturn, 1) := by decide +kernel
theorem dX4_isDead_172 : decode cX4_isDead 172 = .ok (.iload_n 2, 1) := by decide +kernel
theorem dX4_isDead_173 : decode cX4_isDead 173 = .ok (.aload_n 0, 1) := by decide +kernel
theorem dX4_isDead_174 : decode cX4_isDead 174 = .ok (.getfield 15, 3) := by decide +kernel
theorem dX4_isDead_177 : decode cX4_isDead 177 = .ok (.if_icmp .ge 7, 3) := by decide +kernel
theorem dX4_isDead_180 : decode cX4_isDead 180 = .ok (.iconst 1, 1) := by decide +kernel
theorem dX4_isDead_181 : decode cX4_isDead 181 = .ok (.goto 4, 3) := by decide +kernel
theorem dX4_isDead_184 : decode cX4_isDead 184 = .ok (.iconst 0, 1) := by decide +kernel
theorem dX4_isDead_185 : decode cX4_isDead 185 = .ok (.ireturn, 1) := by decide +kernel
theorem dX4_isWhole_0 : decode cX4_isWhole 0 = .ok (.aload_n 0, 1) := by decide +kernel
theorem dX4_isWhole_1 : decode cX4_isWhole 1 = .ok (.getfield 9, 3) := by decide +kernel
theorem dX4_isWhole_4 : decode cX4_isWhole 4 = .ok (.tableswitch 163 0 4 #[36, 50, 72, 104, 131], 36) := by decide +kernel
theorem dX4_isWhole_40 : decode cX4_isWhole 40 = .ok (.iload_n 2, 1) := by decide +kernel
theorem dX4_isWhole_41 : decode cX4_isWhole 41 = .ok (.aload_n 0, 1) := by decide +kernel
theorem dX4_isWhole_42 : decode cX4_isWhole 42 = .ok (.getfield 15, 3) := by decide +kernel
theorem dX4_isWhole_45 : decode cX4_isWhole 45 = .ok (.if_icmp .gt 7, 3) := by decide +kernel
theorem dX4_isWhole_48 : decode cX4_isWhole 48 = .ok (.iconst 1, 1) := by decide +kernel
theorem dX4_isWhole_49 : decode cX4_isWhole 49 = .ok (.goto 4, 3) := by decide +kernel
theorem dX4_isWhole_52 : decode cX4_isWhole 52 = .ok (.iconst 0, 1) := by decide +kernel
theorem dX4_isWhole_53 : decode cX4_isWhole 53 = .ok (.ireturn, 1) := by decide +kernel
theorem dX4_isWhole_54 : decode cX4_isWhole 54 = .ok (.iload_n 1, 1) := by decide +kernel
theorem dX4_isWhole_55 : decode cX4_isWhole 55 = .ok (.aload_n 0, 1) := by decide +kernel
theorem dX4_isWhole_56 : decode cX4_isWhole 56 = .ok (.getfield 15, 3) := by decide +kernel
theorem dX4_isWhole_59 : decode cX4_isWhole 59 = .ok (.if_icmp .ne 15, 3) := by decide +kernel
theorem dX4_isWhole_62 : decode cX4_isWhole 62 = .ok (.iload_n 2, 1) := by decide +kernel
theorem dX4_isWhole_63 : decode cX4_isWhole 63 = .ok (.aload_n 0, 1) := by decide +kernel
theorem dX4_isWhole_64 : decode cX4_isWhole 64 = .ok (.getfield 15, 3) := by decide +kernel
theorem dX4_isWhole_67 : decode cX4_isWhole 67 = .ok (.if_icmp .ne 7, 3) := by decide +kernel
theorem dX4_isWhole_70 : decode cX4_isWhole 70 = .ok (.iconst 1, 1) := by decide +kernel
theorem dX4_isWhole_71 : decode cX4_isWhole 71 = .ok (.goto 4, 3) := by decide +kernel
theorem dX4_isWhole_74 : decode cX4_isWhole 74 = .ok (.iconst 0, 1) := by decide +kernel
theorem dX4_isWhole_75 : decode cX4_isWhole 75 = .ok (.ireturn, 1) := by decide +kernel
theorem dX4_isWhole_76 : decode cX4_isWhole 76 = .ok (.iload_n 1, 1) := by decide +kernel
theorem dX4_isWhole_77 : decode cX4_isWhole 77 = .ok (.aload_n 0, 1) := by decide +kernel
theorem dX4_isWhole_78 : decode cX4_isWhole 78 = .ok (.getfield 15, 3) := by decide +kernel
theorem dX4_isWhole_81 : decode cX4_isWhole 81 = .ok (.aload_n 0, 1) := by decide +kernel
theorem dX4_isWhole_82 : decode cX4_isWhole 82 = .ok (.getfield 18, 3) := by decide +kernel
theorem dX4_isWhole_85 : decode cX4_isWhole 85 = .ok (.isub, 1) := by decide +kernel
theorem dX4_isWhole_86 : decode cX4_isWhole 86 = .ok (.if_icmp .lt 20, 3) := by decide +kernel
theorem dX4_isWhole_89 : decode cX4_isWhole 89 = .ok (.iload_n 2, 1) := by decide +kernel
theorem dX4_isWhole_90 : decode cX4_isWhole 90 = .ok (.aload_n 0, 1) := by decide +kernel
theorem dX4_isWhole_91 : decode cX4_isWhole 91 = .ok (.getfield 15, 3) := by decide +kernel
theorem dX4_isWhole_94 : decode cX4_isWhole 94 = .ok (.aload_n 0, 1) := by decide +kernel
theorem dX4_isWhole_95 : decode cX4_isWhole 95 = .ok (.getfield 18, 3) := by decide +kernel
theorem dX4_isWhole_98 : decode cX4_isWhole 98 = .ok (.iadd, 1) := by decide +kernel
theorem dX4_isWhole_99 : decode cX4_isWhole 99 = .ok (.if_icmp .gt 7, 3) := by decide +kernel
theorem dX4_isWhole_102 : decode cX4_isWhole 102 = .ok (.iconst 1, 1) := by decide +kernel
theorem dX4_isWhole_103 : decode cX4_isWhole 103 = .ok (.goto 4, 3) := by decide +kernel
theorem dX4_isWhole_106 : decode cX4_isWhole 106 = .ok (.iconst 0, 1) := by decide +kernel
theorem dX4_isWhole_107 : decode cX4_isWhole 107 = .ok (.ireturn, 1) := by decide +kernel
theorem dX4_isWhole_108 : decode cX4_isWhole 108 = .ok (.aload_n 0, 1) := by decide +kernel
theorem dX4_isWhole_109 : decode cX4_isWhole 109 = .ok (.getfield 18, 3) := by decide +kernel
theorem dX4_isWhole_112 : decode cX4_isWhole 112 = .ok (.iconst 1, 1) := by decide +kernel
theorem dX4_isWhole_113 : decode cX4_isWhole 113 = .ok (.if_icmp .eq 16, 3) := by decide +kernel
theorem dX4_isWhole_116 : decode cX4_isWhole 116 = .ok (.iload_n 1, 1) := by decide +kernel
theorem dX4_isWhole_117 : decode cX4_isWhole 117 = .ok (.iload_n 2, 1) := by decide +kernel
theorem dX4_isWhole_118 : decode cX4_isWhole 118 = .ok (.if_icmp .ne 15, 3) := by decide +kernel
theorem dX4_isWhole_121 : decode cX4_isWhole 121 = .ok (.aload_n 0, 1) := by decide +kernel
theorem dX4_isWhole_122 : decode cX4_isWhole 122 = .ok (.iload_n 1, 1) := by decide +kernel
theorem dX4_isWhole_123 : decode cX4_isWhole 123 = .ok (.invokevirtual 51, 3) := by decide +kernel
theorem dX4_isWhole_126 : decode cX4_isWhole 126 = .ok (.ifCond .eq 7, 3) := by decide +kernel
theorem dX4_isWhole_129 : decode cX4_isWhole 129 = .ok (.iconst 1, 1) := by decide +kernel
theorem dX4_isWhole_130 : decode cX4_isWhole 130 = .ok (.goto 4, 3) := by decide +kernel
theorem dX4_isWhole_133 : decode cX4_isWhole 133 = .ok (.iconst 0, 1) := by decide +kernel
theorem dX4_isWhole_134 : decode cX4_isWhole 134 = .ok (.ireturn, 1) := by decide +kernel
theorem dX4_isWhole_135 : decode cX4_isWhole 135 = .ok (.iload_n 2, 1) := by decide +kernel
theorem dX4_isWhole_136 : decode cX4_isWhole 136 = .ok (.aload_n 0, 1) := by decide +kernel
theorem dX4_isWhole_137 : decode cX4_isWhole 137 = .ok (.getfield 15, 3) := by decide +kernel
theorem dX4_isWhole_140 : decode cX4_isWhole 140 = .ok (.aload_n 0, 1) := by decide +kernel
theorem dX4_isWhole_141 : decode cX4_isWhole 141 = .ok (.getfield 18, 3) := by decide +kernel
theorem dX4_isWhole_144 : decode cX4_isWhole 144 = .ok (.isub, 1) := by decide +kernel
theorem dX4_isWhole_145 : decode cX4_isWhole 145 = .ok (.if_icmp .lt 16, 3) := by decide +kernel
theorem dX4_isWhole_148 : decode cX4_isWhole 148 = .ok (.iload_n 1, 1) := by decide +kernel
theorem dX4_isWhole_149 : decode cX4_isWhole 149 = .ok (.aload_n 0, 1) := by decide +kernel
theorem dX4_isWhole_150 : decode cX4_isWhole 150 = .ok (.getfield 15, 3) := by decide +kernel
theorem dX4_isWhole_153 : decode cX4_isWhole 153 = .ok (.aload_n 0, 1) := by decide +kernel
theorem dX4_isWhole_154 : decode cX4_isWhole 154 = .ok (.getfield 18, 3) := by decide +kernel
theorem dX4_isWhole_157 : decode cX4_isWhole 157 = .ok (.iadd, 1) := by decide +kernel
theorem dX4_isWhole_158 : decode cX4_isWhole 158 = .ok (.if_icmp .le 7, 3) := by decide +kernel
theorem dX4_isWhole_161 : decode cX4_isWhole 161 = .ok (.iconst 1, 1) := by decide +kernel
theorem dX4_isWhole_162 : decode cX4_isWhole 162 = .ok (.goto 4, 3) := by decide +kernel
theorem dX4_isWhole_165 : decode cX4_isWhole 165 = .ok (.iconst 0, 1) := by decide +kernel
theorem dX4_isWhole_166 : decode cX4_isWhole 166 = .ok (.ireturn, 1) := by decide +kernel
theorem dX4_isWhole_167 : decode cX4_isWhole 167 = .ok (.iload_n 1, 1) := by decide +kernel
theorem dX4_isWhole_168 : decode cX4_isWhole 168 = .ok (.aload_n 0, 1) := by decide +kernel
theorem dX4_isWhole_169 : decode cX4_isWhole 169 = .ok (.getfield 15, 3) := by decide +kernel
theorem dX4_isWhole_172 : decode cX4_isWhole 172 = .ok (.if_icmp .lt 7, 3) := by decide +kernel
theorem dX4_isWhole_175 : decode cX4_isWhole 175 = .ok (.iconst 1, 1) := by decide +kernel
theorem dX4_isWhole_176 : decode cX4_isWhole 176 = .ok (.goto 4, 3) := by decide +kernel
theorem dX4_isWhole_179 : decode cX4_isWhole 179 = .ok (.iconst 0, 1) := by decide +kernel
theorem dX4_isWhole_180 : decode cX4_isWhole 180 = .ok (.ireturn, 1) := by decide +kernel
theorem dX4_leastBoundFor_0 : decode cX4_leastBoundFor 0 = .ok (.aload_n 0, 1) := by decide +kernel
theorem dX4_leastBoundFor_1 : decode cX4_leastBoundFor 1 = .ok (.getfield 9, 3) := by decide +kernel
theorem dX4_leastBoundFor_4 : decode cX4_leastBoundFor 4 = .ok (.tableswitch 69 0 3 #[32, 32, 34, 41], 32) := by decide +kernel
theorem dX4_leastBoundFor_36 : decode cX4_leastBoundFor 36 = .ok (.iload_n 1, 1) := by decide +kernel
theorem dX4_leastBoundFor_37 : decode cX4_leastBoundFor 37 = .ok (.ireturn, 1) := by decide +kernel
theorem dX4_leastBoundFor_38 : decode cX4_leastBoundFor 38 = .ok (.iload_n 1, 1) := by decide +kernel
theorem dX4_leastBoundFor_39 : decode cX4_leastBoundFor 39 = .ok (.aload_n 0, 1) := by decide +kernel
theorem dX4_leastBoundFor_40 : decode cX4_leastBoundFor 40 = .ok (.getfield 18, 3) := by decide +kernel
theorem dX4_leastBoundFor_43 : decode cX4_leastBoundFor 43 = .ok (.isub, 1) := by decide +kernel
theorem dX4_leastBoundFor_44 : decode cX4_leastBoundFor 44 = .ok (.ireturn, 1) := by decide +kernel
theorem dX4_leastBoundFor_45 : decode cX4_leastBoundFor 45 = .ok (.aload_n 0, 1) := by decide +kernel
theorem dX4_leastBoundFor_46 : decode cX4_leastBoundFor 46 = .ok (.getfield 18, 3) := by decide +kernel
theorem dX4_leastBoundFor_49 : decode cX4_leastBoundFor 49 = .ok (.ifCond .le 22, 3) := by decide +kernel
theorem dX4_leastBoundFor_52 : decode cX4_leastBoundFor 52 = .ok (.sipush (-999), 3) := by decide +kernel
theorem dX4_leastBoundFor_55 : decode cX4_leastBoundFor 55 = .ok (.iload_n 1, 1) := by decide +kernel
theorem dX4_leastBoundFor_56 : decode cX4_leastBoundFor 56 = .ok (.sipush 999, 3) := by decide +kernel
theorem dX4_leastBoundFor_59 : decode cX4_leastBoundFor 59 = .ok (.iadd, 1) := by decide +kernel
theorem dX4_leastBoundFor_60 : decode cX4_leastBoundFor 60 = .ok (.aload_n 0, 1) := by decide +kernel
theorem dX4_leastBoundFor_61 : decode cX4_leastBoundFor 61 = .ok (.getfield 18, 3) := by decide +kernel
theorem dX4_leastBoundFor_64 : decode cX4_leastBoundFor 64 = .ok (.invokestatic 48, 3) := by decide +kernel
theorem dX4_leastBoundFor_67 : decode cX4_leastBoundFor 67 = .ok (.iadd, 1) := by decide +kernel
theorem dX4_leastBoundFor_68 : decode cX4_leastBoundFor 68 = .ok (.goto 4, 3) := by decide +kernel
theorem dX4_leastBoundFor_71 : decode cX4_leastBoundFor 71 = .ok (.iload_n 1, 1) := by decide +kernel
theorem dX4_leastBoundFor_72 : decode cX4_leastBoundFor 72 = .ok (.ireturn, 1) := by decide +kernel
theorem dX4_leastBoundFor_73 : decode cX4_leastBoundFor 73 = .ok (.sipush (-999), 3) := by decide +kernel
theorem dX4_leastBoundFor_76 : decode cX4_leastBoundFor 76 = .ok (.ireturn, 1) := by decide +kernel
theorem dX5_begin_0 : decode cX5_begin 0 = .ok (.aload_n 0, 1) := by decide +kernel
theorem dX5_begin_1 : decode cX5_begin 1 = .ok (.iload_n 1, 1) := by decide +kernel
theorem dX5_begin_2 : decode cX5_begin 2 = .ok (.putfield 9, 3) := by decide +kernel
theorem dX5_begin_5 : decode cX5_begin 5 = .ok (.aload_n 0, 1) := by decide +kernel
theorem dX5_begin_6 : decode cX5_begin 6 = .ok (.iload_n 2, 1) := by decide +kernel
theorem dX5_begin_7 : decode cX5_begin 7 = .ok (.putfield 15, 3) := by decide +kernel
theorem dX5_begin_10 : decode cX5_begin 10 = .ok (.iconst 0, 1) := by decide +kernel
theorem dX5_begin_11 : decode cX5_begin 11 = .ok (.istore_n 3, 1) := by decide +kernel
theorem dX5_begin_12 : decode cX5_begin 12 = .ok (.iload_n 3, 1) := by decide +kernel
theorem dX5_begin_13 : decode cX5_begin 13 = .ok (.bipush 40, 2) := by decide +kernel
theorem dX5_begin_15 : decode cX5_begin 15 = .ok (.if_icmp .ge 16, 3) := by decide +kernel
theorem dX5_begin_18 : decode cX5_begin 18 = .ok (.aload_n 0, 1) := by decide +kernel
theorem dX5_begin_19 : decode cX5_begin 19 = .ok (.getfield 18, 3) := by decide +kernel
theorem dX5_begin_22 : decode cX5_begin 22 = .ok (.iload_n 3, 1) := by decide +kernel
theorem dX5_begin_23 : decode cX5_begin 23 = .ok (.lconst 0, 1) := by decide +kernel
theorem dX5_begin_24 : decode cX5_begin 24 = .ok (.lastore, 1) := by decide +kernel
theorem dX5_begin_25 : decode cX5_begin 25 = .ok (.iinc 3 1, 3) := by decide +kernel
theorem dX5_begin_28 : decode cX5_begin 28 = .ok (.goto (-16), 3) := by decide +kernel
theorem dX5_begin_31 : decode cX5_begin 31 = .ok (.return_, 1) := by decide +kernel
theorem dX5_put_0 : decode cX5_put 0 = .ok (.aload_n 0, 1) := by decide +kernel
theorem dX5_put_1 : decode cX5_put 1 = .ok (.getfield 9, 3) := by decide +kernel
theorem dX5_put_4 : decode cX5_put 4 = .ok (.bipush 8, 2) := by decide +kernel
theorem dX5_put_6 : decode cX5_put 6 = .ok (.if_icmp .ne 16, 3) := by decide +kernel
theorem dX5_put_9 : decode cX5_put 9 = .ok (.aload_n 0, 1) := by decide +kernel
theorem dX5_put_10 : decode cX5_put 10 = .ok (.getfield 18, 3) := by decide +kernel
theorem dX5_put_13 : decode cX5_put 13 = .ok (.iload_n 1, 1) := by decide +kernel
theorem dX5_put_14 : decode cX5_put 14 = .ok (.lload_n 2, 1) := by decide +kernel
theorem dX5_put_15 : decode cX5_put 15 = .ok (.l2i, 1) := by decide +kernel
theorem dX5_put_16 : decode cX5_put 16 = .ok (.i2b, 1) := by decide +kernel
theorem dX5_put_17 : decode cX5_put 17 = .ok (.i2l, 1) := by decide +kernel
theorem dX5_put_18 : decode cX5_put 18 = .ok (.lastore, 1) := by decide +kernel
theorem dX5_put_19 : decode cX5_put 19 = .ok (.goto 32, 3) := by decide +kernel
theorem dX5_put_22 : decode cX5_put 22 = .ok (.aload_n 0, 1) := by decide +kernel
theorem dX5_put_23 : decode cX5_put 23 = .ok (.getfield 9, 3) := by decide +kernel
theorem dX5_put_26 : decode cX5_put 26 = .ok (.bipush 16, 2) := by decide +kernel
theorem dX5_put_28 : decode cX5_put 28 = .ok (.if_icmp .ne 16, 3) := by decide +kernel
theorem dX5_put_31 : decode cX5_put 31 = .ok (.aload_n 0, 1) := by decide +kernel
theorem dX5_put_32 : decode cX5_put 32 = .ok (.getfield 18, 3) := by decide +kernel
theorem dX5_put_35 : decode cX5_put 35 = .ok (.iload_n 1, 1) := by decide +kernel
theorem dX5_put_36 : decode cX5_put 36 = .ok (.lload_n 2, 1) := by decide +kernel
theorem dX5_put_37 : decode cX5_put 37 = .ok (.l2i, 1) := by decide +kernel
theorem dX5_put_38 : decode cX5_put 38 = .ok (.i2s, 1) := by decide +kernel
theorem dX5_put_39 : decode cX5_put 39 = .ok (.i2l, 1) := by decide +kernel
theorem dX5_put_40 : decode cX5_put 40 = .ok (.lastore, 1) := by decide +kernel
theorem dX5_put_41 : decode cX5_put 41 = .ok (.goto 10, 3) := by decide +kernel
theorem dX5_put_44 : decode cX5_put 44 = .ok (.aload_n 0, 1) := by decide +kernel
theorem dX5_put_45 : decode cX5_put 45 = .ok (.getfield 18, 3) := by decide +kernel
theorem dX5_put_48 : decode cX5_put 48 = .ok (.iload_n 1, 1) := by decide +kernel
theorem dX5_put_49 : decode cX5_put 49 = .ok (.lload_n 2, 1) := by decide +kernel
theorem dX5_put_50 : decode cX5_put 50 = .ok (.lastore, 1) := by decide +kernel
theorem dX5_put_51 : decode cX5_put 51 = .ok (.return_, 1) := by decide +kernel
theorem dX5_hasRange_0 : decode cX5_hasRange 0 = .ok (.iload_n 1, 1) := by decide +kernel
theorem dX5_hasRange_1 : decode cX5_hasRange 1 = .ok (.ifCond .lt 29, 3) := by decide +kernel
theorem dX5_hasRange_4 : decode cX5_hasRange 4 = .ok (.iload_n 2, 1) := by decide +kernel
theorem dX5_hasRange_5 : decode cX5_hasRange 5 = .ok (.ifCond .lt 25, 3) := by decide +kernel
theorem dX5_hasRange_8 : decode cX5_hasRange 8 = .ok (.iload_n 1, 1) := by decide +kernel
theorem dX5_hasRange_9 : decode cX5_hasRange 9 = .ok (.aload_n 0, 1) := by decide +kernel
theorem dX5_hasRange_10 : decode cX5_hasRange 10 = .ok (.getfield 15, 3) := by decide +kernel
theorem dX5_hasRange_13 : decode cX5_hasRange 13 = .ok (.if_icmp .gt 17, 3) := by decide +kernel
theorem dX5_hasRange_16 : decode cX5_hasRange 16 = .ok (.iload_n 2, 1) := by decide +kernel
theorem dX5_hasRange_17 : decode cX5_hasRange 17 = .ok (.aload_n 0, 1) := by decide +kernel
theorem dX5_hasRange_18 : decode cX5_hasRange 18 = .ok (.getfield 15, 3) := by decide +kernel
theorem dX5_hasRange_21 : decode cX5_hasRange 21 = .ok (.iload_n 1, 1) := by decide +kernel
theorem dX5_hasRange_22 : decode cX5_hasRange 22 = .ok (.isub, 1) := by decide +kernel
theorem dX5_hasRange_23 : decode cX5_hasRange 23 = .ok (.if_icmp .gt 7, 3) := by decide +kernel
theorem dX5_hasRange_26 : decode cX5_hasRange 26 = .ok (.iconst 1, 1) := by decide +kernel
theorem dX5_hasRange_27 : decode cX5_hasRange 27 = .ok (.goto 4, 3) := by decide +kernel
theorem dX5_hasRange_30 : decode cX5_hasRange 30 = .ok (.iconst 0, 1) := by decide +kernel
theorem dX5_hasRange_31 : decode cX5_hasRange 31 = .ok (.ireturn, 1) := by decide +kernel
theorem dX6_refresh_0 : decode cX6_refresh 0 = .ok (.aload_n 0, 1) := by decide +kernel
theorem dX6_refresh_1 : decode cX6_refresh 1 = .ok (.getfield 9, 3) := by decide +kernel
theorem dX6_refresh_4 : decode cX6_refresh 4 = .ok (.ifCond .ne 4, 3) := by decide +kernel
theorem dX6_refresh_7 : decode cX6_refresh 7 = .ok (.return_, 1) := by decide +kernel
theorem dX6_refresh_8 : decode cX6_refresh 8 = .ok (.aload_n 0, 1) := by decide +kernel
theorem dX6_refresh_9 : decode cX6_refresh 9 = .ok (.iconst 0, 1) := by decide +kernel
theorem dX6_refresh_10 : decode cX6_refresh 10 = .ok (.putfield 9, 3) := by decide +kernel
theorem dX6_refresh_13 : decode cX6_refresh 13 = .ok (.aload_n 0, 1) := by decide +kernel
theorem dX6_refresh_14 : decode cX6_refresh 14 = .ok (.iconst 0, 1) := by decide +kernel
theorem dX6_refresh_15 : decode cX6_refresh 15 = .ok (.putfield 15, 3) := by decide +kernel
theorem dX6_refresh_18 : decode cX6_refresh 18 = .ok (.aload_n 0, 1) := by decide +kernel
theorem dX6_refresh_19 : decode cX6_refresh 19 = .ok (.iconst 0, 1) := by decide +kernel
theorem dX6_refresh_20 : decode cX6_refresh 20 = .ok (.putfield 19, 3) := by decide +kernel
theorem dX6_refresh_23 : decode cX6_refresh 23 = .ok (.aload_n 0, 1) := by decide +kernel
theorem dX6_refresh_24 : decode cX6_refresh 24 = .ok (.iconst 0, 1) := by decide +kernel
theorem dX6_refresh_25 : decode cX6_refresh 25 = .ok (.putfield 22, 3) := by decide +kernel
theorem dX6_refresh_28 : decode cX6_refresh 28 = .ok (.aload_n 0, 1) := by decide +kernel
theorem dX6_refresh_29 : decode cX6_refresh 29 = .ok (.iconst 0, 1) := by decide +kernel
theorem dX6_refresh_30 : decode cX6_refresh 30 = .ok (.putfield 25, 3) := by decide +kernel
theorem dX6_refresh_33 : decode cX6_refresh 33 = .ok (.aload_n 1, 1) := by decide +kernel
theorem dX6_refresh_34 : decode cX6_refresh 34 = .ok (.getfield 39, 3) := by decide +kernel
theorem dX6_refresh_37 : decode cX6_refresh 37 = .ok (.iconst 0, 1) := by decide +kernel
theorem dX6_refresh_38 : decode cX6_refresh 38 = .ok (.aload_n 0, 1) := by decide +kernel
theorem dX6_refresh_39 : decode cX6_refresh 39 = .ok (.getfield 32, 3) := by decide +kernel
theorem dX6_refresh_42 : decode cX6_refresh 42 = .ok (.iconst 0, 1) := by decide +kernel
theorem dX6_refresh_43 : decode cX6_refresh 43 = .ok (.iconst 4, 1) := by decide +kernel
theorem dX6_refresh_44 : decode cX6_refresh 44 = .ok (.invokestatic 42, 3) := by decide +kernel
theorem dX6_refresh_47 : decode cX6_refresh 47 = .ok (.aload_n 1, 1) := by decide +kernel
theorem dX6_refresh_48 : decode cX6_refresh 48 = .ok (.getfield 48, 3) := by decide +kernel
theorem dX6_refresh_51 : decode cX6_refresh 51 = .ok (.iconst 0, 1) := by decide +kernel
theorem dX6_refresh_52 : decode cX6_refresh 52 = .ok (.aload_n 0, 1) := by decide +kernel
theorem dX6_refresh_53 : decode cX6_refresh 53 = .ok (.getfield 36, 3) := by decide +kernel
theorem dX6_refresh_56 : decode cX6_refresh 56 = .ok (.iconst 0, 1) := by decide +kernel
theorem dX6_refresh_57 : decode cX6_refresh 57 = .ok (.iconst 4, 1) := by decide +kernel
theorem dX6_refresh_58 : decode cX6_refresh 58 = .ok (.invokestatic 42, 3) := by decide +kernel
theorem dX6_refresh_61 : decode cX6_refresh 61 = .ok (.aload_n 0, 1) := by decide +kernel
theorem dX6_refresh_62 : decode cX6_refresh 62 = .ok (.aload_n 1, 1) := by decide +kernel
theorem dX6_refresh_63 : decode cX6_refresh 63 = .ok (.iconst 0, 1) := by decide +kernel
theorem dX6_refresh_64 : decode cX6_refresh 64 = .ok (.invokevirtual 49, 3) := by decide +kernel
theorem dX6_refresh_67 : decode cX6_refresh 67 = .ok (.return_, 1) := by decide +kernel
theorem dX6_grow_0 : decode cX6_grow 0 = .ok (.aload_n 0, 1) := by decide +kernel
theorem dX6_grow_1 : decode cX6_grow 1 = .ok (.dup, 1) := by decide +kernel
theorem dX6_grow_2 : decode cX6_grow 2 = .ok (.getfield 15, 3) := by decide +kernel
theorem dX6_grow_5 : decode cX6_grow 5 = .ok (.iconst 1, 1) := by decide +kernel
theorem dX6_grow_6 : decode cX6_grow 6 = .ok (.iadd, 1) := by decide +kernel
theorem dX6_grow_7 : decode cX6_grow 7 = .ok (.putfield 15, 3) := by decide +kernel
theorem dX6_grow_10 : decode cX6_grow 10 = .ok (.aload_n 0, 1) := by decide +kernel
theorem dX6_grow_11 : decode cX6_grow 11 = .ok (.aload_n 1, 1) := by decide +kernel
theorem dX6_grow_12 : decode cX6_grow 12 = .ok (.invokevirtual 53, 3) := by decide +kernel
theorem dX6_grow_15 : decode cX6_grow 15 = .ok (.istore_n 3, 1) := by decide +kernel
theorem dX6_grow_16 : decode cX6_grow 16 = .ok (.iload_n 3, 1) := by decide +kernel
theorem dX6_grow_17 : decode cX6_grow 17 = .ok (.bipush (-2), 2) := by decide +kernel
theorem dX6_grow_19 : decode cX6_grow 19 = .ok (.if_icmp .ne 9, 3) := by decide +kernel
theorem dX6_grow_22 : decode cX6_grow 22 = .ok (.iload_n 2, 1) := by decide +kernel
theorem dX6_grow_23 : decode cX6_grow 23 = .ok (.bipush 24, 2) := by decide +kernel
theorem dX6_grow_25 : decode cX6_grow 25 = .ok (.if_icmp .lt 14, 3) := by decide +kernel
theorem dX6_grow_28 : decode cX6_grow 28 = .ok (.aload_n 0, 1) := by decide +kernel
theorem dX6_grow_29 : decode cX6_grow 29 = .ok (.iload_n 3, 1) := by decide +kernel
theorem dX6_grow_30 : decode cX6_grow 30 = .ok (.iload_n 2, 1) := by decide +kernel
theorem dX6_grow_31 : decode cX6_grow 31 = .ok (.aload_n 1, 1) := by decide +kernel
theorem dX6_grow_32 : decode cX6_grow 32 = .ok (.getfield 57, 3) := by decide +kernel
theorem dX6_grow_35 : decode cX6_grow 35 = .ok (.invokevirtual 60, 3) := by decide +kernel
theorem dX6_grow_38 : decode cX6_grow 38 = .ok (.return_, 1) := by decide +kernel
theorem dX6_grow_39 : decode cX6_grow 39 = .ok (.aload_n 0, 1) := by decide +kernel
theorem dX6_grow_40 : decode cX6_grow 40 = .ok (.aload_n 1, 1) := by decide +kernel
theorem dX6_grow_41 : decode cX6_grow 41 = .ok (.getfield 57, 3) := by decide +kernel
theorem dX6_grow_44 : decode cX6_grow 44 = .ok (.invokevirtual 64, 3) := by decide +kernel
theorem dX6_grow_47 : decode cX6_grow 47 = .ok (.istore 4, 2) := by decide +kernel
theorem dX6_grow_49 : decode cX6_grow 49 = .ok (.aload_n 0, 1) := by decide +kernel
theorem dX6_grow_50 : decode cX6_grow 50 = .ok (.getfield 32, 3) := by decide +kernel
theorem dX6_grow_53 : decode cX6_grow 53 = .ok (.iload 4, 2) := by decide +kernel
theorem dX6_grow_55 : decode cX6_grow 55 = .ok (.iaload, 1) := by decide +kernel
theorem dX6_grow_56 : decode cX6_grow 56 = .ok (.istore 5, 2) := by decide +kernel
theorem dX6_grow_58 : decode cX6_grow 58 = .ok (.aload_n 0, 1) := by decide +kernel
theorem dX6_grow_59 : decode cX6_grow 59 = .ok (.getfield 36, 3) := by decide +kernel
theorem dX6_grow_62 : decode cX6_grow 62 = .ok (.iload 4, 2) := by decide +kernel
theorem dX6_grow_64 : decode cX6_grow 64 = .ok (.iaload, 1) := by decide +kernel
theorem dX6_grow_65 : decode cX6_grow 65 = .ok (.istore 6, 2) := by decide +kernel
theorem dX6_grow_67 : decode cX6_grow 67 = .ok (.iload 5, 2) := by decide +kernel
theorem dX6_grow_69 : decode cX6_grow 69 = .ok (.iload 6, 2) := by decide +kernel
theorem dX6_grow_71 : decode cX6_grow 71 = .ok (.iadd, 1) := by decide +kernel
theorem dX6_grow_72 : decode cX6_grow 72 = .ok (.iconst 2, 1) := by decide +kernel
theorem dX6_grow_73 : decode cX6_grow 73 = .ok (.invokestatic 68, 3) := by decide +kernel
theorem dX6_grow_76 : decode cX6_grow 76 = .ok (.istore 7, 2) := by decide +kernel
theorem dX6_grow_78 : decode cX6_grow 78 = .ok (.aload_n 0, 1) := by decide +kernel
theorem dX6_grow_79 : decode cX6_grow 79 = .ok (.getfield 36, 3) := by decide +kernel
theorem dX6_grow_82 : decode cX6_grow 82 = .ok (.iload 4, 2) := by decide +kernel
theorem dX6_grow_84 : decode cX6_grow 84 = .ok (.iload 7, 2) := by decide +kernel
theorem dX6_grow_86 : decode cX6_grow 86 = .ok (.iastore, 1) := by decide +kernel
theorem dX6_grow_87 : decode cX6_grow 87 = .ok (.aload_n 0, 1) := by decide +kernel
theorem dX6_grow_88 : decode cX6_grow 88 = .ok (.aload_n 1, 1) := by decide +kernel
theorem dX6_grow_89 : decode cX6_grow 89 = .ok (.iload_n 2, 1) := by decide +kernel
theorem dX6_grow_90 : decode cX6_grow 90 = .ok (.iconst 1, 1) := by decide +kernel
theorem dX6_grow_91 : decode cX6_grow 91 = .ok (.iadd, 1) := by decide +kernel
theorem dX6_grow_92 : decode cX6_grow 92 = .ok (.invokevirtual 49, 3) := by decide +kernel
theorem dX6_grow_95 : decode cX6_grow 95 = .ok (.aload_n 0, 1) := by decide +kernel
theorem dX6_grow_96 : decode cX6_grow 96 = .ok (.getfield 36, 3) := by decide +kernel
theorem dX6_grow_99 : decode cX6_grow 99 = .ok (.iload 4, 2) := by decide +kernel
theorem dX6_grow_101 : decode cX6_grow 101 = .ok (.iload 6, 2) := by decide +kernel
theorem dX6_grow_103 : decode cX6_grow 103 = .ok (.iastore, 1) := by decide +kernel
theorem dX6_grow_104 : decode cX6_grow 104 = .ok (.aload_n 0, 1) := by decide +kernel
theorem dX6_grow_105 : decode cX6_grow 105 = .ok (.getfield 32, 3) := by decide +kernel
theorem dX6_grow_108 : decode cX6_grow 108 = .ok (.iload 4, 2) := by decide +kernel
theorem dX6_grow_110 : decode cX6_grow 110 = .ok (.iload 7, 2) := by decide +kernel
theorem dX6_grow_112 : decode cX6_grow 112 = .ok (.iconst 1, 1) := by decide +kernel
theorem dX6_grow_113 : decode cX6_grow 113 = .ok (.iadd, 1) := by decide +kernel
theorem dX6_grow_114 : decode cX6_grow 114 = .ok (.iastore, 1) := by decide +kernel
theorem dX6_grow_115 : decode cX6_grow 115 = .ok (.aload_n 0, 1) := by decide +kernel
theorem dX6_grow_116 : decode cX6_grow 116 = .ok (.aload_n 1, 1) := by decide +kernel
theorem dX6_grow_117 : decode cX6_grow 117 = .ok (.iload_n 2, 1) := by decide +kernel
theorem dX6_grow_118 : decode cX6_grow 118 = .ok (.iconst 1, 1) := by decide +kernel
theorem dX6_grow_119 : decode cX6_grow 119 = .ok (.iadd, 1) := by decide +kernel
theorem dX6_grow_120 : decode cX6_grow 120 = .ok (.invokevirtual 49, 3) := by decide +kernel
theorem dX6_grow_123 : decode cX6_grow 123 = .ok (.aload_n 0, 1) := by decide +kernel
theorem dX6_grow_124 : decode cX6_grow 124 = .ok (.getfield 32, 3) := by decide +kernel
theorem dX6_grow_127 : decode cX6_grow 127 = .ok (.iload 4, 2) := by decide +kernel
theorem dX6_grow_129 : decode cX6_grow 129 = .ok (.iload 5, 2) := by decide +kernel
theorem dX6_grow_131 : decode cX6_grow 131 = .ok (.iastore, 1) := by decide +kernel
theorem dX6_grow_132 : decode cX6_grow 132 = .ok (.return_, 1) := by decide +kernel
theorem dX6_verdictOf_0 : decode cX6_verdictOf 0 = .ok (.iconst (-1), 1) := by decide +kernel
theorem dX6_verdictOf_1 : decode cX6_verdictOf 1 = .ok (.istore_n 2, 1) := by decide +kernel
theorem dX6_verdictOf_2 : decode cX6_verdictOf 2 = .ok (.iconst 0, 1) := by decide +kernel
theorem dX6_verdictOf_3 : decode cX6_verdictOf 3 = .ok (.istore_n 3, 1) := by decide +kernel
theorem dX6_verdictOf_4 : decode cX6_verdictOf 4 = .ok (.iload_n 3, 1) := by decide +kernel
theorem dX6_verdictOf_5 : decode cX6_verdictOf 5 = .ok (.aload_n 1, 1) := by decide +kernel
theorem dX6_verdictOf_6 : decode cX6_verdictOf 6 = .ok (.getfield 74, 3) := by decide +kernel
theorem dX6_verdictOf_9 : decode cX6_verdictOf 9 = .ok (.if_icmp .ge 84, 3) := by decide +kernel
theorem dX6_verdictOf_12 : decode cX6_verdictOf 12 = .ok (.aload_n 1, 1) := by decide +kernel
theorem dX6_verdictOf_13 : decode cX6_verdictOf 13 = .ok (.getfield 77, 3) := by decide +kernel
theorem dX6_verdictOf_16 : decode cX6_verdictOf 16 = .ok (.iload_n 3, 1) := by decide +kernel
theorem dX6_verdictOf_17 : decode cX6_verdictOf 17 = .ok (.aaload, 1) := by decide +kernel
theorem dX6_verdictOf_18 : decode cX6_verdictOf 18 = .ok (.astore 4, 2) := by decide +kernel
theorem dX6_verdictOf_20 : decode cX6_verdictOf 20 = .ok (.aload 4, 2) := by decide +kernel
theorem dX6_verdictOf_22 : decode cX6_verdictOf 22 = .ok (.aload_n 0, 1) := by decide +kernel
theorem dX6_verdictOf_23 : decode cX6_verdictOf 23 = .ok (.getfield 32, 3) := by decide +kernel
theorem dX6_verdictOf_26 : decode cX6_verdictOf 26 = .ok (.aload_n 0, 1) := by decide +kernel
theorem dX6_verdictOf_27 : decode cX6_verdictOf 27 = .ok (.getfield 36, 3) := by decide +kernel
theorem dX6_verdictOf_30 : decode cX6_verdictOf 30 = .ok (.aload_n 1, 1) := by decide +kernel
theorem dX6_verdictOf_31 : decode cX6_verdictOf 31 = .ok (.getfield 57, 3) := by decide +kernel
theorem dX6_verdictOf_34 : decode cX6_verdictOf 34 = .ok (.invokevirtual 81, 3) := by decide +kernel
theorem dX6_verdictOf_37 : decode cX6_verdictOf 37 = .ok (.istore 5, 2) := by decide +kernel
theorem dX6_verdictOf_39 : decode cX6_verdictOf 39 = .ok (.aload 4, 2) := by decide +kernel
theorem dX6_verdictOf_41 : decode cX6_verdictOf 41 = .ok (.aload_n 0, 1) := by decide +kernel
theorem dX6_verdictOf_42 : decode cX6_verdictOf 42 = .ok (.getfield 32, 3) := by decide +kernel
theorem dX6_verdictOf_45 : decode cX6_verdictOf 45 = .ok (.aload_n 0, 1) := by decide +kernel
theorem dX6_verdictOf_46 : decode cX6_verdictOf 46 = .ok (.getfield 36, 3) := by decide +kernel
theorem dX6_verdictOf_49 : decode cX6_verdictOf 49 = .ok (.aload_n 1, 1) := by decide +kernel
theorem dX6_verdictOf_50 : decode cX6_verdictOf 50 = .ok (.getfield 57, 3) := by decide +kernel
theorem dX6_verdictOf_53 : decode cX6_verdictOf 53 = .ok (.invokevirtual 87, 3) := by decide +kernel
theorem dX6_verdictOf_56 : decode cX6_verdictOf 56 = .ok (.istore 6, 2) := by decide +kernel
theorem dX6_verdictOf_58 : decode cX6_verdictOf 58 = .ok (.aload 4, 2) := by decide +kernel
theorem dX6_verdictOf_60 : decode cX6_verdictOf 60 = .ok (.iload 5, 2) := by decide +kernel
theorem dX6_verdictOf_62 : decode cX6_verdictOf 62 = .ok (.iload 6, 2) := by decide +kernel
theorem dX6_verdictOf_64 : decode cX6_verdictOf 64 = .ok (.invokevirtual 90, 3) := by decide +kernel
theorem dX6_verdictOf_67 : decode cX6_verdictOf 67 = .ok (.ifCond .eq 5, 3) := by decide +kernel
theorem dX6_verdictOf_70 : decode cX6_verdictOf 70 = .ok (.iload_n 3, 1) := by decide +kernel
theorem dX6_verdictOf_71 : decode cX6_verdictOf 71 = .ok (.ireturn, 1) := by decide +kernel
theorem dX6_verdictOf_72 : decode cX6_verdictOf 72 = .ok (.aload 4, 2) := by decide +kernel
theorem dX6_verdictOf_74 : decode cX6_verdictOf 74 = .ok (.iload 5, 2) := by decide +kernel
theorem dX6_verdictOf_76 : decode cX6_verdictOf 76 = .ok (.iload 6, 2) := by decide +kernel
theorem dX6_verdictOf_78 : decode cX6_verdictOf 78 = .ok (.invokevirtual 94, 3) := by decide +kernel
theorem dX6_verdictOf_81 : decode cX6_verdictOf 81 = .ok (.ifCond .ne 6, 3) := by decide +kernel
theorem dX6_verdictOf_84 : decode cX6_verdictOf 84 = .ok (.bipush (-2), 2) := by decide +kernel
theorem dX6_verdictOf_86 : decode cX6_verdictOf 86 = .ok (.istore_n 2, 1) := by decide +kernel
theorem dX6_verdictOf_87 : decode cX6_verdictOf 87 = .ok (.iinc 3 1, 3) := by decide +kernel
theorem dX6_verdictOf_90 : decode cX6_verdictOf 90 = .ok (.goto (-86), 3) := by decide +kernel
theorem dX6_verdictOf_93 : decode cX6_verdictOf 93 = .ok (.iload_n 2, 1) := by decide +kernel
theorem dX6_verdictOf_94 : decode cX6_verdictOf 94 = .ok (.ireturn, 1) := by decide +kernel
theorem dX6_widest_0 : decode cX6_widest 0 = .ok (.iconst 0, 1) := by decide +kernel
theorem dX6_widest_1 : decode cX6_widest 1 = .ok (.istore_n 2, 1) := by decide +kernel
theorem dX6_widest_2 : decode cX6_widest 2 = .ok (.iconst 1, 1) := by decide +kernel
theorem dX6_widest_3 : decode cX6_widest 3 = .ok (.istore_n 3, 1) := by decide +kernel
theorem dX6_widest_4 : decode cX6_widest 4 = .ok (.iload_n 3, 1) := by decide +kernel
theorem dX6_widest_5 : decode cX6_widest 5 = .ok (.iload_n 1, 1) := by decide +kernel
theorem dX6_widest_6 : decode cX6_widest 6 = .ok (.if_icmp .ge 40, 3) := by decide +kernel
theorem dX6_widest_9 : decode cX6_widest 9 = .ok (.aload_n 0, 1) := by decide +kernel
theorem dX6_widest_10 : decode cX6_widest 10 = .ok (.getfield 36, 3) := by decide +kernel
theorem dX6_widest_13 : decode cX6_widest 13 = .ok (.iload_n 3, 1) := by decide +kernel
theorem dX6_widest_14 : decode cX6_widest 14 = .ok (.iaload, 1) := by decide +kernel
theorem dX6_widest_15 : decode cX6_widest 15 = .ok (.aload_n 0, 1) := by decide +kernel
theorem dX6_widest_16 : decode cX6_widest 16 = .ok (.getfield 32, 3) := by decide +kernel
theorem dX6_widest_19 : decode cX6_widest 19 = .ok (.iload_n 3, 1) := by decide +kernel
theorem dX6_widest_20 : decode cX6_widest 20 = .ok (.iaload, 1) := by decide +kernel
theorem dX6_widest_21 : decode cX6_widest 21 = .ok (.isub, 1) := by decide +kernel
theorem dX6_widest_22 : decode cX6_widest 22 = .ok (.aload_n 0, 1) := by decide +kernel
theorem dX6_widest_23 : decode cX6_widest 23 = .ok (.getfield 36, 3) := by decide +kernel
theorem dX6_widest_26 : decode cX6_widest 26 = .ok (.iload_n 2, 1) := by decide +kernel
theorem dX6_widest_27 : decode cX6_widest 27 = .ok (.iaload, 1) := by decide +kernel
theorem dX6_widest_28 : decode cX6_widest 28 = .ok (.aload_n 0, 1) := by decide +kernel
theorem dX6_widest_29 : decode cX6_widest 29 = .ok (.getfield 32, 3) := by decide +kernel
theorem dX6_widest_32 : decode cX6_widest 32 = .ok (.iload_n 2, 1) := by decide +kernel
theorem dX6_widest_33 : decode cX6_widest 33 = .ok (.iaload, 1) := by decide +kernel
theorem dX6_widest_34 : decode cX6_widest 34 = .ok (.isub, 1) := by decide +kernel
theorem dX6_widest_35 : decode cX6_widest 35 = .ok (.if_icmp .le 5, 3) := by decide +kernel
theorem dX6_widest_38 : decode cX6_widest 38 = .ok (.iload_n 3, 1) := by decide +kernel
theorem dX6_widest_39 : decode cX6_widest 39 = .ok (.istore_n 2, 1) := by decide +kernel
theorem dX6_widest_40 : decode cX6_widest 40 = .ok (.iinc 3 1, 3) := by decide +kernel
theorem dX6_widest_43 : decode cX6_widest 43 = .ok (.goto (-39), 3) := by decide +kernel
theorem dX6_widest_46 : decode cX6_widest 46 = .ok (.iload_n 2, 1) := by decide +kernel
theorem dX6_widest_47 : decode cX6_widest 47 = .ok (.ireturn, 1) := by decide +kernel
theorem dX6_addLeaf_0 : decode cX6_addLeaf 0 = .ok (.aload_n 0, 1) := by decide +kernel
theorem dX6_addLeaf_1 : decode cX6_addLeaf 1 = .ok (.getfield 19, 3) := by decide +kernel
theorem dX6_addLeaf_4 : decode cX6_addLeaf 4 = .ok (.sipush 4096, 3) := by decide +kernel
theorem dX6_addLeaf_7 : decode cX6_addLeaf 7 = .ok (.if_icmp .lt 4, 3) := by decide +kernel
theorem dX6_addLeaf_10 : decode cX6_addLeaf 10 = .ok (.return_, 1) := by decide +kernel
theorem dX6_addLeaf_11 : decode cX6_addLeaf 11 = .ok (.aload_n 0, 1) := by decide +kernel
theorem dX6_addLeaf_12 : decode cX6_addLeaf 12 = .ok (.getfield 32, 3) := by decide +kernel
theorem dX6_addLeaf_15 : decode cX6_addLeaf 15 = .ok (.iload_n 3, 1) := by decide +kernel
theorem dX6_addLeaf_16 : decode cX6_addLeaf 16 = .ok (.invokestatic 97, 3) := by decide +kernel
theorem dX6_addLeaf_19 : decode cX6_addLeaf 19 = .ok (.i2l, 1) := by decide +kernel
theorem dX6_addLeaf_20 : decode cX6_addLeaf 20 = .ok (.aload_n 0, 1) := by decide +kernel
theorem dX6_addLeaf_21 : decode cX6_addLeaf 21 = .ok (.getfield 36, 3) := by decide +kernel
theorem dX6_addLeaf_24 : decode cX6_addLeaf 24 = .ok (.iload_n 3, 1) := by decide +kernel
theorem dX6_addLeaf_25 : decode cX6_addLeaf 25 = .ok (.invokestatic 97, 3) := by decide +kernel
theorem dX6_addLeaf_28 : decode cX6_addLeaf 28 = .ok (.i2l, 1) := by decide +kernel
theorem dX6_addLeaf_29 : decode cX6_addLeaf 29 = .ok (.bipush 20, 2) := by decide +kernel
theorem dX6_addLeaf_31 : decode cX6_addLeaf 31 = .ok (.lshl, 1) := by decide +kernel
theorem dX6_addLeaf_32 : decode cX6_addLeaf 32 = .ok (.lor, 1) := by decide +kernel
theorem dX6_addLeaf_33 : decode cX6_addLeaf 33 = .ok (.lstore 4, 2) := by decide +kernel
theorem dX6_addLeaf_35 : decode cX6_addLeaf 35 = .ok (.aload_n 0, 1) := by decide +kernel
theorem dX6_addLeaf_36 : decode cX6_addLeaf 36 = .ok (.getfield 28, 3) := by decide +kernel
theorem dX6_addLeaf_39 : decode cX6_addLeaf 39 = .ok (.aload_n 0, 1) := by decide +kernel
theorem dX6_addLeaf_40 : decode cX6_addLeaf 40 = .ok (.getfield 19, 3) := by decide +kernel
theorem dX6_addLeaf_43 : decode cX6_addLeaf 43 = .ok (.lload 4, 2) := by decide +kernel
theorem dX6_addLeaf_45 : decode cX6_addLeaf 45 = .ok (.iload_n 1, 1) := by decide +kernel
theorem dX6_addLeaf_46 : decode cX6_addLeaf 46 = .ok (.iconst 1, 1) := by decide +kernel
theorem dX6_addLeaf_47 : decode cX6_addLeaf 47 = .ok (.iadd, 1) := by decide +kernel
theorem dX6_addLeaf_48 : decode cX6_addLeaf 48 = .ok (.i2l, 1) := by decide +kernel
theorem dX6_addLeaf_49 : decode cX6_addLeaf 49 = .ok (.bipush 40, 2) := by decide +kernel
theorem dX6_addLeaf_51 : decode cX6_addLeaf 51 = .ok (.lshl, 1) := by decide +kernel
theorem dX6_addLeaf_52 : decode cX6_addLeaf 52 = .ok (.lor, 1) := by decide +kernel
theorem dX6_addLeaf_53 : decode cX6_addLeaf 53 = .ok (.lastore, 1) := by decide +kernel
theorem dX6_addLeaf_54 : decode cX6_addLeaf 54 = .ok (.aload_n 0, 1) := by decide +kernel
theorem dX6_addLeaf_55 : decode cX6_addLeaf 55 = .ok (.dup, 1) := by decide +kernel
theorem dX6_addLeaf_56 : decode cX6_addLeaf 56 = .ok (.getfield 19, 3) := by decide +kernel
theorem dX6_addLeaf_59 : decode cX6_addLeaf 59 = .ok (.iconst 1, 1) := by decide +kernel
theorem dX6_addLeaf_60 : decode cX6_addLeaf 60 = .ok (.iadd, 1) := by decide +kernel
theorem dX6_addLeaf_61 : decode cX6_addLeaf 61 = .ok (.putfield 19, 3) := by decide +kernel
theorem dX6_addLeaf_64 : decode cX6_addLeaf 64 = .ok (.aload_n 0, 1) := by decide +kernel
theorem dX6_addLeaf_65 : decode cX6_addLeaf 65 = .ok (.dup, 1) := by decide +kernel
theorem dX6_addLeaf_66 : decode cX6_addLeaf 66 = .ok (.getfield 22, 3) := by decide +kernel
theorem dX6_addLeaf_69 : decode cX6_addLeaf 69 = .ok (.iload_n 1, 1) := by decide +kernel
theorem dX6_addLeaf_70 : decode cX6_addLeaf 70 = .ok (.ifCond .lt 7, 3) := by decide +kernel
theorem dX6_addLeaf_73 : decode cX6_addLeaf 73 = .ok (.iconst 1, 1) := by decide +kernel
theorem dX6_addLeaf_74 : decode cX6_addLeaf 74 = .ok (.goto 4, 3) := by decide +kernel
theorem dX6_addLeaf_77 : decode cX6_addLeaf 77 = .ok (.iconst 0, 1) := by decide +kernel
theorem dX6_addLeaf_78 : decode cX6_addLeaf 78 = .ok (.iadd, 1) := by decide +kernel
theorem dX6_addLeaf_79 : decode cX6_addLeaf 79 = .ok (.putfield 22, 3) := by decide +kernel
theorem dX6_addLeaf_82 : decode cX6_addLeaf 82 = .ok (.aload_n 0, 1) := by decide +kernel
theorem dX6_addLeaf_83 : decode cX6_addLeaf 83 = .ok (.aload_n 0, 1) := by decide +kernel
theorem dX6_addLeaf_84 : decode cX6_addLeaf 84 = .ok (.getfield 25, 3) := by decide +kernel
theorem dX6_addLeaf_87 : decode cX6_addLeaf 87 = .ok (.iload_n 2, 1) := by decide +kernel
theorem dX6_addLeaf_88 : decode cX6_addLeaf 88 = .ok (.invokestatic 101, 3) := by decide +kernel
theorem dX6_addLeaf_91 : decode cX6_addLeaf 91 = .ok (.putfield 25, 3) := by decide +kernel
theorem dX6_addLeaf_94 : decode cX6_addLeaf 94 = .ok (.return_, 1) := by decide +kernel
theorem dX6_hasLeaf_0 : decode cX6_hasLeaf 0 = .ok (.iload_n 1, 1) := by decide +kernel
theorem dX6_hasLeaf_1 : decode cX6_hasLeaf 1 = .ok (.ifCond .lt 15, 3) := by decide +kernel
theorem dX6_hasLeaf_4 : decode cX6_hasLeaf 4 = .ok (.iload_n 1, 1) := by decide +kernel
theorem dX6_hasLeaf_5 : decode cX6_hasLeaf 5 = .ok (.aload_n 0, 1) := by decide +kernel
theorem dX6_hasLeaf_6 : decode cX6_hasLeaf 6 = .ok (.getfield 19, 3) := by decide +kernel
theorem dX6_hasLeaf_9 : decode cX6_hasLeaf 9 = .ok (.if_icmp .ge 7, 3) := by decide +kernel
theorem dX6_hasLeaf_12 : decode cX6_hasLeaf 12 = .ok (.iconst 1, 1) := by decide +kernel
theorem dX6_hasLeaf_13 : decode cX6_hasLeaf 13 = .ok (.goto 4, 3) := by decide +kernel
theorem dX6_hasLeaf_16 : decode cX6_hasLeaf 16 = .ok (.iconst 0, 1) := by decide +kernel
theorem dX6_hasLeaf_17 : decode cX6_hasLeaf 17 = .ok (.ireturn, 1) := by decide +kernel
theorem dX6_lowOf_0 : decode cX6_lowOf 0 = .ok (.aload_n 0, 1) := by decide +kernel
theorem dX6_lowOf_1 : decode cX6_lowOf 1 = .ok (.getfield 28, 3) := by decide +kernel
theorem dX6_lowOf_4 : decode cX6_lowOf 4 = .ok (.iload_n 1, 1) := by decide +kernel
theorem dX6_lowOf_5 : decode cX6_lowOf 5 = .ok (.laload, 1) := by decide +kernel
theorem dX6_lowOf_6 : decode cX6_lowOf 6 = .ok (.ldc2_w 104, 3) := by decide +kernel
theorem dX6_lowOf_9 : decode cX6_lowOf 9 = .ok (.land, 1) := by decide +kernel
theorem dX6_lowOf_10 : decode cX6_lowOf 10 = .ok (.l2i, 1) := by decide +kernel
theorem dX6_lowOf_11 : decode cX6_lowOf 11 = .ok (.iload_n 2, 1) := by decide +kernel
theorem dX6_lowOf_12 : decode cX6_lowOf 12 = .ok (.invokestatic 106, 3) := by decide +kernel
theorem dX6_lowOf_15 : decode cX6_lowOf 15 = .ok (.ireturn, 1) := by decide +kernel
theorem dX6_highOf_0 : decode cX6_highOf 0 = .ok (.aload_n 0, 1) := by decide +kernel
theorem dX6_highOf_1 : decode cX6_highOf 1 = .ok (.getfield 28, 3) := by decide +kernel
theorem dX6_highOf_4 : decode cX6_highOf 4 = .ok (.iload_n 1, 1) := by decide +kernel
theorem dX6_highOf_5 : decode cX6_highOf 5 = .ok (.laload, 1) := by decide +kernel
theorem dX6_highOf_6 : decode cX6_highOf 6 = .ok (.bipush 20, 2) := by decide +kernel
theorem dX6_highOf_8 : decode cX6_highOf 8 = .ok (.lshr, 1) := by decide +kernel
theorem dX6_highOf_9 : decode cX6_highOf 9 = .ok (.ldc2_w 104, 3) := by decide +kernel
theorem dX6_highOf_12 : decode cX6_highOf 12 = .ok (.land, 1) := by decide +kernel
theorem dX6_highOf_13 : decode cX6_highOf 13 = .ok (.l2i, 1) := by decide +kernel
theorem dX6_highOf_14 : decode cX6_highOf 14 = .ok (.iload_n 2, 1) := by decide +kernel
theorem dX6_highOf_15 : decode cX6_highOf 15 = .ok (.invokestatic 106, 3) := by decide +kernel
theorem dX6_highOf_18 : decode cX6_highOf 18 = .ok (.ireturn, 1) := by decide +kernel
theorem dX6_deadRow_0 : decode cX6_deadRow 0 = .ok (.aload_n 0, 1) := by decide +kernel
theorem dX6_deadRow_1 : decode cX6_deadRow 1 = .ok (.getfield 28, 3) := by decide +kernel
theorem dX6_deadRow_4 : decode cX6_deadRow 4 = .ok (.iload_n 1, 1) := by decide +kernel
theorem dX6_deadRow_5 : decode cX6_deadRow 5 = .ok (.laload, 1) := by decide +kernel
theorem dX6_deadRow_6 : decode cX6_deadRow 6 = .ok (.bipush 40, 2) := by decide +kernel
theorem dX6_deadRow_8 : decode cX6_deadRow 8 = .ok (.lshr, 1) := by decide +kernel
theorem dX6_deadRow_9 : decode cX6_deadRow 9 = .ok (.l2i, 1) := by decide +kernel
theorem dX6_deadRow_10 : decode cX6_deadRow 10 = .ok (.iconst 1, 1) := by decide +kernel
theorem dX6_deadRow_11 : decode cX6_deadRow 11 = .ok (.isub, 1) := by decide +kernel
theorem dX6_deadRow_12 : decode cX6_deadRow 12 = .ok (.ireturn, 1) := by decide +kernel
theorem dX6_pointsIn_0 : decode cX6_pointsIn 0 = .ok (.iconst 1, 1) := by decide +kernel
theorem dX6_pointsIn_1 : decode cX6_pointsIn 1 = .ok (.istore_n 3, 1) := by decide +kernel
theorem dX6_pointsIn_2 : decode cX6_pointsIn 2 = .ok (.iconst 0, 1) := by decide +kernel
theorem dX6_pointsIn_3 : decode cX6_pointsIn 3 = .ok (.istore 4, 2) := by decide +kernel
theorem dX6_pointsIn_5 : decode cX6_pointsIn 5 = .ok (.iload 4, 2) := by decide +kernel
theorem dX6_pointsIn_7 : decode cX6_pointsIn 7 = .ok (.iload_n 2, 1) := by decide +kernel
theorem dX6_pointsIn_8 : decode cX6_pointsIn 8 = .ok (.if_icmp .ge 29, 3) := by decide +kernel
theorem dX6_pointsIn_11 : decode cX6_pointsIn 11 = .ok (.iload_n 3, 1) := by decide +kernel
theorem dX6_pointsIn_12 : decode cX6_pointsIn 12 = .ok (.aload_n 0, 1) := by decide +kernel
theorem dX6_pointsIn_13 : decode cX6_pointsIn 13 = .ok (.iload_n 1, 1) := by decide +kernel
theorem dX6_pointsIn_14 : decode cX6_pointsIn 14 = .ok (.iload 4, 2) := by decide +kernel
theorem dX6_pointsIn_16 : decode cX6_pointsIn 16 = .ok (.invokevirtual 109, 3) := by decide +kernel
theorem dX6_pointsIn_19 : decode cX6_pointsIn 19 = .ok (.aload_n 0, 1) := by decide +kernel
theorem dX6_pointsIn_20 : decode cX6_pointsIn 20 = .ok (.iload_n 1, 1) := by decide +kernel
theorem dX6_pointsIn_21 : decode cX6_pointsIn 21 = .ok (.iload 4, 2) := by decide +kernel
theorem dX6_pointsIn_23 : decode cX6_pointsIn 23 = .ok (.invokevirtual 112, 3) := by decide +kernel
theorem dX6_pointsIn_26 : decode cX6_pointsIn 26 = .ok (.isub, 1) := by decide +kernel
theorem dX6_pointsIn_27 : decode cX6_pointsIn 27 = .ok (.iconst 1, 1) := by decide +kernel
theorem dX6_pointsIn_28 : decode cX6_pointsIn 28 = .ok (.iadd, 1) := by decide +kernel
theorem dX6_pointsIn_29 : decode cX6_pointsIn 29 = .ok (.imul, 1) := by decide +kernel
theorem dX6_pointsIn_30 : decode cX6_pointsIn 30 = .ok (.istore_n 3, 1) := by decide +kernel
theorem dX6_pointsIn_31 : decode cX6_pointsIn 31 = .ok (.iinc 4 1, 3) := by decide +kernel
theorem dX6_pointsIn_34 : decode cX6_pointsIn 34 = .ok (.goto (-29), 3) := by decide +kernel
theorem dX6_pointsIn_37 : decode cX6_pointsIn 37 = .ok (.iload_n 3, 1) := by decide +kernel
theorem dX6_pointsIn_38 : decode cX6_pointsIn 38 = .ok (.ireturn, 1) := by decide +kernel
theorem dX6_proofOf_0 : decode cX6_proofOf 0 = .ok (.aload_n 0, 1) := by decide +kernel
theorem dX6_proofOf_1 : decode cX6_proofOf 1 = .ok (.iload_n 1, 1) := by decide +kernel
theorem dX6_proofOf_2 : decode cX6_proofOf 2 = .ok (.iload_n 2, 1) := by decide +kernel
theorem dX6_proofOf_3 : decode cX6_proofOf 3 = .ok (.invokevirtual 115, 3) := by decide +kernel
theorem dX6_proofOf_6 : decode cX6_proofOf 6 = .ok (.istore_n 3, 1) := by decide +kernel
theorem dX6_proofOf_7 : decode cX6_proofOf 7 = .ok (.aload_n 0, 1) := by decide +kernel
theorem dX6_proofOf_8 : decode cX6_proofOf 8 = .ok (.iload_n 1, 1) := by decide +kernel
theorem dX6_proofOf_9 : decode cX6_proofOf 9 = .ok (.invokevirtual 118, 3) := by decide +kernel
theorem dX6_proofOf_12 : decode cX6_proofOf 12 = .ok (.ifCond .ge 7, 3) := by decide +kernel
theorem dX6_proofOf_15 : decode cX6_proofOf 15 = .ok (.iload_n 3, 1) := by decide +kernel
theorem dX6_proofOf_16 : decode cX6_proofOf 16 = .ok (.goto 5, 3) := by decide +kernel
theorem dX6_proofOf_19 : decode cX6_proofOf 19 = .ok (.iload_n 3, 1) := by decide +kernel
theorem dX6_proofOf_20 : decode cX6_proofOf 20 = .ok (.ineg, 1) := by decide +kernel
theorem dX6_proofOf_21 : decode cX6_proofOf 21 = .ok (.ireturn, 1) := by decide +kernel
theorem dX6_leafWith_0 : decode cX6_leafWith 0 = .ok (.iconst 0, 1) := by decide +kernel
theorem dX6_leafWith_1 : decode cX6_leafWith 1 = .ok (.istore_n 3, 1) := by decide +kernel
theorem dX6_leafWith_2 : decode cX6_leafWith 2 = .ok (.iload_n 3, 1) := by decide +kernel
theorem dX6_leafWith_3 : decode cX6_leafWith 3 = .ok (.aload_n 0, 1) := by decide +kernel
theorem dX6_leafWith_4 : decode cX6_leafWith 4 = .ok (.getfield 19, 3) := by decide +kernel
theorem dX6_leafWith_7 : decode cX6_leafWith 7 = .ok (.if_icmp .ge 21, 3) := by decide +kernel
theorem dX6_leafWith_10 : decode cX6_leafWith 10 = .ok (.aload_n 0, 1) := by decide +kernel
theorem dX6_leafWith_11 : decode cX6_leafWith 11 = .ok (.iload_n 3, 1) := by decide +kernel
theorem dX6_leafWith_12 : decode cX6_leafWith 12 = .ok (.aload_n 1, 1) := by decide +kernel
theorem dX6_leafWith_13 : decode cX6_leafWith 13 = .ok (.iload_n 2, 1) := by decide +kernel
theorem dX6_leafWith_14 : decode cX6_leafWith 14 = .ok (.invokevirtual 121, 3) := by decide +kernel
theorem dX6_leafWith_17 : decode cX6_leafWith 17 = .ok (.ifCond .eq 5, 3) := by decide +kernel
theorem dX6_leafWith_20 : decode cX6_leafWith 20 = .ok (.iload_n 3, 1) := by decide +kernel
theorem dX6_leafWith_21 : decode cX6_leafWith 21 = .ok (.ireturn, 1) := by decide +kernel
theorem dX6_leafWith_22 : decode cX6_leafWith 22 = .ok (.iinc 3 1, 3) := by decide +kernel
theorem dX6_leafWith_25 : decode cX6_leafWith 25 = .ok (.goto (-23), 3) := by decide +kernel
theorem dX6_leafWith_28 : decode cX6_leafWith 28 = .ok (.iconst (-1), 1) := by decide +kernel
theorem dX6_leafWith_29 : decode cX6_leafWith 29 = .ok (.ireturn, 1) := by decide +kernel
theorem dX6_isWith_0 : decode cX6_isWith 0 = .ok (.iconst 0, 1) := by decide +kernel
theorem dX6_isWith_1 : decode cX6_isWith 1 = .ok (.istore 4, 2) := by decide +kernel
theorem dX6_isWith_3 : decode cX6_isWith 3 = .ok (.iload 4, 2) := by decide +kernel
theorem dX6_isWith_5 : decode cX6_isWith 5 = .ok (.iload_n 3, 1) := by decide +kernel
theorem dX6_isWith_6 : decode cX6_isWith 6 = .ok (.if_icmp .ge 43, 3) := by decide +kernel
theorem dX6_isWith_9 : decode cX6_isWith 9 = .ok (.aload_n 2, 1) := by decide +kernel
theorem dX6_isWith_10 : decode cX6_isWith 10 = .ok (.iload 4, 2) := by decide +kernel
theorem dX6_isWith_12 : decode cX6_isWith 12 = .ok (.laload, 1) := by decide +kernel
theorem dX6_isWith_13 : decode cX6_isWith 13 = .ok (.aload_n 0, 1) := by decide +kernel
theorem dX6_isWith_14 : decode cX6_isWith 14 = .ok (.iload_n 1, 1) := by decide +kernel
theorem dX6_isWith_15 : decode cX6_isWith 15 = .ok (.iload 4, 2) := by decide +kernel
theorem dX6_isWith_17 : decode cX6_isWith 17 = .ok (.invokevirtual 112, 3) := by decide +kernel
theorem dX6_isWith_20 : decode cX6_isWith 20 = .ok (.i2l, 1) := by decide +kernel
theorem dX6_isWith_21 : decode cX6_isWith 21 = .ok (.lcmp, 1) := by decide +kernel
theorem dX6_isWith_22 : decode cX6_isWith 22 = .ok (.ifCond .lt 19, 3) := by decide +kernel
theorem dX6_isWith_25 : decode cX6_isWith 25 = .ok (.aload_n 2, 1) := by decide +kernel
theorem dX6_isWith_26 : decode cX6_isWith 26 = .ok (.iload 4, 2) := by decide +kernel
theorem dX6_isWith_28 : decode cX6_isWith 28 = .ok (.laload, 1) := by decide +kernel
theorem dX6_isWith_29 : decode cX6_isWith 29 = .ok (.aload_n 0, 1) := by decide +kernel
theorem dX6_isWith_30 : decode cX6_isWith 30 = .ok (.iload_n 1, 1) := by decide +kernel
theorem dX6_isWith_31 : decode cX6_isWith 31 = .ok (.iload 4, 2) := by decide +kernel
theorem dX6_isWith_33 : decode cX6_isWith 33 = .ok (.invokevirtual 109, 3) := by decide +kernel
theorem dX6_isWith_36 : decode cX6_isWith 36 = .ok (.i2l, 1) := by decide +kernel
theorem dX6_isWith_37 : decode cX6_isWith 37 = .ok (.lcmp, 1) := by decide +kernel
theorem dX6_isWith_38 : decode cX6_isWith 38 = .ok (.ifCond .le 5, 3) := by decide +kernel
theorem dX6_isWith_41 : decode cX6_isWith 41 = .ok (.iconst 0, 1) := by decide +kernel
theorem dX6_isWith_42 : decode cX6_isWith 42 = .ok (.ireturn, 1) := by decide +kernel
theorem dX6_isWith_43 : decode cX6_isWith 43 = .ok (.iinc 4 1, 3) := by decide +kernel
theorem dX6_isWith_46 : decode cX6_isWith 46 = .ok (.goto (-43), 3) := by decide +kernel
theorem dX6_isWith_49 : decode cX6_isWith 49 = .ok (.iconst 1, 1) := by decide +kernel
theorem dX6_isWith_50 : decode cX6_isWith 50 = .ok (.ireturn, 1) := by decide +kernel
theorem dX7_letters_0 : decode cX7_letters 0 = .ok (.iload_n 1, 1) := by decide +kernel
theorem dX7_letters_1 : decode cX7_letters 1 = .ok (.iconst 1, 1) := by decide +kernel
theorem dX7_letters_2 : decode cX7_letters 2 = .ok (.if_icmp .lt 8, 3) := by decide +kernel
theorem dX7_letters_5 : decode cX7_letters 5 = .ok (.iload_n 1, 1) := by decide +kernel
theorem dX7_letters_6 : decode cX7_letters 6 = .ok (.iconst 4, 1) := by decide +kernel
theorem dX7_letters_7 : decode cX7_letters 7 = .ok (.if_icmp .le 9, 3) := by decide +kernel
theorem dX7_letters_10 : decode cX7_letters 10 = .ok (.aload_n 0, 1) := by decide +kernel
theorem dX7_letters_11 : decode cX7_letters 11 = .ok (.iconst 0, 1) := by decide +kernel
theorem dX7_letters_12 : decode cX7_letters 12 = .ok (.invokevirtual 68, 3) := by decide +kernel
theorem dX7_letters_15 : decode cX7_letters 15 = .ok (.ireturn, 1) := by decide +kernel
theorem dX7_letters_16 : decode cX7_letters 16 = .ok (.aload_n 0, 1) := by decide +kernel
theorem dX7_letters_17 : decode cX7_letters 17 = .ok (.getfield 12, 3) := by decide +kernel
theorem dX7_letters_20 : decode cX7_letters 20 = .ok (.iload_n 1, 1) := by decide +kernel
theorem dX7_letters_21 : decode cX7_letters 21 = .ok (.invokevirtual 72, 3) := by decide +kernel
theorem dX7_letters_24 : decode cX7_letters 24 = .ok (.sipush 4096, 3) := by decide +kernel
theorem dX7_letters_27 : decode cX7_letters 27 = .ok (.if_icmp .le 9, 3) := by decide +kernel
theorem dX7_letters_30 : decode cX7_letters 30 = .ok (.aload_n 0, 1) := by decide +kernel
theorem dX7_letters_31 : decode cX7_letters 31 = .ok (.iconst 1, 1) := by decide +kernel
theorem dX7_letters_32 : decode cX7_letters 32 = .ok (.invokevirtual 68, 3) := by decide +kernel
theorem dX7_letters_35 : decode cX7_letters 35 = .ok (.ireturn, 1) := by decide +kernel
theorem dX7_letters_36 : decode cX7_letters 36 = .ok (.aload_n 0, 1) := by decide +kernel
theorem dX7_letters_37 : decode cX7_letters 37 = .ok (.getfield 12, 3) := by decide +kernel
theorem dX7_letters_40 : decode cX7_letters 40 = .ok (.getfield 75, 3) := by decide +kernel
theorem dX7_letters_43 : decode cX7_letters 43 = .ok (.istore_n 2, 1) := by decide +kernel
theorem dX7_letters_44 : decode cX7_letters 44 = .ok (.aload_n 0, 1) := by decide +kernel
theorem dX7_letters_45 : decode cX7_letters 45 = .ok (.getfield 12, 3) := by decide +kernel
theorem dX7_letters_48 : decode cX7_letters 48 = .ok (.iload_n 1, 1) := by decide +kernel
theorem dX7_letters_49 : decode cX7_letters 49 = .ok (.invokevirtual 79, 3) := by decide +kernel
theorem dX7_letters_52 : decode cX7_letters 52 = .ok (.aload_n 0, 1) := by decide +kernel
theorem dX7_letters_53 : decode cX7_letters 53 = .ok (.invokevirtual 83, 3) := by decide +kernel
theorem dX7_letters_56 : decode cX7_letters 56 = .ok (.iload_n 2, 1) := by decide +kernel
theorem dX7_letters_57 : decode cX7_letters 57 = .ok (.ireturn, 1) := by decide +kernel
theorem dX7_box_0 : decode cX7_box 0 = .ok (.aload_n 0, 1) := by decide +kernel
theorem dX7_box_1 : decode cX7_box 1 = .ok (.getfield 12, 3) := by decide +kernel
theorem dX7_box_4 : decode cX7_box 4 = .ok (.iload_n 1, 1) := by decide +kernel
theorem dX7_box_5 : decode cX7_box 5 = .ok (.invokevirtual 86, 3) := by decide +kernel
theorem dX7_box_8 : decode cX7_box 8 = .ok (.ifCond .eq 26, 3) := by decide +kernel
theorem dX7_box_11 : decode cX7_box 11 = .ok (.iload_n 2, 1) := by decide +kernel
theorem dX7_box_12 : decode cX7_box 12 = .ok (.bipush 9, 2) := by decide +kernel
theorem dX7_box_14 : decode cX7_box 14 = .ok (.invokestatic 90, 3) := by decide +kernel
theorem dX7_box_17 : decode cX7_box 17 = .ok (.ifCond .eq 17, 3) := by decide +kernel
theorem dX7_box_20 : decode cX7_box 20 = .ok (.iload_n 3, 1) := by decide +kernel
theorem dX7_box_21 : decode cX7_box 21 = .ok (.bipush 9, 2) := by decide +kernel
theorem dX7_box_23 : decode cX7_box 23 = .ok (.invokestatic 90, 3) := by decide +kernel
theorem dX7_box_26 : decode cX7_box 26 = .ok (.ifCond .eq 8, 3) := by decide +kernel
theorem dX7_box_29 : decode cX7_box 29 = .ok (.iload_n 2, 1) := by decide +kernel
theorem dX7_box_30 : decode cX7_box 30 = .ok (.iload_n 3, 1) := by decide +kernel
theorem dX7_box_31 : decode cX7_box 31 = .ok (.if_icmp .le 9, 3) := by decide +kernel
theorem dX7_box_34 : decode cX7_box 34 = .ok (.aload_n 0, 1) := by decide +kernel
theorem dX7_box_35 : decode cX7_box 35 = .ok (.iconst 0, 1) := by decide +kernel
theorem dX7_box_36 : decode cX7_box 36 = .ok (.invokevirtual 68, 3) := by decide +kernel
theorem dX7_box_39 : decode cX7_box 39 = .ok (.ireturn, 1) := by decide +kernel
theorem dX7_box_40 : decode cX7_box 40 = .ok (.aload_n 0, 1) := by decide +kernel
theorem dX7_box_41 : decode cX7_box 41 = .ok (.getfield 12, 3) := by decide +kernel
theorem dX7_box_44 : decode cX7_box 44 = .ok (.iload_n 1, 1) := by decide +kernel
theorem dX7_box_45 : decode cX7_box 45 = .ok (.iload_n 2, 1) := by decide +kernel
theorem dX7_box_46 : decode cX7_box 46 = .ok (.iload_n 3, 1) := by decide +kernel
theorem dX7_box_47 : decode cX7_box 47 = .ok (.invokevirtual 94, 3) := by decide +kernel
theorem dX7_box_50 : decode cX7_box 50 = .ok (.sipush 4096, 3) := by decide +kernel
theorem dX7_box_53 : decode cX7_box 53 = .ok (.if_icmp .le 9, 3) := by decide +kernel
theorem dX7_box_56 : decode cX7_box 56 = .ok (.aload_n 0, 1) := by decide +kernel
theorem dX7_box_57 : decode cX7_box 57 = .ok (.iconst 1, 1) := by decide +kernel
theorem dX7_box_58 : decode cX7_box 58 = .ok (.invokevirtual 68, 3) := by decide +kernel
theorem dX7_box_61 : decode cX7_box 61 = .ok (.ireturn, 1) := by decide +kernel
theorem dX7_box_62 : decode cX7_box 62 = .ok (.aload_n 0, 1) := by decide +kernel
theorem dX7_box_63 : decode cX7_box 63 = .ok (.getfield 12, 3) := by decide +kernel
theorem dX7_box_66 : decode cX7_box 66 = .ok (.iload_n 1, 1) := by decide +kernel
theorem dX7_box_67 : decode cX7_box 67 = .ok (.iload_n 2, 1) := by decide +kernel
theorem dX7_box_68 : decode cX7_box 68 = .ok (.iload_n 3, 1) := by decide +kernel
theorem dX7_box_69 : decode cX7_box 69 = .ok (.invokevirtual 98, 3) := by decide +kernel
theorem dX7_box_72 : decode cX7_box 72 = .ok (.aload_n 0, 1) := by decide +kernel
theorem dX7_box_73 : decode cX7_box 73 = .ok (.invokevirtual 83, 3) := by decide +kernel
theorem dX7_box_76 : decode cX7_box 76 = .ok (.aload_n 0, 1) := by decide +kernel
theorem dX7_box_77 : decode cX7_box 77 = .ok (.getfield 12, 3) := by decide +kernel
theorem dX7_box_80 : decode cX7_box 80 = .ok (.invokevirtual 102, 3) := by decide +kernel
theorem dX7_box_83 : decode cX7_box 83 = .ok (.ireturn, 1) := by decide +kernel
theorem dX7_boxOf_0 : decode cX7_boxOf 0 = .ok (.aload_n 0, 1) := by decide +kernel
theorem dX7_boxOf_1 : decode cX7_boxOf 1 = .ok (.getfield 12, 3) := by decide +kernel
theorem dX7_boxOf_4 : decode cX7_boxOf 4 = .ok (.iload_n 1, 1) := by decide +kernel
theorem dX7_boxOf_5 : decode cX7_boxOf 5 = .ok (.invokevirtual 86, 3) := by decide +kernel
theorem dX7_boxOf_8 : decode cX7_boxOf 8 = .ok (.ifCond .eq 12, 3) := by decide +kernel
theorem dX7_boxOf_11 : decode cX7_boxOf 11 = .ok (.iload_n 2, 1) := by decide +kernel
theorem dX7_boxOf_12 : decode cX7_boxOf 12 = .ok (.ifCond .lt 8, 3) := by decide +kernel
theorem dX7_boxOf_15 : decode cX7_boxOf 15 = .ok (.iload_n 2, 1) := by decide +kernel
theorem dX7_boxOf_16 : decode cX7_boxOf 16 = .ok (.iconst 1, 1) := by decide +kernel
theorem dX7_boxOf_17 : decode cX7_boxOf 17 = .ok (.if_icmp .le 9, 3) := by decide +kernel
theorem dX7_boxOf_20 : decode cX7_boxOf 20 = .ok (.aload_n 0, 1) := by decide +kernel
theorem dX7_boxOf_21 : decode cX7_boxOf 21 = .ok (.iconst 0, 1) := by decide +kernel
theorem dX7_boxOf_22 : decode cX7_boxOf 22 = .ok (.invokevirtual 68, 3) := by decide +kernel
theorem dX7_boxOf_25 : decode cX7_boxOf 25 = .ok (.ireturn, 1) := by decide +kernel
theorem dX7_boxOf_26 : decode cX7_boxOf 26 = .ok (.iload_n 2, 1) := by decide +kernel
theorem dX7_boxOf_27 : decode cX7_boxOf 27 = .ok (.ifCond .ne 15, 3) := by decide +kernel
theorem dX7_boxOf_30 : decode cX7_boxOf 30 = .ok (.aload_n 0, 1) := by decide +kernel
theorem dX7_boxOf_31 : decode cX7_boxOf 31 = .ok (.getfield 12, 3) := by decide +kernel
theorem dX7_boxOf_34 : decode cX7_boxOf 34 = .ok (.getfield 106, 3) := by decide +kernel
theorem dX7_boxOf_37 : decode cX7_boxOf 37 = .ok (.iload_n 1, 1) := by decide +kernel
theorem dX7_boxOf_38 : decode cX7_boxOf 38 = .ok (.iaload, 1) := by decide +kernel
theorem dX7_boxOf_39 : decode cX7_boxOf 39 = .ok (.goto 12, 3) := by decide +kernel
theorem dX7_boxOf_42 : decode cX7_boxOf 42 = .ok (.aload_n 0, 1) := by decide +kernel
theorem dX7_boxOf_43 : decode cX7_boxOf 43 = .ok (.getfield 12, 3) := by decide +kernel
theorem dX7_boxOf_46 : decode cX7_boxOf 46 = .ok (.getfield 109, 3) := by decide +kernel
theorem dX7_boxOf_49 : decode cX7_boxOf 49 = .ok (.iload_n 1, 1) := by decide +kernel
theorem dX7_boxOf_50 : decode cX7_boxOf 50 = .ok (.iaload, 1) := by decide +kernel
theorem dX7_boxOf_51 : decode cX7_boxOf 51 = .ok (.ireturn, 1) := by decide +kernel
theorem dX7_row_0 : decode cX7_row 0 = .ok (.iconst 0, 1) := by decide +kernel
theorem dX7_row_1 : decode cX7_row 1 = .ok (.iload_n 1, 1) := by decide +kernel
theorem dX7_row_2 : decode cX7_row 2 = .ok (.invokestatic 112, 3) := by decide +kernel
theorem dX7_row_5 : decode cX7_row 5 = .ok (.ifCond .eq 19, 3) := by decide +kernel
theorem dX7_row_8 : decode cX7_row 8 = .ok (.iconst 1, 1) := by decide +kernel
theorem dX7_row_9 : decode cX7_row 9 = .ok (.iload_n 2, 1) := by decide +kernel
theorem dX7_row_10 : decode cX7_row 10 = .ok (.invokestatic 112, 3) := by decide +kernel
theorem dX7_row_13 : decode cX7_row 13 = .ok (.ifCond .eq 11, 3) := by decide +kernel
theorem dX7_row_16 : decode cX7_row 16 = .ok (.iconst 2, 1) := by decide +kernel
theorem dX7_row_17 : decode cX7_row 17 = .ok (.iload_n 3, 1) := by decide +kernel
theorem dX7_row_18 : decode cX7_row 18 = .ok (.invokestatic 112, 3) := by decide +kernel
theorem dX7_row_21 : decode cX7_row 21 = .ok (.ifCond .ne 9, 3) := by decide +kernel
theorem dX7_row_24 : decode cX7_row 24 = .ok (.aload_n 0, 1) := by decide +kernel
theorem dX7_row_25 : decode cX7_row 25 = .ok (.iconst 0, 1) := by decide +kernel
theorem dX7_row_26 : decode cX7_row 26 = .ok (.invokevirtual 68, 3) := by decide +kernel
theorem dX7_row_29 : decode cX7_row 29 = .ok (.ireturn, 1) := by decide +kernel
theorem dX7_row_30 : decode cX7_row 30 = .ok (.aload_n 0, 1) := by decide +kernel
theorem dX7_row_31 : decode cX7_row 31 = .ok (.getfield 12, 3) := by decide +kernel
theorem dX7_row_34 : decode cX7_row 34 = .ok (.getfield 117, 3) := by decide +kernel
theorem dX7_row_37 : decode cX7_row 37 = .ok (.bipush 8, 2) := by decide +kernel
theorem dX7_row_39 : decode cX7_row 39 = .ok (.if_icmp .lt 9, 3) := by decide +kernel
theorem dX7_row_42 : decode cX7_row 42 = .ok (.aload_n 0, 1) := by decide +kernel
theorem dX7_row_43 : decode cX7_row 43 = .ok (.iconst 1, 1) := by decide +kernel
theorem dX7_row_44 : decode cX7_row 44 = .ok (.invokevirtual 68, 3) := by decide +kernel
theorem dX7_row_47 : decode cX7_row 47 = .ok (.ireturn, 1) := by decide +kernel
theorem dX7_row_48 : decode cX7_row 48 = .ok (.aload_n 0, 1) := by decide +kernel
theorem dX7_row_49 : decode cX7_row 49 = .ok (.getfield 12, 3) := by decide +kernel
theorem dX7_row_52 : decode cX7_row 52 = .ok (.iload_n 1, 1) := by decide +kernel
theorem dX7_row_53 : decode cX7_row 53 = .ok (.iload_n 2, 1) := by decide +kernel
theorem dX7_row_54 : decode cX7_row 54 = .ok (.iload_n 3, 1) := by decide +kernel
theorem dX7_row_55 : decode cX7_row 55 = .ok (.invokevirtual 120, 3) := by decide +kernel
theorem dX7_row_58 : decode cX7_row 58 = .ok (.pop, 1) := by decide +kernel
theorem dX7_row_59 : decode cX7_row 59 = .ok (.aload_n 0, 1) := by decide +kernel
theorem dX7_row_60 : decode cX7_row 60 = .ok (.invokevirtual 83, 3) := by decide +kernel
theorem dX7_row_63 : decode cX7_row 63 = .ok (.aload_n 0, 1) := by decide +kernel
theorem dX7_row_64 : decode cX7_row 64 = .ok (.getfield 12, 3) := by decide +kernel
theorem dX7_row_67 : decode cX7_row 67 = .ok (.getfield 117, 3) := by decide +kernel
theorem dX7_row_70 : decode cX7_row 70 = .ok (.iconst 1, 1) := by decide +kernel
theorem dX7_row_71 : decode cX7_row 71 = .ok (.isub, 1) := by decide +kernel
theorem dX7_row_72 : decode cX7_row 72 = .ok (.ireturn, 1) := by decide +kernel
theorem dX7_of_0 : decode cX7_of 0 = .ok (.aload_n 0, 1) := by decide +kernel
theorem dX7_of_1 : decode cX7_of 1 = .ok (.getfield 12, 3) := by decide +kernel
theorem dX7_of_4 : decode cX7_of 4 = .ok (.iload_n 1, 1) := by decide +kernel
theorem dX7_of_5 : decode cX7_of 5 = .ok (.invokevirtual 124, 3) := by decide +kernel
theorem dX7_of_8 : decode cX7_of 8 = .ok (.ifCond .eq 13, 3) := by decide +kernel
theorem dX7_of_11 : decode cX7_of 11 = .ok (.iload_n 2, 1) := by decide +kernel
theorem dX7_of_12 : decode cX7_of 12 = .ok (.ifCond .lt 9, 3) := by decide +kernel
theorem dX7_of_15 : decode cX7_of 15 = .ok (.iload_n 2, 1) := by decide +kernel
