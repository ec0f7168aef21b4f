theorem dX7_bodyChanged_0 : decode cX7_bodyChanged 0 = .ok (.aload_n 0, 1) := by decide +kernel
theorem dX7_bodyChanged_1 : decode cX7_bodyChanged 1 = .ok (.getfield 29, 3) := by decide +kernel
theorem dX7_bodyChanged_4 : decode cX7_bodyChanged 4 = .ok (.iconst 1, 1) := by decide +kernel
theorem dX7_bodyChanged_5 : decode cX7_bodyChanged 5 = .ok (.putfield 361, 3) := by decide +kernel
theorem dX7_bodyChanged_8 : decode cX7_bodyChanged 8 = .ok (.aload_n 0, 1) := by decide +kernel
theorem dX7_bodyChanged_9 : decode cX7_bodyChanged 9 = .ok (.getfield 36, 3) := by decide +kernel
theorem dX7_bodyChanged_12 : decode cX7_bodyChanged 12 = .ok (.iconst 1, 1) := by decide +kernel
theorem dX7_bodyChanged_13 : decode cX7_bodyChanged 13 = .ok (.putfield 364, 3) := by decide +kernel
theorem dX7_bodyChanged_16 : decode cX7_bodyChanged 16 = .ok (.return_, 1) := by decide +kernel
theorem dX7_within_0 : decode cX7_within 0 = .ok (.iload_n 0, 1) := by decide +kernel
theorem dX7_within_1 : decode cX7_within 1 = .ok (.iload_n 1, 1) := by decide +kernel
theorem dX7_within_2 : decode cX7_within 2 = .ok (.ineg, 1) := by decide +kernel
theorem dX7_within_3 : decode cX7_within 3 = .ok (.if_icmp .lt 12, 3) := by decide +kernel
theorem dX7_within_6 : decode cX7_within 6 = .ok (.iload_n 0, 1) := by decide +kernel
theorem dX7_within_7 : decode cX7_within 7 = .ok (.iload_n 1, 1) := by decide +kernel
theorem dX7_within_8 : decode cX7_within 8 = .ok (.if_icmp .gt 7, 3) := by decide +kernel
theorem dX7_within_11 : decode cX7_within 11 = .ok (.iconst 1, 1) := by decide +kernel
theorem dX7_within_12 : decode cX7_within 12 = .ok (.goto 4, 3) := by decide +kernel
theorem dX7_within_15 : decode cX7_within 15 = .ok (.iconst 0, 1) := by decide +kernel
theorem dX7_within_16 : decode cX7_within 16 = .ok (.ireturn, 1) := by decide +kernel
theorem dX7_isPair_0 : decode cX7_isPair 0 = .ok (.aload_n 0, 1) := by decide +kernel
theorem dX7_isPair_1 : decode cX7_isPair 1 = .ok (.getfield 12, 3) := by decide +kernel
theorem dX7_isPair_4 : decode cX7_isPair 4 = .ok (.iload_n 1, 1) := by decide +kernel
theorem dX7_isPair_5 : decode cX7_isPair 5 = .ok (.invokevirtual 86, 3) := by decide +kernel
theorem dX7_isPair_8 : decode cX7_isPair 8 = .ok (.ifCond .eq 23, 3) := by decide +kernel
theorem dX7_isPair_11 : decode cX7_isPair 11 = .ok (.aload_n 0, 1) := by decide +kernel
theorem dX7_isPair_12 : decode cX7_isPair 12 = .ok (.getfield 12, 3) := by decide +kernel
theorem dX7_isPair_15 : decode cX7_isPair 15 = .ok (.iload_n 2, 1) := by decide +kernel
theorem dX7_isPair_16 : decode cX7_isPair 16 = .ok (.invokevirtual 86, 3) := by decide +kernel
theorem dX7_isPair_19 : decode cX7_isPair 19 = .ok (.ifCond .eq 12, 3) := by decide +kernel
theorem dX7_isPair_22 : decode cX7_isPair 22 = .ok (.iload_n 1, 1) := by decide +kernel
theorem dX7_isPair_23 : decode cX7_isPair 23 = .ok (.iload_n 2, 1) := by decide +kernel
theorem dX7_isPair_24 : decode cX7_isPair 24 = .ok (.if_icmp .eq 7, 3) := by decide +kernel
theorem dX7_isPair_27 : decode cX7_isPair 27 = .ok (.iconst 1, 1) := by decide +kernel
theorem dX7_isPair_28 : decode cX7_isPair 28 = .ok (.goto 4, 3) := by decide +kernel
theorem dX7_isPair_31 : decode cX7_isPair 31 = .ok (.iconst 0, 1) := by decide +kernel
theorem dX7_isPair_32 : decode cX7_isPair 32 = .ok (.ireturn, 1) := by decide +kernel
theorem dX7_isSheet_0 : decode cX7_isSheet 0 = .ok (.iload_n 0, 1) := by decide +kernel
theorem dX7_isSheet_1 : decode cX7_isSheet 1 = .ok (.ifCond .lt 12, 3) := by decide +kernel
theorem dX7_isSheet_4 : decode cX7_isSheet 4 = .ok (.iload_n 0, 1) := by decide +kernel
theorem dX7_isSheet_5 : decode cX7_isSheet 5 = .ok (.iconst 4, 1) := by decide +kernel
theorem dX7_isSheet_6 : decode cX7_isSheet 6 = .ok (.if_icmp .ge 7, 3) := by decide +kernel
theorem dX7_isSheet_9 : decode cX7_isSheet 9 = .ok (.iconst 1, 1) := by decide +kernel
theorem dX7_isSheet_10 : decode cX7_isSheet 10 = .ok (.goto 4, 3) := by decide +kernel
theorem dX7_isSheet_13 : decode cX7_isSheet 13 = .ok (.iconst 0, 1) := by decide +kernel
theorem dX7_isSheet_14 : decode cX7_isSheet 14 = .ok (.ireturn, 1) := by decide +kernel
theorem dX7_sheetTrouble_0 : decode cX7_sheetTrouble 0 = .ok (.iload_n 1, 1) := by decide +kernel
theorem dX7_sheetTrouble_1 : decode cX7_sheetTrouble 1 = .ok (.invokestatic 338, 3) := by decide +kernel
theorem dX7_sheetTrouble_4 : decode cX7_sheetTrouble 4 = .ok (.ifCond .ne 5, 3) := by decide +kernel
theorem dX7_sheetTrouble_7 : decode cX7_sheetTrouble 7 = .ok (.iconst 0, 1) := by decide +kernel
theorem dX7_sheetTrouble_8 : decode cX7_sheetTrouble 8 = .ok (.ireturn, 1) := by decide +kernel
theorem dX7_sheetTrouble_9 : decode cX7_sheetTrouble 9 = .ok (.aload_n 0, 1) := by decide +kernel
theorem dX7_sheetTrouble_10 : decode cX7_sheetTrouble 10 = .ok (.getfield 56, 3) := by decide +kernel
theorem dX7_sheetTrouble_13 : decode cX7_sheetTrouble 13 = .ok (.iload_n 1, 1) := by decide +kernel
theorem dX7_sheetTrouble_14 : decode cX7_sheetTrouble 14 = .ok (.aaload, 1) := by decide +kernel
theorem dX7_sheetTrouble_15 : decode cX7_sheetTrouble 15 = .ok (.getfield 348, 3) := by decide +kernel
theorem dX7_sheetTrouble_18 : decode cX7_sheetTrouble 18 = .ok (.ifCond .ne 7, 3) := by decide +kernel
theorem dX7_sheetTrouble_21 : decode cX7_sheetTrouble 21 = .ok (.iconst 5, 1) := by decide +kernel
theorem dX7_sheetTrouble_22 : decode cX7_sheetTrouble 22 = .ok (.goto 4, 3) := by decide +kernel
theorem dX7_sheetTrouble_25 : decode cX7_sheetTrouble 25 = .ok (.iconst (-1), 1) := by decide +kernel
theorem dX7_sheetTrouble_26 : decode cX7_sheetTrouble 26 = .ok (.ireturn, 1) := by decide +kernel
theorem dX7_pointTrouble_0 : decode cX7_pointTrouble 0 = .ok (.aload_n 0, 1) := by decide +kernel
theorem dX7_pointTrouble_1 : decode cX7_pointTrouble 1 = .ok (.iload_n 1, 1) := by decide +kernel
theorem dX7_pointTrouble_2 : decode cX7_pointTrouble 2 = .ok (.invokevirtual 267, 3) := by decide +kernel
theorem dX7_pointTrouble_5 : decode cX7_pointTrouble 5 = .ok (.istore_n 2, 1) := by decide +kernel
theorem dX7_pointTrouble_6 : decode cX7_pointTrouble 6 = .ok (.iload_n 2, 1) := by decide +kernel
theorem dX7_pointTrouble_7 : decode cX7_pointTrouble 7 = .ok (.iconst (-1), 1) := by decide +kernel
theorem dX7_pointTrouble_8 : decode cX7_pointTrouble 8 = .ok (.if_icmp .eq 5, 3) := by decide +kernel
theorem dX7_pointTrouble_11 : decode cX7_pointTrouble 11 = .ok (.iload_n 2, 1) := by decide +kernel
theorem dX7_pointTrouble_12 : decode cX7_pointTrouble 12 = .ok (.ireturn, 1) := by decide +kernel
theorem dX7_pointTrouble_13 : decode cX7_pointTrouble 13 = .ok (.aload_n 0, 1) := by decide +kernel
theorem dX7_pointTrouble_14 : decode cX7_pointTrouble 14 = .ok (.getfield 56, 3) := by decide +kernel
theorem dX7_pointTrouble_17 : decode cX7_pointTrouble 17 = .ok (.iload_n 1, 1) := by decide +kernel
theorem dX7_pointTrouble_18 : decode cX7_pointTrouble 18 = .ok (.aaload, 1) := by decide +kernel
theorem dX7_pointTrouble_19 : decode cX7_pointTrouble 19 = .ok (.getfield 270, 3) := by decide +kernel
theorem dX7_pointTrouble_22 : decode cX7_pointTrouble 22 = .ok (.aload_n 0, 1) := by decide +kernel
theorem dX7_pointTrouble_23 : decode cX7_pointTrouble 23 = .ok (.getfield 12, 3) := by decide +kernel
theorem dX7_pointTrouble_26 : decode cX7_pointTrouble 26 = .ok (.getfield 75, 3) := by decide +kernel
theorem dX7_pointTrouble_29 : decode cX7_pointTrouble 29 = .ok (.if_icmp .ge 8, 3) := by decide +kernel
theorem dX7_pointTrouble_32 : decode cX7_pointTrouble 32 = .ok (.bipush 6, 2) := by decide +kernel
theorem dX7_pointTrouble_34 : decode cX7_pointTrouble 34 = .ok (.goto 4, 3) := by decide +kernel
theorem dX7_pointTrouble_37 : decode cX7_pointTrouble 37 = .ok (.iconst (-1), 1) := by decide +kernel
theorem dX7_pointTrouble_38 : decode cX7_pointTrouble 38 = .ok (.ireturn, 1) := by decide +kernel
theorem dX7_smallPointTrouble_0 : decode cX7_smallPointTrouble 0 = .ok (.aload_n 0, 1) := by decide +kernel
theorem dX7_smallPointTrouble_1 : decode cX7_smallPointTrouble 1 = .ok (.iload_n 1, 1) := by decide +kernel
theorem dX7_smallPointTrouble_2 : decode cX7_smallPointTrouble 2 = .ok (.invokevirtual 256, 3) := by decide +kernel
theorem dX7_smallPointTrouble_5 : decode cX7_smallPointTrouble 5 = .ok (.istore_n 2, 1) := by decide +kernel
theorem dX7_smallPointTrouble_6 : decode cX7_smallPointTrouble 6 = .ok (.iload_n 2, 1) := by decide +kernel
theorem dX7_smallPointTrouble_7 : decode cX7_smallPointTrouble 7 = .ok (.iconst (-1), 1) := by decide +kernel
theorem dX7_smallPointTrouble_8 : decode cX7_smallPointTrouble 8 = .ok (.if_icmp .eq 5, 3) := by decide +kernel
theorem dX7_smallPointTrouble_11 : decode cX7_smallPointTrouble 11 = .ok (.iload_n 2, 1) := by decide +kernel
theorem dX7_smallPointTrouble_12 : decode cX7_smallPointTrouble 12 = .ok (.ireturn, 1) := by decide +kernel
theorem dX7_smallPointTrouble_13 : decode cX7_smallPointTrouble 13 = .ok (.iconst 0, 1) := by decide +kernel
theorem dX7_smallPointTrouble_14 : decode cX7_smallPointTrouble 14 = .ok (.istore_n 3, 1) := by decide +kernel
theorem dX7_smallPointTrouble_15 : decode cX7_smallPointTrouble 15 = .ok (.iload_n 3, 1) := by decide +kernel
theorem dX7_smallPointTrouble_16 : decode cX7_smallPointTrouble 16 = .ok (.aload_n 0, 1) := by decide +kernel
theorem dX7_smallPointTrouble_17 : decode cX7_smallPointTrouble 17 = .ok (.getfield 12, 3) := by decide +kernel
theorem dX7_smallPointTrouble_20 : decode cX7_smallPointTrouble 20 = .ok (.getfield 75, 3) := by decide +kernel
theorem dX7_smallPointTrouble_23 : decode cX7_smallPointTrouble 23 = .ok (.if_icmp .ge 42, 3) := by decide +kernel
theorem dX7_smallPointTrouble_26 : decode cX7_smallPointTrouble 26 = .ok (.aload_n 0, 1) := by decide +kernel
theorem dX7_smallPointTrouble_27 : decode cX7_smallPointTrouble 27 = .ok (.getfield 56, 3) := by decide +kernel
theorem dX7_smallPointTrouble_30 : decode cX7_smallPointTrouble 30 = .ok (.iload_n 1, 1) := by decide +kernel
theorem dX7_smallPointTrouble_31 : decode cX7_smallPointTrouble 31 = .ok (.aaload, 1) := by decide +kernel
theorem dX7_smallPointTrouble_32 : decode cX7_smallPointTrouble 32 = .ok (.getfield 259, 3) := by decide +kernel
theorem dX7_smallPointTrouble_35 : decode cX7_smallPointTrouble 35 = .ok (.iload_n 3, 1) := by decide +kernel
theorem dX7_smallPointTrouble_36 : decode cX7_smallPointTrouble 36 = .ok (.laload, 1) := by decide +kernel
theorem dX7_smallPointTrouble_37 : decode cX7_smallPointTrouble 37 = .ok (.lstore 4, 2) := by decide +kernel
theorem dX7_smallPointTrouble_39 : decode cX7_smallPointTrouble 39 = .ok (.lload 4, 2) := by decide +kernel
theorem dX7_smallPointTrouble_41 : decode cX7_smallPointTrouble 41 = .ok (.ldc2_w 365, 3) := by decide +kernel
theorem dX7_smallPointTrouble_44 : decode cX7_smallPointTrouble 44 = .ok (.lcmp, 1) := by decide +kernel
theorem dX7_smallPointTrouble_45 : decode cX7_smallPointTrouble 45 = .ok (.ifCond .lt 12, 3) := by decide +kernel
theorem dX7_smallPointTrouble_48 : decode cX7_smallPointTrouble 48 = .ok (.lload 4, 2) := by decide +kernel
theorem dX7_smallPointTrouble_50 : decode cX7_smallPointTrouble 50 = .ok (.ldc2_w 367, 3) := by decide +kernel
theorem dX7_smallPointTrouble_53 : decode cX7_smallPointTrouble 53 = .ok (.lcmp, 1) := by decide +kernel
theorem dX7_smallPointTrouble_54 : decode cX7_smallPointTrouble 54 = .ok (.ifCond .le 5, 3) := by decide +kernel
theorem dX7_smallPointTrouble_57 : decode cX7_smallPointTrouble 57 = .ok (.iconst 4, 1) := by decide +kernel
theorem dX7_smallPointTrouble_58 : decode cX7_smallPointTrouble 58 = .ok (.ireturn, 1) := by decide +kernel
theorem dX7_smallPointTrouble_59 : decode cX7_smallPointTrouble 59 = .ok (.iinc 3 1, 3) := by decide +kernel
theorem dX7_smallPointTrouble_62 : decode cX7_smallPointTrouble 62 = .ok (.goto (-47), 3) := by decide +kernel
theorem dX7_smallPointTrouble_65 : decode cX7_smallPointTrouble 65 = .ok (.iconst (-1), 1) := by decide +kernel
theorem dX7_smallPointTrouble_66 : decode cX7_smallPointTrouble 66 = .ok (.ireturn, 1) := by decide +kernel
theorem dX7_readSpot_0 : decode cX7_readSpot 0 = .ok (.iconst 0, 1) := by decide +kernel
theorem dX7_readSpot_1 : decode cX7_readSpot 1 = .ok (.istore_n 2, 1) := by decide +kernel
theorem dX7_readSpot_2 : decode cX7_readSpot 2 = .ok (.iload_n 2, 1) := by decide +kernel
theorem dX7_readSpot_3 : decode cX7_readSpot 3 = .ok (.aload_n 0, 1) := by decide +kernel
theorem dX7_readSpot_4 : decode cX7_readSpot 4 = .ok (.getfield 12, 3) := by decide +kernel
theorem dX7_readSpot_7 : decode cX7_readSpot 7 = .ok (.getfield 75, 3) := by decide +kernel
theorem dX7_readSpot_10 : decode cX7_readSpot 10 = .ok (.if_icmp .ge 22, 3) := by decide +kernel
theorem dX7_readSpot_13 : decode cX7_readSpot 13 = .ok (.aload_n 0, 1) := by decide +kernel
theorem dX7_readSpot_14 : decode cX7_readSpot 14 = .ok (.getfield 64, 3) := by decide +kernel
theorem dX7_readSpot_17 : decode cX7_readSpot 17 = .ok (.iload_n 2, 1) := by decide +kernel
theorem dX7_readSpot_18 : decode cX7_readSpot 18 = .ok (.aload_n 1, 1) := by decide +kernel
theorem dX7_readSpot_19 : decode cX7_readSpot 19 = .ok (.getfield 259, 3) := by decide +kernel
theorem dX7_readSpot_22 : decode cX7_readSpot 22 = .ok (.iload_n 2, 1) := by decide +kernel
theorem dX7_readSpot_23 : decode cX7_readSpot 23 = .ok (.laload, 1) := by decide +kernel
theorem dX7_readSpot_24 : decode cX7_readSpot 24 = .ok (.l2i, 1) := by decide +kernel
theorem dX7_readSpot_25 : decode cX7_readSpot 25 = .ok (.iastore, 1) := by decide +kernel
theorem dX7_readSpot_26 : decode cX7_readSpot 26 = .ok (.iinc 2 1, 3) := by decide +kernel
theorem dX7_readSpot_29 : decode cX7_readSpot 29 = .ok (.goto (-27), 3) := by decide +kernel
theorem dX7_readSpot_32 : decode cX7_readSpot 32 = .ok (.return_, 1) := by decide +kernel
theorem dX7_greatestDivisor_0 : decode cX7_greatestDivisor 0 = .ok (.iload_n 0, 1) := by decide +kernel
theorem dX7_greatestDivisor_1 : decode cX7_greatestDivisor 1 = .ok (.istore_n 2, 1) := by decide +kernel
theorem dX7_greatestDivisor_2 : decode cX7_greatestDivisor 2 = .ok (.iload_n 1, 1) := by decide +kernel
theorem dX7_greatestDivisor_3 : decode cX7_greatestDivisor 3 = .ok (.istore_n 3, 1) := by decide +kernel
theorem dX7_greatestDivisor_4 : decode cX7_greatestDivisor 4 = .ok (.iconst 0, 1) := by decide +kernel
theorem dX7_greatestDivisor_5 : decode cX7_greatestDivisor 5 = .ok (.istore 4, 2) := by decide +kernel
theorem dX7_greatestDivisor_7 : decode cX7_greatestDivisor 7 = .ok (.iload 4, 2) := by decide +kernel
theorem dX7_greatestDivisor_9 : decode cX7_greatestDivisor 9 = .ok (.bipush 100, 2) := by decide +kernel
theorem dX7_greatestDivisor_11 : decode cX7_greatestDivisor 11 = .ok (.if_icmp .ge 23, 3) := by decide +kernel
theorem dX7_greatestDivisor_14 : decode cX7_greatestDivisor 14 = .ok (.iload_n 3, 1) := by decide +kernel
theorem dX7_greatestDivisor_15 : decode cX7_greatestDivisor 15 = .ok (.ifCond .le 19, 3) := by decide +kernel
theorem dX7_greatestDivisor_18 : decode cX7_greatestDivisor 18 = .ok (.iload_n 2, 1) := by decide +kernel
theorem dX7_greatestDivisor_19 : decode cX7_greatestDivisor 19 = .ok (.iload_n 3, 1) := by decide +kernel
theorem dX7_greatestDivisor_20 : decode cX7_greatestDivisor 20 = .ok (.irem, 1) := by decide +kernel
theorem dX7_greatestDivisor_21 : decode cX7_greatestDivisor 21 = .ok (.istore 5, 2) := by decide +kernel
theorem dX7_greatestDivisor_23 : decode cX7_greatestDivisor 23 = .ok (.iload_n 3, 1) := by decide +kernel
theorem dX7_greatestDivisor_24 : decode cX7_greatestDivisor 24 = .ok (.istore_n 2, 1) := by decide +kernel
theorem dX7_greatestDivisor_25 : decode cX7_greatestDivisor 25 = .ok (.iload 5, 2) := by decide +kernel
theorem dX7_greatestDivisor_27 : decode cX7_greatestDivisor 27 = .ok (.istore_n 3, 1) := by decide +kernel
theorem dX7_greatestDivisor_28 : decode cX7_greatestDivisor 28 = .ok (.iinc 4 1, 3) := by decide +kernel
theorem dX7_greatestDivisor_31 : decode cX7_greatestDivisor 31 = .ok (.goto (-24), 3) := by decide +kernel
theorem dX7_greatestDivisor_34 : decode cX7_greatestDivisor 34 = .ok (.iload_n 2, 1) := by decide +kernel
theorem dX7_greatestDivisor_35 : decode cX7_greatestDivisor 35 = .ok (.ireturn, 1) := by decide +kernel
theorem dX7_pack_0 : decode cX7_pack 0 = .ok (.iconst 0, 1) := by decide +kernel
theorem dX7_pack_1 : decode cX7_pack 1 = .ok (.istore_n 2, 1) := by decide +kernel
theorem dX7_pack_2 : decode cX7_pack 2 = .ok (.iconst 0, 1) := by decide +kernel
theorem dX7_pack_3 : decode cX7_pack 3 = .ok (.istore_n 3, 1) := by decide +kernel
theorem dX7_pack_4 : decode cX7_pack 4 = .ok (.iload_n 3, 1) := by decide +kernel
theorem dX7_pack_5 : decode cX7_pack 5 = .ok (.iload_n 1, 1) := by decide +kernel
theorem dX7_pack_6 : decode cX7_pack 6 = .ok (.if_icmp .ge 22, 3) := by decide +kernel
theorem dX7_pack_9 : decode cX7_pack 9 = .ok (.iload_n 2, 1) := by decide +kernel
theorem dX7_pack_10 : decode cX7_pack 10 = .ok (.aload_n 0, 1) := by decide +kernel
theorem dX7_pack_11 : decode cX7_pack 11 = .ok (.iload_n 3, 1) := by decide +kernel
theorem dX7_pack_12 : decode cX7_pack 12 = .ok (.iaload, 1) := by decide +kernel
theorem dX7_pack_13 : decode cX7_pack 13 = .ok (.bipush 9, 2) := by decide +kernel
theorem dX7_pack_15 : decode cX7_pack 15 = .ok (.iadd, 1) := by decide +kernel
theorem dX7_pack_16 : decode cX7_pack 16 = .ok (.iconst 5, 1) := by decide +kernel
theorem dX7_pack_17 : decode cX7_pack 17 = .ok (.iload_n 3, 1) := by decide +kernel
theorem dX7_pack_18 : decode cX7_pack 18 = .ok (.imul, 1) := by decide +kernel
theorem dX7_pack_19 : decode cX7_pack 19 = .ok (.ishl, 1) := by decide +kernel
theorem dX7_pack_20 : decode cX7_pack 20 = .ok (.ior, 1) := by decide +kernel
theorem dX7_pack_21 : decode cX7_pack 21 = .ok (.istore_n 2, 1) := by decide +kernel
theorem dX7_pack_22 : decode cX7_pack 22 = .ok (.iinc 3 1, 3) := by decide +kernel
theorem dX7_pack_25 : decode cX7_pack 25 = .ok (.goto (-21), 3) := by decide +kernel
theorem dX7_pack_28 : decode cX7_pack 28 = .ok (.iload_n 2, 1) := by decide +kernel
theorem dX7_pack_29 : decode cX7_pack 29 = .ok (.ireturn, 1) := by decide +kernel
theorem dX7_unpack_0 : decode cX7_unpack 0 = .ok (.iload_n 0, 1) := by decide +kernel
theorem dX7_unpack_1 : decode cX7_unpack 1 = .ok (.iconst 5, 1) := by decide +kernel
theorem dX7_unpack_2 : decode cX7_unpack 2 = .ok (.iload_n 1, 1) := by decide +kernel
theorem dX7_unpack_3 : decode cX7_unpack 3 = .ok (.imul, 1) := by decide +kernel
theorem dX7_unpack_4 : decode cX7_unpack 4 = .ok (.ishr, 1) := by decide +kernel
theorem dX7_unpack_5 : decode cX7_unpack 5 = .ok (.bipush 31, 2) := by decide +kernel
theorem dX7_unpack_7 : decode cX7_unpack 7 = .ok (.iand, 1) := by decide +kernel
theorem dX7_unpack_8 : decode cX7_unpack 8 = .ok (.bipush 9, 2) := by decide +kernel
theorem dX7_unpack_10 : decode cX7_unpack 10 = .ok (.isub, 1) := by decide +kernel
theorem dX7_unpack_11 : decode cX7_unpack 11 = .ok (.ireturn, 1) := by decide +kernel
theorem dX8_in_0 : decode cX8_in 0 = .ok (.lload_n 0, 1) := by decide +kernel
theorem dX8_in_1 : decode cX8_in 1 = .ok (.lload_n 2, 1) := by decide +kernel
theorem dX8_in_2 : decode cX8_in 2 = .ok (.lcmp, 1) := by decide +kernel
theorem dX8_in_3 : decode cX8_in 3 = .ok (.ifCond .lt 14, 3) := by decide +kernel
theorem dX8_in_6 : decode cX8_in 6 = .ok (.lload_n 0, 1) := by decide +kernel
theorem dX8_in_7 : decode cX8_in 7 = .ok (.lload 4, 2) := by decide +kernel
theorem dX8_in_9 : decode cX8_in 9 = .ok (.lcmp, 1) := by decide +kernel
theorem dX8_in_10 : decode cX8_in 10 = .ok (.ifCond .gt 7, 3) := by decide +kernel
theorem dX8_in_13 : decode cX8_in 13 = .ok (.iconst 1, 1) := by decide +kernel
theorem dX8_in_14 : decode cX8_in 14 = .ok (.goto 4, 3) := by decide +kernel
theorem dX8_in_17 : decode cX8_in 17 = .ok (.iconst 0, 1) := by decide +kernel
theorem dX8_in_18 : decode cX8_in 18 = .ok (.ireturn, 1) := by decide +kernel
theorem dX8_finds_0 : decode cX8_finds 0 = .ok (.aload_n 0, 1) := by decide +kernel
theorem dX8_finds_1 : decode cX8_finds 1 = .ok (.getfield 7, 3) := by decide +kernel
theorem dX8_finds_4 : decode cX8_finds 4 = .ok (.ldc 92, 2) := by decide +kernel
theorem dX8_finds_6 : decode cX8_finds 6 = .ok (.iload_n 1, 1) := by decide +kernel
theorem dX8_finds_7 : decode cX8_finds 7 = .ok (.isub, 1) := by decide +kernel
theorem dX8_finds_8 : decode cX8_finds 8 = .ok (.dup2, 1) := by decide +kernel
theorem dX8_finds_9 : decode cX8_finds 9 = .ok (.iaload, 1) := by decide +kernel
theorem dX8_finds_10 : decode cX8_finds 10 = .ok (.iconst 1, 1) := by decide +kernel
theorem dX8_finds_11 : decode cX8_finds 11 = .ok (.iadd, 1) := by decide +kernel
theorem dX8_finds_12 : decode cX8_finds 12 = .ok (.iastore, 1) := by decide +kernel
theorem dX8_finds_13 : decode cX8_finds 13 = .ok (.iload_n 1, 1) := by decide +kernel
theorem dX8_finds_14 : decode cX8_finds 14 = .ok (.ireturn, 1) := by decide +kernel
theorem dX8_squares_0 : decode cX8_squares 0 = .ok (.iconst 0, 1) := by decide +kernel
theorem dX8_squares_1 : decode cX8_squares 1 = .ok (.istore_n 1, 1) := by decide +kernel
theorem dX8_squares_2 : decode cX8_squares 2 = .ok (.iload_n 1, 1) := by decide +kernel
theorem dX8_squares_3 : decode cX8_squares 3 = .ok (.bipush 16, 2) := by decide +kernel
theorem dX8_squares_5 : decode cX8_squares 5 = .ok (.if_icmp .ge 26, 3) := by decide +kernel
theorem dX8_squares_8 : decode cX8_squares 8 = .ok (.aload_n 0, 1) := by decide +kernel
theorem dX8_squares_9 : decode cX8_squares 9 = .ok (.getfield 26, 3) := by decide +kernel
theorem dX8_squares_12 : decode cX8_squares 12 = .ok (.iload_n 1, 1) := by decide +kernel
theorem dX8_squares_13 : decode cX8_squares 13 = .ok (.iload_n 1, 1) := by decide +kernel
theorem dX8_squares_14 : decode cX8_squares 14 = .ok (.iconst 5, 1) := by decide +kernel
theorem dX8_squares_15 : decode cX8_squares 15 = .ok (.irem, 1) := by decide +kernel
theorem dX8_squares_16 : decode cX8_squares 16 = .ok (.ifCond .ne 7, 3) := by decide +kernel
theorem dX8_squares_19 : decode cX8_squares 19 = .ok (.iconst 1, 1) := by decide +kernel
theorem dX8_squares_20 : decode cX8_squares 20 = .ok (.goto 4, 3) := by decide +kernel
theorem dX8_squares_23 : decode cX8_squares 23 = .ok (.iconst 0, 1) := by decide +kernel
theorem dX8_squares_24 : decode cX8_squares 24 = .ok (.iastore, 1) := by decide +kernel
theorem dX8_squares_25 : decode cX8_squares 25 = .ok (.iinc 1 1, 3) := by decide +kernel
theorem dX8_squares_28 : decode cX8_squares 28 = .ok (.goto (-26), 3) := by decide +kernel
theorem dX8_squares_31 : decode cX8_squares 31 = .ok (.return_, 1) := by decide +kernel
theorem dX8_isLetter_0 : decode cX8_isLetter 0 = .ok (.iload_n 1, 1) := by decide +kernel
theorem dX8_isLetter_1 : decode cX8_isLetter 1 = .ok (.i2l, 1) := by decide +kernel
theorem dX8_isLetter_2 : decode cX8_isLetter 2 = .ok (.lconst 0, 1) := by decide +kernel
theorem dX8_isLetter_3 : decode cX8_isLetter 3 = .ok (.aload_n 0, 1) := by decide +kernel
theorem dX8_isLetter_4 : decode cX8_isLetter 4 = .ok (.getfield 13, 3) := by decide +kernel
theorem dX8_isLetter_7 : decode cX8_isLetter 7 = .ok (.iconst 1, 1) := by decide +kernel
theorem dX8_isLetter_8 : decode cX8_isLetter 8 = .ok (.isub, 1) := by decide +kernel
theorem dX8_isLetter_9 : decode cX8_isLetter 9 = .ok (.i2l, 1) := by decide +kernel
theorem dX8_isLetter_10 : decode cX8_isLetter 10 = .ok (.invokestatic 93, 3) := by decide +kernel
theorem dX8_isLetter_13 : decode cX8_isLetter 13 = .ok (.ireturn, 1) := by decide +kernel
theorem dX8_isRow_0 : decode cX8_isRow 0 = .ok (.iload_n 1, 1) := by decide +kernel
theorem dX8_isRow_1 : decode cX8_isRow 1 = .ok (.i2l, 1) := by decide +kernel
theorem dX8_isRow_2 : decode cX8_isRow 2 = .ok (.lconst 0, 1) := by decide +kernel
theorem dX8_isRow_3 : decode cX8_isRow 3 = .ok (.aload_n 0, 1) := by decide +kernel
theorem dX8_isRow_4 : decode cX8_isRow 4 = .ok (.getfield 97, 3) := by decide +kernel
theorem dX8_isRow_7 : decode cX8_isRow 7 = .ok (.iconst 1, 1) := by decide +kernel
theorem dX8_isRow_8 : decode cX8_isRow 8 = .ok (.isub, 1) := by decide +kernel
theorem dX8_isRow_9 : decode cX8_isRow 9 = .ok (.i2l, 1) := by decide +kernel
theorem dX8_isRow_10 : decode cX8_isRow 10 = .ok (.invokestatic 93, 3) := by decide +kernel
theorem dX8_isRow_13 : decode cX8_isRow 13 = .ok (.ireturn, 1) := by decide +kernel
theorem dX8_at_0 : decode cX8_at 0 = .ok (.aload_n 0, 1) := by decide +kernel
theorem dX8_at_1 : decode cX8_at 1 = .ok (.getfield 23, 3) := by decide +kernel
theorem dX8_at_4 : decode cX8_at 4 = .ok (.bipush 7, 2) := by decide +kernel
theorem dX8_at_6 : decode cX8_at 6 = .ok (.iload_n 1, 1) := by decide +kernel
theorem dX8_at_7 : decode cX8_at 7 = .ok (.imul, 1) := by decide +kernel
theorem dX8_at_8 : decode cX8_at 8 = .ok (.iload_n 2, 1) := by decide +kernel
theorem dX8_at_9 : decode cX8_at 9 = .ok (.iadd, 1) := by decide +kernel
theorem dX8_at_10 : decode cX8_at 10 = .ok (.iaload, 1) := by decide +kernel
theorem dX8_at_11 : decode cX8_at 11 = .ok (.ireturn, 1) := by decide +kernel
theorem dX8_points_0 : decode cX8_points 0 = .ok (.iconst 1, 1) := by decide +kernel
theorem dX8_points_1 : decode cX8_points 1 = .ok (.istore_n 1, 1) := by decide +kernel
theorem dX8_points_2 : decode cX8_points 2 = .ok (.iconst 0, 1) := by decide +kernel
theorem dX8_points_3 : decode cX8_points 3 = .ok (.istore_n 2, 1) := by decide +kernel
theorem dX8_points_4 : decode cX8_points 4 = .ok (.iload_n 2, 1) := by decide +kernel
theorem dX8_points_5 : decode cX8_points 5 = .ok (.aload_n 0, 1) := by decide +kernel
theorem dX8_points_6 : decode cX8_points 6 = .ok (.getfield 13, 3) := by decide +kernel
theorem dX8_points_9 : decode cX8_points 9 = .ok (.if_icmp .ge 27, 3) := by decide +kernel
theorem dX8_points_12 : decode cX8_points 12 = .ok (.iload_n 1, 1) := by decide +kernel
theorem dX8_points_13 : decode cX8_points 13 = .ok (.aload_n 0, 1) := by decide +kernel
theorem dX8_points_14 : decode cX8_points 14 = .ok (.getfield 20, 3) := by decide +kernel
theorem dX8_points_17 : decode cX8_points 17 = .ok (.iload_n 2, 1) := by decide +kernel
theorem dX8_points_18 : decode cX8_points 18 = .ok (.iaload, 1) := by decide +kernel
theorem dX8_points_19 : decode cX8_points 19 = .ok (.aload_n 0, 1) := by decide +kernel
theorem dX8_points_20 : decode cX8_points 20 = .ok (.getfield 17, 3) := by decide +kernel
theorem dX8_points_23 : decode cX8_points 23 = .ok (.iload_n 2, 1) := by decide +kernel
theorem dX8_points_24 : decode cX8_points 24 = .ok (.iaload, 1) := by decide +kernel
theorem dX8_points_25 : decode cX8_points 25 = .ok (.isub, 1) := by decide +kernel
theorem dX8_points_26 : decode cX8_points 26 = .ok (.iconst 1, 1) := by decide +kernel
theorem dX8_points_27 : decode cX8_points 27 = .ok (.iadd, 1) := by decide +kernel
theorem dX8_points_28 : decode cX8_points 28 = .ok (.imul, 1) := by decide +kernel
theorem dX8_points_29 : decode cX8_points 29 = .ok (.istore_n 1, 1) := by decide +kernel
theorem dX8_points_30 : decode cX8_points 30 = .ok (.iinc 2 1, 3) := by decide +kernel
theorem dX8_points_33 : decode cX8_points 33 = .ok (.goto (-29), 3) := by decide +kernel
theorem dX8_points_36 : decode cX8_points 36 = .ok (.iload_n 1, 1) := by decide +kernel
theorem dX8_points_37 : decode cX8_points 37 = .ok (.ireturn, 1) := by decide +kernel
theorem dX8_hasLetters_0 : decode cX8_hasLetters 0 = .ok (.iconst 1, 1) := by decide +kernel
theorem dX8_hasLetters_1 : decode cX8_hasLetters 1 = .ok (.istore_n 2, 1) := by decide +kernel
theorem dX8_hasLetters_2 : decode cX8_hasLetters 2 = .ok (.iconst 0, 1) := by decide +kernel
theorem dX8_hasLetters_3 : decode cX8_hasLetters 3 = .ok (.istore_n 3, 1) := by decide +kernel
theorem dX8_hasLetters_4 : decode cX8_hasLetters 4 = .ok (.iload_n 3, 1) := by decide +kernel
theorem dX8_hasLetters_5 : decode cX8_hasLetters 5 = .ok (.iload_n 1, 1) := by decide +kernel
theorem dX8_hasLetters_6 : decode cX8_hasLetters 6 = .ok (.if_icmp .ge 39, 3) := by decide +kernel
theorem dX8_hasLetters_9 : decode cX8_hasLetters 9 = .ok (.iload_n 2, 1) := by decide +kernel
theorem dX8_hasLetters_10 : decode cX8_hasLetters 10 = .ok (.iload_n 3, 1) := by decide +kernel
theorem dX8_hasLetters_11 : decode cX8_hasLetters 11 = .ok (.aload_n 0, 1) := by decide +kernel
theorem dX8_hasLetters_12 : decode cX8_hasLetters 12 = .ok (.getfield 13, 3) := by decide +kernel
theorem dX8_hasLetters_15 : decode cX8_hasLetters 15 = .ok (.if_icmp .ge 21, 3) := by decide +kernel
theorem dX8_hasLetters_18 : decode cX8_hasLetters 18 = .ok (.aload_n 0, 1) := by decide +kernel
theorem dX8_hasLetters_19 : decode cX8_hasLetters 19 = .ok (.getfield 20, 3) := by decide +kernel
theorem dX8_hasLetters_22 : decode cX8_hasLetters 22 = .ok (.iload_n 3, 1) := by decide +kernel
theorem dX8_hasLetters_23 : decode cX8_hasLetters 23 = .ok (.iaload, 1) := by decide +kernel
theorem dX8_hasLetters_24 : decode cX8_hasLetters 24 = .ok (.aload_n 0, 1) := by decide +kernel
theorem dX8_hasLetters_25 : decode cX8_hasLetters 25 = .ok (.getfield 17, 3) := by decide +kernel
theorem dX8_hasLetters_28 : decode cX8_hasLetters 28 = .ok (.iload_n 3, 1) := by decide +kernel
theorem dX8_hasLetters_29 : decode cX8_hasLetters 29 = .ok (.iaload, 1) := by decide +kernel
theorem dX8_hasLetters_30 : decode cX8_hasLetters 30 = .ok (.isub, 1) := by decide +kernel
theorem dX8_hasLetters_31 : decode cX8_hasLetters 31 = .ok (.iconst 1, 1) := by decide +kernel
theorem dX8_hasLetters_32 : decode cX8_hasLetters 32 = .ok (.iadd, 1) := by decide +kernel
theorem dX8_hasLetters_33 : decode cX8_hasLetters 33 = .ok (.goto 4, 3) := by decide +kernel
theorem dX8_hasLetters_36 : decode cX8_hasLetters 36 = .ok (.iconst 4, 1) := by decide +kernel
theorem dX8_hasLetters_37 : decode cX8_hasLetters 37 = .ok (.imul, 1) := by decide +kernel
theorem dX8_hasLetters_38 : decode cX8_hasLetters 38 = .ok (.istore_n 2, 1) := by decide +kernel
theorem dX8_hasLetters_39 : decode cX8_hasLetters 39 = .ok (.iinc 3 1, 3) := by decide +kernel
theorem dX8_hasLetters_42 : decode cX8_hasLetters 42 = .ok (.goto (-38), 3) := by decide +kernel
theorem dX8_hasLetters_45 : decode cX8_hasLetters 45 = .ok (.iload_n 2, 1) := by decide +kernel
theorem dX8_hasLetters_46 : decode cX8_hasLetters 46 = .ok (.sipush 4096, 3) := by decide +kernel
theorem dX8_hasLetters_49 : decode cX8_hasLetters 49 = .ok (.if_icmp .le 5, 3) := by decide +kernel
theorem dX8_hasLetters_52 : decode cX8_hasLetters 52 = .ok (.iconst 0, 1) := by decide +kernel
theorem dX8_hasLetters_53 : decode cX8_hasLetters 53 = .ok (.ireturn, 1) := by decide +kernel
theorem dX8_hasLetters_54 : decode cX8_hasLetters 54 = .ok (.aload_n 0, 1) := by decide +kernel
theorem dX8_hasLetters_55 : decode cX8_hasLetters 55 = .ok (.getfield 13, 3) := by decide +kernel
theorem dX8_hasLetters_58 : decode cX8_hasLetters 58 = .ok (.istore_n 3, 1) := by decide +kernel
theorem dX8_hasLetters_59 : decode cX8_hasLetters 59 = .ok (.iload_n 3, 1) := by decide +kernel
theorem dX8_hasLetters_60 : decode cX8_hasLetters 60 = .ok (.iload_n 1, 1) := by decide +kernel
theorem dX8_hasLetters_61 : decode cX8_hasLetters 61 = .ok (.if_icmp .ge 23, 3) := by decide +kernel
theorem dX8_hasLetters_64 : decode cX8_hasLetters 64 = .ok (.aload_n 0, 1) := by decide +kernel
theorem dX8_hasLetters_65 : decode cX8_hasLetters 65 = .ok (.getfield 17, 3) := by decide +kernel
theorem dX8_hasLetters_68 : decode cX8_hasLetters 68 = .ok (.iload_n 3, 1) := by decide +kernel
theorem dX8_hasLetters_69 : decode cX8_hasLetters 69 = .ok (.iconst 0, 1) := by decide +kernel
theorem dX8_hasLetters_70 : decode cX8_hasLetters 70 = .ok (.iastore, 1) := by decide +kernel
theorem dX8_hasLetters_71 : decode cX8_hasLetters 71 = .ok (.aload_n 0, 1) := by decide +kernel
theorem dX8_hasLetters_72 : decode cX8_hasLetters 72 = .ok (.getfield 20, 3) := by decide +kernel
theorem dX8_hasLetters_75 : decode cX8_hasLetters 75 = .ok (.iload_n 3, 1) := by decide +kernel
theorem dX8_hasLetters_76 : decode cX8_hasLetters 76 = .ok (.iconst 3, 1) := by decide +kernel
theorem dX8_hasLetters_77 : decode cX8_hasLetters 77 = .ok (.iastore, 1) := by decide +kernel
theorem dX8_hasLetters_78 : decode cX8_hasLetters 78 = .ok (.iinc 3 1, 3) := by decide +kernel
theorem dX8_hasLetters_81 : decode cX8_hasLetters 81 = .ok (.goto (-22), 3) := by decide +kernel
theorem dX8_hasLetters_84 : decode cX8_hasLetters 84 = .ok (.iload_n 1, 1) := by decide +kernel
theorem dX8_hasLetters_85 : decode cX8_hasLetters 85 = .ok (.aload_n 0, 1) := by decide +kernel
theorem dX8_hasLetters_86 : decode cX8_hasLetters 86 = .ok (.getfield 13, 3) := by decide +kernel
theorem dX8_hasLetters_89 : decode cX8_hasLetters 89 = .ok (.if_icmp .eq 7, 3) := by decide +kernel
theorem dX8_hasLetters_92 : decode cX8_hasLetters 92 = .ok (.aload_n 0, 1) := by decide +kernel
theorem dX8_hasLetters_93 : decode cX8_hasLetters 93 = .ok (.invokevirtual 89, 3) := by decide +kernel
theorem dX8_hasLetters_96 : decode cX8_hasLetters 96 = .ok (.aload_n 0, 1) := by decide +kernel
theorem dX8_hasLetters_97 : decode cX8_hasLetters 97 = .ok (.iload_n 1, 1) := by decide +kernel
theorem dX8_hasLetters_98 : decode cX8_hasLetters 98 = .ok (.putfield 13, 3) := by decide +kernel
theorem dX8_hasLetters_101 : decode cX8_hasLetters 101 = .ok (.iconst 1, 1) := by decide +kernel
theorem dX8_hasLetters_102 : decode cX8_hasLetters 102 = .ok (.ireturn, 1) := by decide +kernel
theorem dX8_letters_0 : decode cX8_letters 0 = .ok (.iload_n 1, 1) := by decide +kernel
theorem dX8_letters_1 : decode cX8_letters 1 = .ok (.i2l, 1) := by decide +kernel
theorem dX8_letters_2 : decode cX8_letters 2 = .ok (.lconst 1, 1) := by decide +kernel
theorem dX8_letters_3 : decode cX8_letters 3 = .ok (.ldc2_w 100, 3) := by decide +kernel
theorem dX8_letters_6 : decode cX8_letters 6 = .ok (.invokestatic 93, 3) := by decide +kernel
theorem dX8_letters_9 : decode cX8_letters 9 = .ok (.ifCond .ne 10, 3) := by decide +kernel
theorem dX8_letters_12 : decode cX8_letters 12 = .ok (.aload_n 0, 1) := by decide +kernel
theorem dX8_letters_13 : decode cX8_letters 13 = .ok (.ldc 92, 2) := by decide +kernel
theorem dX8_letters_15 : decode cX8_letters 15 = .ok (.invokevirtual 102, 3) := by decide +kernel
theorem dX8_letters_18 : decode cX8_letters 18 = .ok (.ireturn, 1) := by decide +kernel
theorem dX8_letters_19 : decode cX8_letters 19 = .ok (.aload_n 0, 1) := by decide +kernel
theorem dX8_letters_20 : decode cX8_letters 20 = .ok (.getfield 13, 3) := by decide +kernel
theorem dX8_letters_23 : decode cX8_letters 23 = .ok (.istore_n 2, 1) := by decide +kernel
theorem dX8_letters_24 : decode cX8_letters 24 = .ok (.aload_n 0, 1) := by decide +kernel
theorem dX8_letters_25 : decode cX8_letters 25 = .ok (.iload_n 1, 1) := by decide +kernel
theorem dX8_letters_26 : decode cX8_letters 26 = .ok (.invokevirtual 106, 3) := by decide +kernel
theorem dX8_letters_29 : decode cX8_letters 29 = .ok (.ifCond .eq 7, 3) := by decide +kernel
theorem dX8_letters_32 : decode cX8_letters 32 = .ok (.iload_n 2, 1) := by decide +kernel
theorem dX8_letters_33 : decode cX8_letters 33 = .ok (.goto 9, 3) := by decide +kernel
theorem dX8_letters_36 : decode cX8_letters 36 = .ok (.aload_n 0, 1) := by decide +kernel
theorem dX8_letters_37 : decode cX8_letters 37 = .ok (.ldc 110, 2) := by decide +kernel
theorem dX8_letters_39 : decode cX8_letters 39 = .ok (.invokevirtual 102, 3) := by decide +kernel
theorem dX8_letters_42 : decode cX8_letters 42 = .ok (.ireturn, 1) := by decide +kernel
theorem dX8_hasBox_0 : decode cX8_hasBox 0 = .ok (.aload_n 0, 1) := by decide +kernel
theorem dX8_hasBox_1 : decode cX8_hasBox 1 = .ok (.invokevirtual 111, 3) := by decide +kernel
theorem dX8_hasBox_4 : decode cX8_hasBox 4 = .ok (.aload_n 0, 1) := by decide +kernel
theorem dX8_hasBox_5 : decode cX8_hasBox 5 = .ok (.getfield 20, 3) := by decide +kernel
theorem dX8_hasBox_8 : decode cX8_hasBox 8 = .ok (.iload_n 1, 1) := by decide +kernel
theorem dX8_hasBox_9 : decode cX8_hasBox 9 = .ok (.iaload, 1) := by decide +kernel
theorem dX8_hasBox_10 : decode cX8_hasBox 10 = .ok (.aload_n 0, 1) := by decide +kernel
theorem dX8_hasBox_11 : decode cX8_hasBox 11 = .ok (.getfield 17, 3) := by decide +kernel
theorem dX8_hasBox_14 : decode cX8_hasBox 14 = .ok (.iload_n 1, 1) := by decide +kernel
theorem dX8_hasBox_15 : decode cX8_hasBox 15 = .ok (.iaload, 1) := by decide +kernel
theorem dX8_hasBox_16 : decode cX8_hasBox 16 = .ok (.isub, 1) := by decide +kernel
theorem dX8_hasBox_17 : decode cX8_hasBox 17 = .ok (.iconst 1, 1) := by decide +kernel
theorem dX8_hasBox_18 : decode cX8_hasBox 18 = .ok (.iadd, 1) := by decide +kernel
theorem dX8_hasBox_19 : decode cX8_hasBox 19 = .ok (.idiv, 1) := by decide +kernel
theorem dX8_hasBox_20 : decode cX8_hasBox 20 = .ok (.iload_n 3, 1) := by decide +kernel
theorem dX8_hasBox_21 : decode cX8_hasBox 21 = .ok (.iload_n 2, 1) := by decide +kernel
theorem dX8_hasBox_22 : decode cX8_hasBox 22 = .ok (.isub, 1) := by decide +kernel
theorem dX8_hasBox_23 : decode cX8_hasBox 23 = .ok (.iconst 1, 1) := by decide +kernel
theorem dX8_hasBox_24 : decode cX8_hasBox 24 = .ok (.iadd, 1) := by decide +kernel
theorem dX8_hasBox_25 : decode cX8_hasBox 25 = .ok (.imul, 1) := by decide +kernel
theorem dX8_hasBox_26 : decode cX8_hasBox 26 = .ok (.sipush 4096, 3) := by decide +kernel
theorem dX8_hasBox_29 : decode cX8_hasBox 29 = .ok (.if_icmp .le 5, 3) := by decide +kernel
theorem dX8_hasBox_32 : decode cX8_hasBox 32 = .ok (.iconst 0, 1) := by decide +kernel
theorem dX8_hasBox_33 : decode cX8_hasBox 33 = .ok (.ireturn, 1) := by decide +kernel
theorem dX8_hasBox_34 : decode cX8_hasBox 34 = .ok (.aload_n 0, 1) := by decide +kernel
theorem dX8_hasBox_35 : decode cX8_hasBox 35 = .ok (.getfield 17, 3) := by decide +kernel
theorem dX8_hasBox_38 : decode cX8_hasBox 38 = .ok (.iload_n 1, 1) := by decide +kernel
theorem dX8_hasBox_39 : decode cX8_hasBox 39 = .ok (.iload_n 2, 1) := by decide +kernel
theorem dX8_hasBox_40 : decode cX8_hasBox 40 = .ok (.iastore, 1) := by decide +kernel
theorem dX8_hasBox_41 : decode cX8_hasBox 41 = .ok (.aload_n 0, 1) := by decide +kernel
theorem dX8_hasBox_42 : decode cX8_hasBox 42 = .ok (.getfield 20, 3) := by decide +kernel
theorem dX8_hasBox_45 : decode cX8_hasBox 45 = .ok (.iload_n 1, 1) := by decide +kernel
theorem dX8_hasBox_46 : decode cX8_hasBox 46 = .ok (.iload_n 3, 1) := by decide +kernel
theorem dX8_hasBox_47 : decode cX8_hasBox 47 = .ok (.iastore, 1) := by decide +kernel
theorem dX8_hasBox_48 : decode cX8_hasBox 48 = .ok (.iconst 1, 1) := by decide +kernel
theorem dX8_hasBox_49 : decode cX8_hasBox 49 = .ok (.ireturn, 1) := by decide +kernel
theorem dX8_box_0 : decode cX8_box 0 = .ok (.aload_n 0, 1) := by decide +kernel
theorem dX8_box_1 : decode cX8_box 1 = .ok (.iload_n 1, 1) := by decide +kernel
theorem dX8_box_2 : decode cX8_box 2 = .ok (.invokevirtual 115, 3) := by decide +kernel
theorem dX8_box_5 : decode cX8_box 5 = .ok (.ifCond .eq 30, 3) := by decide +kernel
theorem dX8_box_8 : decode cX8_box 8 = .ok (.iload_n 2, 1) := by decide +kernel
theorem dX8_box_9 : decode cX8_box 9 = .ok (.i2l, 1) := by decide +kernel
theorem dX8_box_10 : decode cX8_box 10 = .ok (.ldc2_w 118, 3) := by decide +kernel
theorem dX8_box_13 : decode cX8_box 13 = .ok (.ldc2_w 120, 3) := by decide +kernel
theorem dX8_box_16 : decode cX8_box 16 = .ok (.invokestatic 93, 3) := by decide +kernel
theorem dX8_box_19 : decode cX8_box 19 = .ok (.ifCond .eq 16, 3) := by decide +kernel
theorem dX8_box_22 : decode cX8_box 22 = .ok (.iload_n 3, 1) := by decide +kernel
theorem dX8_box_23 : decode cX8_box 23 = .ok (.i2l, 1) := by decide +kernel
theorem dX8_box_24 : decode cX8_box 24 = .ok (.iload_n 2, 1) := by decide +kernel
theorem dX8_box_25 : decode cX8_box 25 = .ok (.i2l, 1) := by decide +kernel
theorem dX8_box_26 : decode cX8_box 26 = .ok (.ldc2_w 120, 3) := by decide +kernel
theorem dX8_box_29 : decode cX8_box 29 = .ok (.invokestatic 93, 3) := by decide +kernel
theorem dX8_box_32 : decode cX8_box 32 = .ok (.ifCond .ne 10, 3) := by decide +kernel
theorem dX8_box_35 : decode cX8_box 35 = .ok (.aload_n 0, 1) := by decide +kernel
theorem dX8_box_36 : decode cX8_box 36 = .ok (.ldc 92, 2) := by decide +kernel
theorem dX8_box_38 : decode cX8_box 38 = .ok (.invokevirtual 102, 3) := by decide +kernel
theorem dX8_box_41 : decode cX8_box 41 = .ok (.ireturn, 1) := by decide +kernel
theorem dX8_box_42 : decode cX8_box 42 = .ok (.aload_n 0, 1) := by decide +kernel
theorem dX8_box_43 : decode cX8_box 43 = .ok (.iload_n 1, 1) := by decide +kernel
theorem dX8_box_44 : decode cX8_box 44 = .ok (.iload_n 2, 1) := by decide +kernel
theorem dX8_box_45 : decode cX8_box 45 = .ok (.iload_n 3, 1) := by decide +kernel
theorem dX8_box_46 : decode cX8_box 46 = .ok (.invokevirtual 122, 3) := by decide +kernel
theorem dX8_box_49 : decode cX8_box 49 = .ok (.ifCond .eq 10, 3) := by decide +kernel
theorem dX8_box_52 : decode cX8_box 52 = .ok (.aload_n 0, 1) := by decide +kernel
theorem dX8_box_53 : decode cX8_box 53 = .ok (.invokevirtual 111, 3) := by decide +kernel
theorem dX8_box_56 : decode cX8_box 56 = .ok (.goto 9, 3) := by decide +kernel
theorem dX8_box_59 : decode cX8_box 59 = .ok (.aload_n 0, 1) := by decide +kernel
theorem dX8_box_60 : decode cX8_box 60 = .ok (.ldc 110, 2) := by decide +kernel
theorem dX8_box_62 : decode cX8_box 62 = .ok (.invokevirtual 102, 3) := by decide +kernel
theorem dX8_box_65 : decode cX8_box 65 = .ok (.ireturn, 1) := by decide +kernel
theorem dX8_boxOf_0 : decode cX8_boxOf 0 = .ok (.aload_n 0, 1) := by decide +kernel
theorem dX8_boxOf_1 : decode cX8_boxOf 1 = .ok (.iload_n 1, 1) := by decide +kernel
theorem dX8_boxOf_2 : decode cX8_boxOf 2 = .ok (.invokevirtual 115, 3) := by decide +kernel
theorem dX8_boxOf_5 : decode cX8_boxOf 5 = .ok (.ifCond .eq 35, 3) := by decide +kernel
theorem dX8_boxOf_8 : decode cX8_boxOf 8 = .ok (.iload_n 2, 1) := by decide +kernel
theorem dX8_boxOf_9 : decode cX8_boxOf 9 = .ok (.i2l, 1) := by decide +kernel
theorem dX8_boxOf_10 : decode cX8_boxOf 10 = .ok (.lconst 0, 1) := by decide +kernel
theorem dX8_boxOf_11 : decode cX8_boxOf 11 = .ok (.lconst 1, 1) := by decide +kernel
theorem dX8_boxOf_12 : decode cX8_boxOf 12 = .ok (.invokestatic 93, 3) := by decide +kernel
theorem dX8_boxOf_15 : decode cX8_boxOf 15 = .ok (.ifCond .eq 25, 3) := by decide +kernel
theorem dX8_boxOf_18 : decode cX8_boxOf 18 = .ok (.iload_n 2, 1) := by decide +kernel
theorem dX8_boxOf_19 : decode cX8_boxOf 19 = .ok (.ifCond .ne 12, 3) := by decide +kernel
theorem dX8_boxOf_22 : decode cX8_boxOf 22 = .ok (.aload_n 0, 1) := by decide +kernel
theorem dX8_boxOf_23 : decode cX8_boxOf 23 = .ok (.getfield 17, 3) := by decide +kernel
theorem dX8_boxOf_26 : decode cX8_boxOf 26 = .ok (.iload_n 1, 1) := by decide +kernel
theorem dX8_boxOf_27 : decode cX8_boxOf 27 = .ok (.iaload, 1) := by decide +kernel
theorem dX8_boxOf_28 : decode cX8_boxOf 28 = .ok (.goto 18, 3) := by decide +kernel
theorem dX8_boxOf_31 : decode cX8_boxOf 31 = .ok (.aload_n 0, 1) := by decide +kernel
theorem dX8_boxOf_32 : decode cX8_boxOf 32 = .ok (.getfield 20, 3) := by decide +kernel
theorem dX8_boxOf_35 : decode cX8_boxOf 35 = .ok (.iload_n 1, 1) := by decide +kernel
theorem dX8_boxOf_36 : decode cX8_boxOf 36 = .ok (.iaload, 1) := by decide +kernel
theorem dX8_boxOf_37 : decode cX8_boxOf 37 = .ok (.goto 9, 3) := by decide +kernel
theorem dX8_boxOf_40 : decode cX8_boxOf 40 = .ok (.aload_n 0, 1) := by decide +kernel
theorem dX8_boxOf_41 : decode cX8_boxOf 41 = .ok (.ldc 92, 2) := by decide +kernel
theorem dX8_boxOf_43 : decode cX8_boxOf 43 = .ok (.invokevirtual 102, 3) := by decide +kernel
theorem dX8_boxOf_46 : decode cX8_boxOf 46 = .ok (.ireturn, 1) := by decide +kernel
theorem dX8_adds_0 : decode cX8_adds 0 = .ok (.iconst 0, 1) := by decide +kernel
theorem dX8_adds_1 : decode cX8_adds 1 = .ok (.istore 4, 2) := by decide +kernel
theorem dX8_adds_3 : decode cX8_adds 3 = .ok (.iload 4, 2) := by decide +kernel
theorem dX8_adds_5 : decode cX8_adds 5 = .ok (.bipush 7, 2) := by decide +kernel
theorem dX8_adds_7 : decode cX8_adds 7 = .ok (.if_icmp .ge 25, 3) := by decide +kernel
theorem dX8_adds_10 : decode cX8_adds 10 = .ok (.aload_n 0, 1) := by decide +kernel
theorem dX8_adds_11 : decode cX8_adds 11 = .ok (.getfield 23, 3) := by decide +kernel
theorem dX8_adds_14 : decode cX8_adds 14 = .ok (.bipush 7, 2) := by decide +kernel
theorem dX8_adds_16 : decode cX8_adds 16 = .ok (.aload_n 0, 1) := by decide +kernel
theorem dX8_adds_17 : decode cX8_adds 17 = .ok (.getfield 97, 3) := by decide +kernel
theorem dX8_adds_20 : decode cX8_adds 20 = .ok (.imul, 1) := by decide +kernel
theorem dX8_adds_21 : decode cX8_adds 21 = .ok (.iload 4, 2) := by decide +kernel
theorem dX8_adds_23 : decode cX8_adds 23 = .ok (.iadd, 1) := by decide +kernel
theorem dX8_adds_24 : decode cX8_adds 24 = .ok (.iconst 0, 1) := by decide +kernel
theorem dX8_adds_25 : decode cX8_adds 25 = .ok (.iastore, 1) := by decide +kernel
theorem dX8_adds_26 : decode cX8_adds 26 = .ok (.iinc 4 1, 3) := by decide +kernel
theorem dX8_adds_29 : decode cX8_adds 29 = .ok (.goto (-26), 3) := by decide +kernel
theorem dX8_adds_32 : decode cX8_adds 32 = .ok (.aload_n 0, 1) := by decide +kernel
theorem dX8_adds_33 : decode cX8_adds 33 = .ok (.getfield 23, 3) := by decide +kernel
theorem dX8_adds_36 : decode cX8_adds 36 = .ok (.bipush 7, 2) := by decide +kernel
theorem dX8_adds_38 : decode cX8_adds 38 = .ok (.aload_n 0, 1) := by decide +kernel
theorem dX8_adds_39 : decode cX8_adds 39 = .ok (.getfield 97, 3) := by decide +kernel
theorem dX8_adds_42 : decode cX8_adds 42 = .ok (.imul, 1) := by decide +kernel
theorem dX8_adds_43 : decode cX8_adds 43 = .ok (.iload_n 1, 1) := by decide +kernel
theorem dX8_adds_44 : decode cX8_adds 44 = .ok (.iastore, 1) := by decide +kernel
theorem dX8_adds_45 : decode cX8_adds 45 = .ok (.aload_n 0, 1) := by decide +kernel
theorem dX8_adds_46 : decode cX8_adds 46 = .ok (.getfield 23, 3) := by decide +kernel
theorem dX8_adds_49 : decode cX8_adds 49 = .ok (.bipush 7, 2) := by decide +kernel
theorem dX8_adds_51 : decode cX8_adds 51 = .ok (.aload_n 0, 1) := by decide +kernel
theorem dX8_adds_52 : decode cX8_adds 52 = .ok (.getfield 97, 3) := by decide +kernel
theorem dX8_adds_55 : decode cX8_adds 55 = .ok (.imul, 1) := by decide +kernel
theorem dX8_adds_56 : decode cX8_adds 56 = .ok (.iconst 1, 1) := by decide +kernel
theorem dX8_adds_57 : decode cX8_adds 57 = .ok (.iadd, 1) := by decide +kernel
theorem dX8_adds_58 : decode cX8_adds 58 = .ok (.iload_n 2, 1) := by decide +kernel
theorem dX8_adds_59 : decode cX8_adds 59 = .ok (.iastore, 1) := by decide +kernel
theorem dX8_adds_60 : decode cX8_adds 60 = .ok (.aload_n 0, 1) := by decide +kernel
theorem dX8_adds_61 : decode cX8_adds 61 = .ok (.getfield 23, 3) := by decide +kernel
theorem dX8_adds_64 : decode cX8_adds 64 = .ok (.bipush 7, 2) := by decide +kernel
theorem dX8_adds_66 : decode cX8_adds 66 = .ok (.aload_n 0, 1) := by decide +kernel
theorem dX8_adds_67 : decode cX8_adds 67 = .ok (.getfield 97, 3) := by decide +kernel
theorem dX8_adds_70 : decode cX8_adds 70 = .ok (.imul, 1) := by decide +kernel
theorem dX8_adds_71 : decode cX8_adds 71 = .ok (.iconst 2, 1) := by decide +kernel
theorem dX8_adds_72 : decode cX8_adds 72 = .ok (.iadd, 1) := by decide +kernel
theorem dX8_adds_73 : decode cX8_adds 73 = .ok (.iload_n 3, 1) := by decide +kernel
theorem dX8_adds_74 : decode cX8_adds 74 = .ok (.iastore, 1) := by decide +kernel
theorem dX8_adds_75 : decode cX8_adds 75 = .ok (.aload_n 0, 1) := by decide +kernel
theorem dX8_adds_76 : decode cX8_adds 76 = .ok (.dup, 1) := by decide +kernel
theorem dX8_adds_77 : decode cX8_adds 77 = .ok (.getfield 97, 3) := by decide +kernel
theorem dX8_adds_80 : decode cX8_adds 80 = .ok (.iconst 1, 1) := by decide +kernel
theorem dX8_adds_81 : decode cX8_adds 81 = .ok (.iadd, 1) := by decide +kernel
theorem dX8_adds_82 : decode cX8_adds 82 = .ok (.putfield 97, 3) := by decide +kernel
theorem dX8_adds_85 : decode cX8_adds 85 = .ok (.return_, 1) := by decide +kernel
theorem dX8_isOf_0 : decode cX8_isOf 0 = .ok (.iload_n 0, 1) := by decide +kernel
theorem dX8_isOf_1 : decode cX8_isOf 1 = .ok (.ifCond .ne 15, 3) := by decide +kernel
theorem dX8_isOf_4 : decode cX8_isOf 4 = .ok (.iload_n 1, 1) := by decide +kernel
theorem dX8_isOf_5 : decode cX8_isOf 5 = .ok (.i2l, 1) := by decide +kernel
theorem dX8_isOf_6 : decode cX8_isOf 6 = .ok (.lconst 0, 1) := by decide +kernel
theorem dX8_isOf_7 : decode cX8_isOf 7 = .ok (.ldc2_w 126, 3) := by decide +kernel
theorem dX8_isOf_10 : decode cX8_isOf 10 = .ok (.invokestatic 93, 3) := by decide +kernel
theorem dX8_isOf_13 : decode cX8_isOf 13 = .ok (.goto 50, 3) := by decide +kernel
theorem dX8_isOf_16 : decode cX8_isOf 16 = .ok (.iload_n 0, 1) := by decide +kernel
theorem dX8_isOf_17 : decode cX8_isOf 17 = .ok (.iconst 1, 1) := by decide +kernel
theorem dX8_isOf_18 : decode cX8_isOf 18 = .ok (.if_icmp .ne 17, 3) := by decide +kernel
theorem dX8_isOf_21 : decode cX8_isOf 21 = .ok (.iload_n 1, 1) := by decide +kernel
theorem dX8_isOf_22 : decode cX8_isOf 22 = .ok (.i2l, 1) := by decide +kernel
theorem dX8_isOf_23 : decode cX8_isOf 23 = .ok (.ldc2_w 128, 3) := by decide +kernel
theorem dX8_isOf_26 : decode cX8_isOf 26 = .ok (.ldc2_w 130, 3) := by decide +kernel
theorem dX8_isOf_29 : decode cX8_isOf 29 = .ok (.invokestatic 93, 3) := by decide +kernel
theorem dX8_isOf_32 : decode cX8_isOf 32 = .ok (.goto 31, 3) := by decide +kernel
theorem dX8_isOf_35 : decode cX8_isOf 35 = .ok (.iload_n 0, 1) := by decide +kernel
theorem dX8_isOf_36 : decode cX8_isOf 36 = .ok (.iconst 2, 1) := by decide +kernel
theorem dX8_isOf_37 : decode cX8_isOf 37 = .ok (.if_icmp .ne 15, 3) := by decide +kernel
theorem dX8_isOf_40 : decode cX8_isOf 40 = .ok (.iload_n 1, 1) := by decide +kernel
theorem dX8_isOf_41 : decode cX8_isOf 41 = .ok (.i2l, 1) := by decide +kernel
theorem dX8_isOf_42 : decode cX8_isOf 42 = .ok (.lconst 1, 1) := by decide +kernel
theorem dX8_isOf_43 : decode cX8_isOf 43 = .ok (.ldc2_w 132, 3) := by decide +kernel
theorem dX8_isOf_46 : decode cX8_isOf 46 = .ok (.invokestatic 93, 3) := by decide +kernel
theorem dX8_isOf_49 : decode cX8_isOf 49 = .ok (.goto 14, 3) := by decide +kernel
theorem dX8_isOf_52 : decode cX8_isOf 52 = .ok (.iload_n 1, 1) := by decide +kernel
theorem dX8_isOf_53 : decode cX8_isOf 53 = .ok (.i2l, 1) := by decide +kernel
theorem dX8_isOf_54 : decode cX8_isOf 54 = .ok (.ldc2_w 118, 3) := by decide +kernel
theorem dX8_isOf_57 : decode cX8_isOf 57 = .ok (.ldc2_w 120, 3) := by decide +kernel
theorem dX8_isOf_60 : decode cX8_isOf 60 = .ok (.invokestatic 93, 3) := by decide +kernel
theorem dX8_isOf_63 : decode cX8_isOf 63 = .ok (.ireturn, 1) := by decide +kernel
theorem dX8_row_0 : decode cX8_row 0 = .ok (.iconst 0, 1) := by decide +kernel
theorem dX8_row_1 : decode cX8_row 1 = .ok (.iload_n 1, 1) := by decide +kernel
theorem dX8_row_2 : decode cX8_row 2 = .ok (.invokestatic 134, 3) := by decide +kernel
theorem dX8_row_5 : decode cX8_row 5 = .ok (.ifCond .eq 19, 3) := by decide +kernel
theorem dX8_row_8 : decode cX8_row 8 = .ok (.iconst 1, 1) := by decide +kernel
theorem dX8_row_9 : decode cX8_row 9 = .ok (.iload_n 2, 1) := by decide +kernel
theorem dX8_row_10 : decode cX8_row 10 = .ok (.invokestatic 134, 3) := by decide +kernel
theorem dX8_row_13 : decode cX8_row 13 = .ok (.ifCond .eq 11, 3) := by decide +kernel
theorem dX8_row_16 : decode cX8_row 16 = .ok (.iconst 2, 1) := by decide +kernel
theorem dX8_row_17 : decode cX8_row 17 = .ok (.iload_n 3, 1) := by decide +kernel
theorem dX8_row_18 : decode cX8_row 18 = .ok (.invokestatic 134, 3) := by decide +kernel
theorem dX8_row_21 : decode cX8_row 21 = .ok (.ifCond .ne 10, 3) := by decide +kernel
theorem dX8_row_24 : decode cX8_row 24 = .ok (.aload_n 0, 1) := by decide +kernel
theorem dX8_row_25 : decode cX8_row 25 = .ok (.ldc 92, 2) := by decide +kernel
theorem dX8_row_27 : decode cX8_row 27 = .ok (.invokevirtual 102, 3) := by decide +kernel
theorem dX8_row_30 : decode cX8_row 30 = .ok (.ireturn, 1) := by decide +kernel
theorem dX8_row_31 : decode cX8_row 31 = .ok (.aload_n 0, 1) := by decide +kernel
theorem dX8_row_32 : decode cX8_row 32 = .ok (.getfield 97, 3) := by decide +kernel
theorem dX8_row_35 : decode cX8_row 35 = .ok (.bipush 8, 2) := by decide +kernel
theorem dX8_row_37 : decode cX8_row 37 = .ok (.if_icmp .ne 10, 3) := by decide +kernel
theorem dX8_row_40 : decode cX8_row 40 = .ok (.aload_n 0, 1) := by decide +kernel
theorem dX8_row_41 : decode cX8_row 41 = .ok (.ldc 110, 2) := by decide +kernel
theorem dX8_row_43 : decode cX8_row 43 = .ok (.invokevirtual 102, 3) := by decide +kernel
theorem dX8_row_46 : decode cX8_row 46 = .ok (.ireturn, 1) := by decide +kernel
theorem dX8_row_47 : decode cX8_row 47 = .ok (.aload_n 0, 1) := by decide +kernel
theorem dX8_row_48 : decode cX8_row 48 = .ok (.iload_n 1, 1) := by decide +kernel
theorem dX8_row_49 : decode cX8_row 49 = .ok (.iload_n 2, 1) := by decide +kernel
theorem dX8_row_50 : decode cX8_row 50 = .ok (.iload_n 3, 1) := by decide +kernel
theorem dX8_row_51 : decode cX8_row 51 = .ok (.invokevirtual 138, 3) := by decide +kernel
theorem dX8_row_54 : decode cX8_row 54 = .ok (.aload_n 0, 1) := by decide +kernel
theorem dX8_row_55 : decode cX8_row 55 = .ok (.getfield 97, 3) := by decide +kernel
theorem dX8_row_58 : decode cX8_row 58 = .ok (.iconst 1, 1) := by decide +kernel
theorem dX8_row_59 : decode cX8_row 59 = .ok (.isub, 1) := by decide +kernel
theorem dX8_row_60 : decode cX8_row 60 = .ok (.ireturn, 1) := by decide +kernel
theorem dX8_edge_0 : decode cX8_edge 0 = .ok (.aload_n 0, 1) := by decide +kernel
theorem dX8_edge_1 : decode cX8_edge 1 = .ok (.getfield 29, 3) := by decide +kernel
theorem dX8_edge_4 : decode cX8_edge 4 = .ok (.bipush 8, 2) := by decide +kernel
theorem dX8_edge_6 : decode cX8_edge 6 = .ok (.iload_n 1, 1) := by decide +kernel
theorem dX8_edge_7 : decode cX8_edge 7 = .ok (.imul, 1) := by decide +kernel
theorem dX8_edge_8 : decode cX8_edge 8 = .ok (.iconst 2, 1) := by decide +kernel
theorem dX8_edge_9 : decode cX8_edge 9 = .ok (.iload_n 2, 1) := by decide +kernel
theorem dX8_edge_10 : decode cX8_edge 10 = .ok (.imul, 1) := by decide +kernel
theorem dX8_edge_11 : decode cX8_edge 11 = .ok (.iadd, 1) := by decide +kernel
theorem dX8_edge_12 : decode cX8_edge 12 = .ok (.iload_n 3, 1) := by decide +kernel
theorem dX8_edge_13 : decode cX8_edge 13 = .ok (.iadd, 1) := by decide +kernel
theorem dX8_edge_14 : decode cX8_edge 14 = .ok (.iaload, 1) := by decide +kernel
theorem dX8_edge_15 : decode cX8_edge 15 = .ok (.ireturn, 1) := by decide +kernel
theorem dX8_whole_0 : decode cX8_whole 0 = .ok (.iconst 0, 1) := by decide +kernel
theorem dX8_whole_1 : decode cX8_whole 1 = .ok (.istore_n 1, 1) := by decide +kernel
theorem dX8_whole_2 : decode cX8_whole 2 = .ok (.iload_n 1, 1) := by decide +kernel
theorem dX8_whole_3 : decode cX8_whole 3 = .ok (.iconst 4, 1) := by decide +kernel
theorem dX8_whole_4 : decode cX8_whole 4 = .ok (.if_icmp .ge 39, 3) := by decide +kernel
theorem dX8_whole_7 : decode cX8_whole 7 = .ok (.aload_n 0, 1) := by decide +kernel
theorem dX8_whole_8 : decode cX8_whole 8 = .ok (.getfield 29, 3) := by decide +kernel
theorem dX8_whole_11 : decode cX8_whole 11 = .ok (.iconst 2, 1) := by decide +kernel
theorem dX8_whole_12 : decode cX8_whole 12 = .ok (.iload_n 1, 1) := by decide +kernel
theorem dX8_whole_13 : decode cX8_whole 13 = .ok (.imul, 1) := by decide +kernel
theorem dX8_whole_14 : decode cX8_whole 14 = .ok (.aload_n 0, 1) := by decide +kernel
theorem dX8_whole_15 : decode cX8_whole 15 = .ok (.getfield 17, 3) := by decide +kernel
theorem dX8_whole_18 : decode cX8_whole 18 = .ok (.iload_n 1, 1) := by decide +kernel
theorem dX8_whole_19 : decode cX8_whole 19 = .ok (.iaload, 1) := by decide +kernel
theorem dX8_whole_20 : decode cX8_whole 20 = .ok (.iastore, 1) := by decide +kernel
theorem dX8_whole_21 : decode cX8_whole 21 = .ok (.aload_n 0, 1) := by decide +kernel
theorem dX8_whole_22 : decode cX8_whole 22 = .ok (.getfield 29, 3) := by decide +kernel
theorem dX8_whole_25 : decode cX8_whole 25 = .ok (.iconst 2, 1) := by decide +kernel
theorem dX8_whole_26 : decode cX8_whole 26 = .ok (.iload_n 1, 1) := by decide +kernel
theorem dX8_whole_27 : decode cX8_whole 27 = .ok (.imul, 1) := by decide +kernel
theorem dX8_whole_28 : decode cX8_whole 28 = .ok (.iconst 1, 1) := by decide +kernel
theorem dX8_whole_29 : decode cX8_whole 29 = .ok (.iadd, 1) := by decide +kernel
theorem dX8_whole_30 : decode cX8_whole 30 = .ok (.aload_n 0, 1) := by decide +kernel
theorem dX8_whole_31 : decode cX8_whole 31 = .ok (.getfield 20, 3) := by decide +kernel
theorem dX8_whole_34 : decode cX8_whole 34 = .ok (.iload_n 1, 1) := by decide +kernel
theorem dX8_whole_35 : decode cX8_whole 35 = .ok (.iaload, 1) := by decide +kernel
theorem dX8_whole_36 : decode cX8_whole 36 = .ok (.iastore, 1) := by decide +kernel
theorem dX8_whole_37 : decode cX8_whole 37 = .ok (.iinc 1 1, 3) := by decide +kernel
theorem dX8_whole_40 : decode cX8_whole 40 = .ok (.goto (-38), 3) := by decide +kernel
theorem dX8_whole_43 : decode cX8_whole 43 = .ok (.return_, 1) := by decide +kernel
theorem dX8_least_0 : decode cX8_least 0 = .ok (.iconst 0, 1) := by decide +kernel
theorem dX8_least_1 : decode cX8_least 1 = .ok (.istore_n 3, 1) := by decide +kernel
theorem dX8_least_2 : decode cX8_least 2 = .ok (.iconst 0, 1) := by decide +kernel
theorem dX8_least_3 : decode cX8_least 3 = .ok (.istore 4, 2) := by decide +kernel
theorem dX8_least_5 : decode cX8_least 5 = .ok (.iload 4, 2) := by decide +kernel
theorem dX8_least_7 : decode cX8_least 7 = .ok (.aload_n 0, 1) := by decide +kernel
theorem dX8_least_8 : decode cX8_least 8 = .ok (.getfield 13, 3) := by decide +kernel
theorem dX8_least_11 : decode cX8_least 11 = .ok (.if_icmp .ge 43, 3) := by decide +kernel
theorem dX8_least_14 : decode cX8_least 14 = .ok (.aload_n 0, 1) := by decide +kernel
theorem dX8_least_15 : decode cX8_least 15 = .ok (.iload_n 1, 1) := by decide +kernel
theorem dX8_least_16 : decode cX8_least 16 = .ok (.iconst 3, 1) := by decide +kernel
theorem dX8_least_17 : decode cX8_least 17 = .ok (.iload 4, 2) := by decide +kernel
theorem dX8_least_19 : decode cX8_least 19 = .ok (.iadd, 1) := by decide +kernel
theorem dX8_least_20 : decode cX8_least 20 = .ok (.invokevirtual 142, 3) := by decide +kernel
theorem dX8_least_23 : decode cX8_least 23 = .ok (.istore 5, 2) := by decide +kernel
theorem dX8_least_25 : decode cX8_least 25 = .ok (.iload_n 3, 1) := by decide +kernel
theorem dX8_least_26 : decode cX8_least 26 = .ok (.iload 5, 2) := by decide +kernel
theorem dX8_least_28 : decode cX8_least 28 = .ok (.aload_n 0, 1) := by decide +kernel
theorem dX8_least_29 : decode cX8_least 29 = .ok (.iload_n 2, 1) := by decide +kernel
theorem dX8_least_30 : decode cX8_least 30 = .ok (.iload 4, 2) := by decide +kernel
theorem dX8_least_32 : decode cX8_least 32 = .ok (.iload 5, 2) := by decide +kernel
theorem dX8_least_34 : decode cX8_least 34 = .ok (.ifCond .ge 7, 3) := by decide +kernel
theorem dX8_least_37 : decode cX8_least 37 = .ok (.iconst 1, 1) := by decide +kernel
theorem dX8_least_38 : decode cX8_least 38 = .ok (.goto 4, 3) := by decide +kernel
theorem dX8_least_41 : decode cX8_least 41 = .ok (.iconst 0, 1) := by decide +kernel
theorem dX8_least_42 : decode cX8_least 42 = .ok (.invokevirtual 146, 3) := by decide +kernel
theorem dX8_least_45 : decode cX8_least 45 = .ok (.imul, 1) := by decide +kernel
theorem dX8_least_46 : decode cX8_least 46 = .ok (.iadd, 1) := by decide +kernel
theorem dX8_least_47 : decode cX8_least 47 = .ok (.istore_n 3, 1) := by decide +kernel
theorem dX8_least_48 : decode cX8_least 48 = .ok (.iinc 4 1, 3) := by decide +kernel
theorem dX8_least_51 : decode cX8_least 51 = .ok (.goto (-46), 3) := by decide +kernel
theorem dX8_least_54 : decode cX8_least 54 = .ok (.iload_n 3, 1) := by decide +kernel
theorem dX8_least_55 : decode cX8_least 55 = .ok (.ireturn, 1) := by decide +kernel
theorem dX8_most_0 : decode cX8_most 0 = .ok (.iconst 0, 1) := by decide +kernel
theorem dX8_most_1 : decode cX8_most 1 = .ok (.istore_n 3, 1) := by decide +kernel
theorem dX8_most_2 : decode cX8_most 2 = .ok (.iconst 0, 1) := by decide +kernel
theorem dX8_most_3 : decode cX8_most 3 = .ok (.istore 4, 2) := by decide +kernel
theorem dX8_most_5 : decode cX8_most 5 = .ok (.iload 4, 2) := by decide +kernel
theorem dX8_most_7 : decode cX8_most 7 = .ok (.aload_n 0, 1) := by decide +kernel
theorem dX8_most_8 : decode cX8_most 8 = .ok (.getfield 13, 3) := by decide +kernel
theorem dX8_most_11 : decode cX8_most 11 = .ok (.if_icmp .ge 43, 3) := by decide +kernel
theorem dX8_most_14 : decode cX8_most 14 = .ok (.aload_n 0, 1) := by decide +kernel
theorem dX8_most_15 : decode cX8_most 15 = .ok (.iload_n 1, 1) := by decide +kernel
theorem dX8_most_16 : decode cX8_most 16 = .ok (.iconst 3, 1) := by decide +kernel
theorem dX8_most_17 : decode cX8_most 17 = .ok (.iload 4, 2) := by decide +kernel
theorem dX8_most_19 : decode cX8_most 19 = .ok (.iadd, 1) := by decide +kernel
theorem dX8_most_20 : decode cX8_most 20 = .ok (.invokevirtual 142, 3) := by decide +kernel
theorem dX8_most_23 : decode cX8_most 23 = .ok (.istore 5, 2) := by decide +kernel
theorem dX8_most_25 : decode cX8_most 25 = .ok (.iload_n 3, 1) := by decide +kernel
theorem dX8_most_26 : decode cX8_most 26 = .ok (.iload 5, 2) := by decide +kernel
theorem dX8_most_28 : decode cX8_most 28 = .ok (.aload_n 0, 1) := by decide +kernel
theorem dX8_most_29 : decode cX8_most 29 = .ok (.iload_n 2, 1) := by decide +kernel
theorem dX8_most_30 : decode cX8_most 30 = .ok (.iload 4, 2) := by decide +kernel
theorem dX8_most_32 : decode cX8_most 32 = .ok (.iload 5, 2) := by decide +kernel
theorem dX8_most_34 : decode cX8_most 34 = .ok (.ifCond .ge 7, 3) := by decide +kernel
theorem dX8_most_37 : decode cX8_most 37 = .ok (.iconst 0, 1) := by decide +kernel
theorem dX8_most_38 : decode cX8_most 38 = .ok (.goto 4, 3) := by decide +kernel
theorem dX8_most_41 : decode cX8_most 41 = .ok (.iconst 1, 1) := by decide +kernel
theorem dX8_most_42 : decode cX8_most 42 = .ok (.invokevirtual 146, 3) := by decide +kernel
theorem dX8_most_45 : decode cX8_most 45 = .ok (.imul, 1) := by decide +kernel
theorem dX8_most_46 : decode cX8_most 46 = .ok (.iadd, 1) := by decide +kernel
theorem dX8_most_47 : decode cX8_most 47 = .ok (.istore_n 3, 1) := by decide +kernel
theorem dX8_most_48 : decode cX8_most 48 = .ok (.iinc 4 1, 3) := by decide +kernel
theorem dX8_most_51 : decode cX8_most 51 = .ok (.goto (-46), 3) := by decide +kernel
theorem dX8_most_54 : decode cX8_most 54 = .ok (.iload_n 3, 1) := by decide +kernel
theorem dX8_most_55 : decode cX8_most 55 = .ok (.ireturn, 1) := by decide +kernel
theorem dX8_of_0 : decode cX8_of 0 = .ok (.aload_n 0, 1) := by decide +kernel
theorem dX8_of_1 : decode cX8_of 1 = .ok (.iload_n 1, 1) := by decide +kernel
theorem dX8_of_2 : decode cX8_of 2 = .ok (.invokevirtual 150, 3) := by decide +kernel
theorem dX8_of_5 : decode cX8_of 5 = .ok (.ifCond .eq 15, 3) := by decide +kernel
theorem dX8_of_8 : decode cX8_of 8 = .ok (.iload_n 2, 1) := by decide +kernel
theorem dX8_of_9 : decode cX8_of 9 = .ok (.i2l, 1) := by decide +kernel
theorem dX8_of_10 : decode cX8_of 10 = .ok (.lconst 0, 1) := by decide +kernel
theorem dX8_of_11 : decode cX8_of 11 = .ok (.ldc2_w 153, 3) := by decide +kernel
theorem dX8_of_14 : decode cX8_of 14 = .ok (.invokestatic 93, 3) := by decide +kernel
theorem dX8_of_17 : decode cX8_of 17 = .ok (.ifCond .ne 10, 3) := by decide +kernel
theorem dX8_of_20 : decode cX8_of 20 = .ok (.aload_n 0, 1) := by decide +kernel
theorem dX8_of_21 : decode cX8_of 21 = .ok (.ldc 92, 2) := by decide +kernel
theorem dX8_of_23 : decode cX8_of 23 = .ok (.invokevirtual 102, 3) := by decide +kernel
theorem dX8_of_26 : decode cX8_of 26 = .ok (.ireturn, 1) := by decide +kernel
theorem dX8_of_27 : decode cX8_of 27 = .ok (.aload_n 0, 1) := by decide +kernel
theorem dX8_of_28 : decode cX8_of 28 = .ok (.invokevirtual 155, 3) := by decide +kernel
theorem dX8_of_31 : decode cX8_of 31 = .ok (.iload_n 2, 1) := by decide +kernel
theorem dX8_of_32 : decode cX8_of 32 = .ok (.bipush 7, 2) := by decide +kernel
theorem dX8_of_34 : decode cX8_of 34 = .ok (.if_icmp .ge 12, 3) := by decide +kernel
theorem dX8_of_37 : decode cX8_of 37 = .ok (.aload_n 0, 1) := by decide +kernel
theorem dX8_of_38 : decode cX8_of 38 = .ok (.iload_n 1, 1) := by decide +kernel
theorem dX8_of_39 : decode cX8_of 39 = .ok (.iload_n 2, 1) := by decide +kernel
theorem dX8_of_40 : decode cX8_of 40 = .ok (.invokevirtual 142, 3) := by decide +kernel
theorem dX8_of_43 : decode cX8_of 43 = .ok (.goto 24, 3) := by decide +kernel
theorem dX8_of_46 : decode cX8_of 46 = .ok (.iload_n 2, 1) := by decide +kernel
theorem dX8_of_47 : decode cX8_of 47 = .ok (.bipush 7, 2) := by decide +kernel
theorem dX8_of_49 : decode cX8_of 49 = .ok (.if_icmp .ne 12, 3) := by decide +kernel
theorem dX8_of_52 : decode cX8_of 52 = .ok (.aload_n 0, 1) := by decide +kernel
theorem dX8_of_53 : decode cX8_of 53 = .ok (.iload_n 1, 1) := by decide +kernel
theorem dX8_of_54 : decode cX8_of 54 = .ok (.iconst 0, 1) := by decide +kernel
theorem dX8_of_55 : decode cX8_of 55 = .ok (.invokevirtual 158, 3) := by decide +kernel
theorem dX8_of_58 : decode cX8_of 58 = .ok (.goto 9, 3) := by decide +kernel
theorem dX8_of_61 : decode cX8_of 61 = .ok (.aload_n 0, 1) := by decide +kernel
theorem dX8_of_62 : decode cX8_of 62 = .ok (.iload_n 1, 1) := by decide +kernel
theorem dX8_of_63 : decode cX8_of 63 = .ok (.iconst 0, 1) := by decide +kernel
theorem dX8_of_64 : decode cX8_of 64 = .ok (.invokevirtual 161, 3) := by decide +kernel
theorem dX8_of_67 : decode cX8_of 67 = .ok (.ireturn, 1) := by decide +kernel
theorem dX8_change_0 : decode cX8_change 0 = .ok (.aload_n 0, 1) := by decide +kernel
theorem dX8_change_1 : decode cX8_change 1 = .ok (.iload_n 1, 1) := by decide +kernel
theorem dX8_change_2 : decode cX8_change 2 = .ok (.invokevirtual 150, 3) := by decide +kernel
theorem dX8_change_5 : decode cX8_change 5 = .ok (.ifCond .eq 23, 3) := by decide +kernel
theorem dX8_change_8 : decode cX8_change 8 = .ok (.iload_n 2, 1) := by decide +kernel
theorem dX8_change_9 : decode cX8_change 9 = .ok (.i2l, 1) := by decide +kernel
theorem dX8_change_10 : decode cX8_change 10 = .ok (.lconst 0, 1) := by decide +kernel
theorem dX8_change_11 : decode cX8_change 11 = .ok (.ldc2_w 164, 3) := by decide +kernel
theorem dX8_change_14 : decode cX8_change 14 = .ok (.invokestatic 93, 3) := by decide +kernel
theorem dX8_change_17 : decode cX8_change 17 = .ok (.ifCond .eq 11, 3) := by decide +kernel
theorem dX8_change_20 : decode cX8_change 20 = .ok (.iload_n 2, 1) := by decide +kernel
theorem dX8_change_21 : decode cX8_change 21 = .ok (.iload_n 3, 1) := by decide +kernel
theorem dX8_change_22 : decode cX8_change 22 = .ok (.invokestatic 134, 3) := by decide +kernel
theorem dX8_change_25 : decode cX8_change 25 = .ok (.ifCond .ne 10, 3) := by decide +kernel
theorem dX8_change_28 : decode cX8_change 28 = .ok (.aload_n 0, 1) := by decide +kernel
theorem dX8_change_29 : decode cX8_change 29 = .ok (.ldc 92, 2) := by decide +kernel
theorem dX8_change_31 : decode cX8_change 31 = .ok (.invokevirtual 102, 3) := by decide +kernel
theorem dX8_change_34 : decode cX8_change 34 = .ok (.ireturn, 1) := by decide +kernel
theorem dX8_change_35 : decode cX8_change 35 = .ok (.aload_n 0, 1) := by decide +kernel
theorem dX8_change_36 : decode cX8_change 36 = .ok (.iload_n 1, 1) := by decide +kernel
theorem dX8_change_37 : decode cX8_change 37 = .ok (.iload_n 2, 1) := by decide +kernel
theorem dX8_change_38 : decode cX8_change 38 = .ok (.invokevirtual 142, 3) := by decide +kernel
theorem dX8_change_41 : decode cX8_change 41 = .ok (.istore 4, 2) := by decide +kernel
theorem dX8_change_43 : decode cX8_change 43 = .ok (.aload_n 0, 1) := by decide +kernel
theorem dX8_change_44 : decode cX8_change 44 = .ok (.getfield 23, 3) := by decide +kernel
theorem dX8_change_47 : decode cX8_change 47 = .ok (.bipush 7, 2) := by decide +kernel
theorem dX8_change_49 : decode cX8_change 49 = .ok (.iload_n 1, 1) := by decide +kernel
theorem dX8_change_50 : decode cX8_change 50 = .ok (.imul, 1) := by decide +kernel
theorem dX8_change_51 : decode cX8_change 51 = .ok (.iload_n 2, 1) := by decide +kernel
theorem dX8_change_52 : decode cX8_change 52 = .ok (.iadd, 1) := by decide +kernel
theorem dX8_change_53 : decode cX8_change 53 = .ok (.iload_n 3, 1) := by decide +kernel
theorem dX8_change_54 : decode cX8_change 54 = .ok (.iastore, 1) := by decide +kernel
theorem dX8_change_55 : decode cX8_change 55 = .ok (.iload 4, 2) := by decide +kernel
theorem dX8_change_57 : decode cX8_change 57 = .ok (.ireturn, 1) := by decide +kernel
theorem dX8_as_0 : decode cX8_as 0 = .ok (.aload_n 0, 1) := by decide +kernel
theorem dX8_as_1 : decode cX8_as 1 = .ok (.iload_n 1, 1) := by decide +kernel
theorem dX8_as_2 : decode cX8_as 2 = .ok (.invokevirtual 150, 3) := by decide +kernel
theorem dX8_as_5 : decode cX8_as 5 = .ok (.ifCond .eq 15, 3) := by decide +kernel
theorem dX8_as_8 : decode cX8_as 8 = .ok (.iload_n 2, 1) := by decide +kernel
theorem dX8_as_9 : decode cX8_as 9 = .ok (.i2l, 1) := by decide +kernel
theorem dX8_as_10 : decode cX8_as 10 = .ok (.lconst 0, 1) := by decide +kernel
theorem dX8_as_11 : decode cX8_as 11 = .ok (.ldc2_w 126, 3) := by decide +kernel
theorem dX8_as_14 : decode cX8_as 14 = .ok (.invokestatic 93, 3) := by decide +kernel
theorem dX8_as_17 : decode cX8_as 17 = .ok (.ifCond .ne 10, 3) := by decide +kernel
theorem dX8_as_20 : decode cX8_as 20 = .ok (.aload_n 0, 1) := by decide +kernel
theorem dX8_as_21 : decode cX8_as 21 = .ok (.ldc 92, 2) := by decide +kernel
theorem dX8_as_23 : decode cX8_as 23 = .ok (.invokevirtual 102, 3) := by decide +kernel
theorem dX8_as_26 : decode cX8_as 26 = .ok (.ireturn, 1) := by decide +kernel
theorem dX8_as_27 : decode cX8_as 27 = .ok (.aload_n 0, 1) := by decide +kernel
theorem dX8_as_28 : decode cX8_as 28 = .ok (.iload_n 1, 1) := by decide +kernel
theorem dX8_as_29 : decode cX8_as 29 = .ok (.iconst 0, 1) := by decide +kernel
theorem dX8_as_30 : decode cX8_as 30 = .ok (.invokevirtual 142, 3) := by decide +kernel
theorem dX8_as_33 : decode cX8_as 33 = .ok (.istore_n 3, 1) := by decide +kernel
theorem dX8_as_34 : decode cX8_as 34 = .ok (.iload_n 2, 1) := by decide +kernel
theorem dX8_as_35 : decode cX8_as 35 = .ok (.ifCond .eq 28, 3) := by decide +kernel
theorem dX8_as_38 : decode cX8_as 38 = .ok (.iload_n 2, 1) := by decide +kernel
theorem dX8_as_39 : decode cX8_as 39 = .ok (.iload_n 3, 1) := by decide +kernel
theorem dX8_as_40 : decode cX8_as 40 = .ok (.if_icmp .eq 23, 3) := by decide +kernel
theorem dX8_as_43 : decode cX8_as 43 = .ok (.iload_n 2, 1) := by decide +kernel
theorem dX8_as_44 : decode cX8_as 44 = .ok (.iconst 1, 1) := by decide +kernel
theorem dX8_as_45 : decode cX8_as 45 = .ok (.if_icmp .ne 8, 3) := by decide +kernel
theorem dX8_as_48 : decode cX8_as 48 = .ok (.iload_n 3, 1) := by decide +kernel
theorem dX8_as_49 : decode cX8_as 49 = .ok (.iconst 3, 1) := by decide +kernel
theorem dX8_as_50 : decode cX8_as 50 = .ok (.if_icmp .eq 13, 3) := by decide +kernel
theorem dX8_as_53 : decode cX8_as 53 = .ok (.iload_n 2, 1) := by decide +kernel
theorem dX8_as_54 : decode cX8_as 54 = .ok (.iconst 2, 1) := by decide +kernel
theorem dX8_as_55 : decode cX8_as 55 = .ok (.if_icmp .ne 12, 3) := by decide +kernel
theorem dX8_as_58 : decode cX8_as 58 = .ok (.iload_n 3, 1) := by decide +kernel
theorem dX8_as_59 : decode cX8_as 59 = .ok (.iconst 4, 1) := by decide +kernel
theorem dX8_as_60 : decode cX8_as 60 = .ok (.if_icmp .ne 7, 3) := by decide +kernel
theorem dX8_as_63 : decode cX8_as 63 = .ok (.iconst 1, 1) := by decide +kernel
theorem dX8_as_64 : decode cX8_as 64 = .ok (.goto 4, 3) := by decide +kernel
theorem dX8_as_67 : decode cX8_as 67 = .ok (.iconst 0, 1) := by decide +kernel
theorem dX8_as_68 : decode cX8_as 68 = .ok (.istore 4, 2) := by decide +kernel
theorem dX8_as_70 : decode cX8_as 70 = .ok (.iload 4, 2) := by decide +kernel
theorem dX8_as_72 : decode cX8_as 72 = .ok (.ifCond .eq 12, 3) := by decide +kernel
theorem dX8_as_75 : decode cX8_as 75 = .ok (.aload_n 0, 1) := by decide +kernel
theorem dX8_as_76 : decode cX8_as 76 = .ok (.iload_n 1, 1) := by decide +kernel
theorem dX8_as_77 : decode cX8_as 77 = .ok (.iconst 1, 1) := by decide +kernel
theorem dX8_as_78 : decode cX8_as 78 = .ok (.invokevirtual 142, 3) := by decide +kernel
theorem dX8_as_81 : decode cX8_as 81 = .ok (.goto 9, 3) := by decide +kernel
theorem dX8_as_84 : decode cX8_as 84 = .ok (.aload_n 0, 1) := by decide +kernel
theorem dX8_as_85 : decode cX8_as 85 = .ok (.ldc 166, 2) := by decide +kernel
theorem dX8_as_87 : decode cX8_as 87 = .ok (.invokevirtual 102, 3) := by decide +kernel
theorem dX8_as_90 : decode cX8_as 90 = .ok (.ireturn, 1) := by decide +kernel
theorem dX8_drop_0 : decode cX8_drop 0 = .ok (.aload_n 0, 1) := by decide +kernel
theorem dX8_drop_1 : decode cX8_drop 1 = .ok (.getfield 97, 3) := by decide +kernel
theorem dX8_drop_4 : decode cX8_drop 4 = .ok (.ifCond .ne 10, 3) := by decide +kernel
theorem dX8_drop_7 : decode cX8_drop 7 = .ok (.aload_n 0, 1) := by decide +kernel
theorem dX8_drop_8 : decode cX8_drop 8 = .ok (.ldc 167, 2) := by decide +kernel
theorem dX8_drop_10 : decode cX8_drop 10 = .ok (.invokevirtual 102, 3) := by decide +kernel
theorem dX8_drop_13 : decode cX8_drop 13 = .ok (.ireturn, 1) := by decide +kernel
theorem dX8_drop_14 : decode cX8_drop 14 = .ok (.aload_n 0, 1) := by decide +kernel
theorem dX8_drop_15 : decode cX8_drop 15 = .ok (.dup, 1) := by decide +kernel
theorem dX8_drop_16 : decode cX8_drop 16 = .ok (.getfield 97, 3) := by decide +kernel
theorem dX8_drop_19 : decode cX8_drop 19 = .ok (.iconst 1, 1) := by decide +kernel
theorem dX8_drop_20 : decode cX8_drop 20 = .ok (.isub, 1) := by decide +kernel
theorem dX8_drop_21 : decode cX8_drop 21 = .ok (.putfield 97, 3) := by decide +kernel
theorem dX8_drop_24 : decode cX8_drop 24 = .ok (.aload_n 0, 1) := by decide +kernel
theorem dX8_drop_25 : decode cX8_drop 25 = .ok (.getfield 97, 3) := by decide +kernel
theorem dX8_drop_28 : decode cX8_drop 28 = .ok (.ireturn, 1) := by decide +kernel
theorem dX8_holdsBy_0 : decode cX8_holdsBy 0 = .ok (.iload_n 0, 1) := by decide +kernel
theorem dX8_holdsBy_1 : decode cX8_holdsBy 1 = .ok (.tableswitch 102 1 5 #[35, 47, 57, 72, 90], 35) := by decide +kernel
theorem dX8_holdsBy_36 : decode cX8_holdsBy 36 = .ok (.lload_n 2, 1) := by decide +kernel
theorem dX8_holdsBy_37 : decode cX8_holdsBy 37 = .ok (.lconst 0, 1) := by decide +kernel
theorem dX8_holdsBy_38 : decode cX8_holdsBy 38 = .ok (.lcmp, 1) := by decide +kernel
theorem dX8_holdsBy_39 : decode cX8_holdsBy 39 = .ok (.ifCond .ne 7, 3) := by decide +kernel
theorem dX8_holdsBy_42 : decode cX8_holdsBy 42 = .ok (.iconst 1, 1) := by decide +kernel
theorem dX8_holdsBy_43 : decode cX8_holdsBy 43 = .ok (.goto 4, 3) := by decide +kernel
theorem dX8_holdsBy_46 : decode cX8_holdsBy 46 = .ok (.iconst 0, 1) := by decide +kernel
theorem dX8_holdsBy_47 : decode cX8_holdsBy 47 = .ok (.ireturn, 1) := by decide +kernel
theorem dX8_holdsBy_48 : decode cX8_holdsBy 48 = .ok (.lload_n 2, 1) := by decide +kernel
theorem dX8_holdsBy_49 : decode cX8_holdsBy 49 = .ok (.iload_n 1, 1) := by decide +kernel
theorem dX8_holdsBy_50 : decode cX8_holdsBy 50 = .ok (.ineg, 1) := by decide +kernel
theorem dX8_holdsBy_51 : decode cX8_holdsBy 51 = .ok (.i2l, 1) := by decide +kernel
theorem dX8_holdsBy_52 : decode cX8_holdsBy 52 = .ok (.iload_n 1, 1) := by decide +kernel
theorem dX8_holdsBy_53 : decode cX8_holdsBy 53 = .ok (.i2l, 1) := by decide +kernel
theorem dX8_holdsBy_54 : decode cX8_holdsBy 54 = .ok (.invokestatic 93, 3) := by decide +kernel
theorem dX8_holdsBy_57 : decode cX8_holdsBy 57 = .ok (.ireturn, 1) := by decide +kernel
theorem dX8_holdsBy_58 : decode cX8_holdsBy 58 = .ok (.lload_n 2, 1) := by decide +kernel
theorem dX8_holdsBy_59 : decode cX8_holdsBy 59 = .ok (.iload_n 1, 1) := by decide +kernel
theorem dX8_holdsBy_60 : decode cX8_holdsBy 60 = .ok (.i2l, 1) := by decide +kernel
theorem dX8_holdsBy_61 : decode cX8_holdsBy 61 = .ok (.lrem, 1) := by decide +kernel
theorem dX8_holdsBy_62 : decode cX8_holdsBy 62 = .ok (.lconst 0, 1) := by decide +kernel
theorem dX8_holdsBy_63 : decode cX8_holdsBy 63 = .ok (.lcmp, 1) := by decide +kernel
theorem dX8_holdsBy_64 : decode cX8_holdsBy 64 = .ok (.ifCond .ne 7, 3) := by decide +kernel
theorem dX8_holdsBy_67 : decode cX8_holdsBy 67 = .ok (.iconst 1, 1) := by decide +kernel
theorem dX8_holdsBy_68 : decode cX8_holdsBy 68 = .ok (.goto 4, 3) := by decide +kernel
theorem dX8_holdsBy_71 : decode cX8_holdsBy 71 = .ok (.iconst 0, 1) := by decide +kernel
theorem dX8_holdsBy_72 : decode cX8_holdsBy 72 = .ok (.ireturn, 1) := by decide +kernel
theorem dX8_holdsBy_73 : decode cX8_holdsBy 73 = .ok (.lload_n 2, 1) := by decide +kernel
theorem dX8_holdsBy_74 : decode cX8_holdsBy 74 = .ok (.iload_n 1, 1) := by decide +kernel
theorem dX8_holdsBy_75 : decode cX8_holdsBy 75 = .ok (.ineg, 1) := by decide +kernel
theorem dX8_holdsBy_76 : decode cX8_holdsBy 76 = .ok (.i2l, 1) := by decide +kernel
theorem dX8_holdsBy_77 : decode cX8_holdsBy 77 = .ok (.iload_n 1, 1) := by decide +kernel
theorem dX8_holdsBy_78 : decode cX8_holdsBy 78 = .ok (.i2l, 1) := by decide +kernel
theorem dX8_holdsBy_79 : decode cX8_holdsBy 79 = .ok (.invokestatic 93, 3) := by decide +kernel
theorem dX8_holdsBy_82 : decode cX8_holdsBy 82 = .ok (.ifCond .ne 7, 3) := by decide +kernel
theorem dX8_holdsBy_85 : decode cX8_holdsBy 85 = .ok (.iconst 1, 1) := by decide +kernel
theorem dX8_holdsBy_86 : decode cX8_holdsBy 86 = .ok (.goto 4, 3) := by decide +kernel
theorem dX8_holdsBy_89 : decode cX8_holdsBy 89 = .ok (.iconst 0, 1) := by decide +kernel
theorem dX8_holdsBy_90 : decode cX8_holdsBy 90 = .ok (.ireturn, 1) := by decide +kernel
theorem dX8_holdsBy_91 : decode cX8_holdsBy 91 = .ok (.lload_n 2, 1) := by decide +kernel
theorem dX8_holdsBy_92 : decode cX8_holdsBy 92 = .ok (.lconst 0, 1) := by decide +kernel
theorem dX8_holdsBy_93 : decode cX8_holdsBy 93 = .ok (.lcmp, 1) := by decide +kernel
theorem dX8_holdsBy_94 : decode cX8_holdsBy 94 = .ok (.ifCond .lt 7, 3) := by decide +kernel
theorem dX8_holdsBy_97 : decode cX8_holdsBy 97 = .ok (.iconst 1, 1) := by decide +kernel
theorem dX8_holdsBy_98 : decode cX8_holdsBy 98 = .ok (.goto 4, 3) := by decide +kernel
theorem dX8_holdsBy_101 : decode cX8_holdsBy 101 = .ok (.iconst 0, 1) := by decide +kernel
theorem dX8_holdsBy_102 : decode cX8_holdsBy 102 = .ok (.ireturn, 1) := by decide +kernel
theorem dX8_holdsBy_103 : decode cX8_holdsBy 103 = .ok (.lload_n 2, 1) := by decide +kernel
theorem dX8_holdsBy_104 : decode cX8_holdsBy 104 = .ok (.lconst 0, 1) := by decide +kernel
theorem dX8_holdsBy_105 : decode cX8_holdsBy 105 = .ok (.lcmp, 1) := by decide +kernel
theorem dX8_holdsBy_106 : decode cX8_holdsBy 106 = .ok (.ifCond .gt 7, 3) := by decide +kernel
theorem dX8_holdsBy_109 : decode cX8_holdsBy 109 = .ok (.iconst 1, 1) := by decide +kernel
theorem dX8_holdsBy_110 : decode cX8_holdsBy 110 = .ok (.goto 4, 3) := by decide +kernel
theorem dX8_holdsBy_113 : decode cX8_holdsBy 113 = .ok (.iconst 0, 1) := by decide +kernel
theorem dX8_holdsBy_114 : decode cX8_holdsBy 114 = .ok (.ireturn, 1) := by decide +kernel
theorem dX8_sumOf_0 : decode cX8_sumOf 0 = .ok (.lconst 0, 1) := by decide +kernel
theorem dX8_sumOf_1 : decode cX8_sumOf 1 = .ok (.lstore_n 2, 1) := by decide +kernel
theorem dX8_sumOf_2 : decode cX8_sumOf 2 = .ok (.iconst 0, 1) := by decide +kernel
theorem dX8_sumOf_3 : decode cX8_sumOf 3 = .ok (.istore 4, 2) := by decide +kernel
theorem dX8_sumOf_5 : decode cX8_sumOf 5 = .ok (.iload 4, 2) := by decide +kernel
theorem dX8_sumOf_7 : decode cX8_sumOf 7 = .ok (.aload_n 0, 1) := by decide +kernel
theorem dX8_sumOf_8 : decode cX8_sumOf 8 = .ok (.getfield 13, 3) := by decide +kernel
theorem dX8_sumOf_11 : decode cX8_sumOf 11 = .ok (.if_icmp .ge 30, 3) := by decide +kernel
theorem dX8_sumOf_14 : decode cX8_sumOf 14 = .ok (.lload_n 2, 1) := by decide +kernel
theorem dX8_sumOf_15 : decode cX8_sumOf 15 = .ok (.aload_n 0, 1) := by decide +kernel
theorem dX8_sumOf_16 : decode cX8_sumOf 16 = .ok (.iload_n 1, 1) := by decide +kernel
theorem dX8_sumOf_17 : decode cX8_sumOf 17 = .ok (.iconst 3, 1) := by decide +kernel
theorem dX8_sumOf_18 : decode cX8_sumOf 18 = .ok (.iload 4, 2) := by decide +kernel
theorem dX8_sumOf_20 : decode cX8_sumOf 20 = .ok (.iadd, 1) := by decide +kernel
theorem dX8_sumOf_21 : decode cX8_sumOf 21 = .ok (.invokevirtual 142, 3) := by decide +kernel
theorem dX8_sumOf_24 : decode cX8_sumOf 24 = .ok (.i2l, 1) := by decide +kernel
theorem dX8_sumOf_25 : decode cX8_sumOf 25 = .ok (.aload_n 0, 1) := by decide +kernel
theorem dX8_sumOf_26 : decode cX8_sumOf 26 = .ok (.getfield 32, 3) := by decide +kernel
theorem dX8_sumOf_29 : decode cX8_sumOf 29 = .ok (.iload 4, 2) := by decide +kernel
theorem dX8_sumOf_31 : decode cX8_sumOf 31 = .ok (.laload, 1) := by decide +kernel
theorem dX8_sumOf_32 : decode cX8_sumOf 32 = .ok (.lmul, 1) := by decide +kernel
theorem dX8_sumOf_33 : decode cX8_sumOf 33 = .ok (.ladd, 1) := by decide +kernel
theorem dX8_sumOf_34 : decode cX8_sumOf 34 = .ok (.lstore_n 2, 1) := by decide +kernel
theorem dX8_sumOf_35 : decode cX8_sumOf 35 = .ok (.iinc 4 1, 3) := by decide +kernel
theorem dX8_sumOf_38 : decode cX8_sumOf 38 = .ok (.goto (-33), 3) := by decide +kernel
theorem dX8_sumOf_41 : decode cX8_sumOf 41 = .ok (.lload_n 2, 1) := by decide +kernel
theorem dX8_sumOf_42 : decode cX8_sumOf 42 = .ok (.lreturn, 1) := by decide +kernel
theorem dX8_holding_0 : decode cX8_holding 0 = .ok (.iconst 0, 1) := by decide +kernel
theorem dX8_holding_1 : decode cX8_holding 1 = .ok (.istore_n 1, 1) := by decide +kernel
theorem dX8_holding_2 : decode cX8_holding 2 = .ok (.iconst 0, 1) := by decide +kernel
theorem dX8_holding_3 : decode cX8_holding 3 = .ok (.istore_n 2, 1) := by decide +kernel
theorem dX8_holding_4 : decode cX8_holding 4 = .ok (.iload_n 2, 1) := by decide +kernel
theorem dX8_holding_5 : decode cX8_holding 5 = .ok (.aload_n 0, 1) := by decide +kernel
theorem dX8_holding_6 : decode cX8_holding 6 = .ok (.getfield 97, 3) := by decide +kernel
theorem dX8_holding_9 : decode cX8_holding 9 = .ok (.if_icmp .ge 50, 3) := by decide +kernel
theorem dX8_holding_12 : decode cX8_holding 12 = .ok (.iload_n 1, 1) := by decide +kernel
theorem dX8_holding_13 : decode cX8_holding 13 = .ok (.aload_n 0, 1) := by decide +kernel
theorem dX8_holding_14 : decode cX8_holding 14 = .ok (.iload_n 2, 1) := by decide +kernel
theorem dX8_holding_15 : decode cX8_holding 15 = .ok (.iconst 0, 1) := by decide +kernel
theorem dX8_holding_16 : decode cX8_holding 16 = .ok (.invokevirtual 142, 3) := by decide +kernel
theorem dX8_holding_19 : decode cX8_holding 19 = .ok (.aload_n 0, 1) := by decide +kernel
theorem dX8_holding_20 : decode cX8_holding 20 = .ok (.iload_n 2, 1) := by decide +kernel
theorem dX8_holding_21 : decode cX8_holding 21 = .ok (.iconst 2, 1) := by decide +kernel
theorem dX8_holding_22 : decode cX8_holding 22 = .ok (.invokevirtual 142, 3) := by decide +kernel
theorem dX8_holding_25 : decode cX8_holding 25 = .ok (.aload_n 0, 1) := by decide +kernel
theorem dX8_holding_26 : decode cX8_holding 26 = .ok (.iload_n 2, 1) := by decide +kernel
theorem dX8_holding_27 : decode cX8_holding 27 = .ok (.invokevirtual 168, 3) := by decide +kernel
theorem dX8_holding_30 : decode cX8_holding 30 = .ok (.aload_n 0, 1) := by decide +kernel
theorem dX8_holding_31 : decode cX8_holding 31 = .ok (.iload_n 2, 1) := by decide +kernel
theorem dX8_holding_32 : decode cX8_holding 32 = .ok (.iconst 1, 1) := by decide +kernel
theorem dX8_holding_33 : decode cX8_holding 33 = .ok (.invokevirtual 142, 3) := by decide +kernel
theorem dX8_holding_36 : decode cX8_holding 36 = .ok (.i2l, 1) := by decide +kernel
theorem dX8_holding_37 : decode cX8_holding 37 = .ok (.lsub, 1) := by decide +kernel
theorem dX8_holding_38 : decode cX8_holding 38 = .ok (.invokestatic 172, 3) := by decide +kernel
theorem dX8_holding_41 : decode cX8_holding 41 = .ok (.ifCond .eq 9, 3) := by decide +kernel
theorem dX8_holding_44 : decode cX8_holding 44 = .ok (.iconst 1, 1) := by decide +kernel
theorem dX8_holding_45 : decode cX8_holding 45 = .ok (.iload_n 2, 1) := by decide +kernel
theorem dX8_holding_46 : decode cX8_holding 46 = .ok (.ishl, 1) := by decide +kernel
theorem dX8_holding_47 : decode cX8_holding 47 = .ok (.goto 4, 3) := by decide +kernel
theorem dX8_holding_50 : decode cX8_holding 50 = .ok (.iconst 0, 1) := by decide +kernel
theorem dX8_holding_51 : decode cX8_holding 51 = .ok (.ior, 1) := by decide +kernel
theorem dX8_holding_52 : decode cX8_holding 52 = .ok (.istore_n 1, 1) := by decide +kernel
theorem dX8_holding_53 : decode cX8_holding 53 = .ok (.iinc 2 1, 3) := by decide +kernel
theorem dX8_holding_56 : decode cX8_holding 56 = .ok (.goto (-52), 3) := by decide +kernel
theorem dX8_holding_59 : decode cX8_holding 59 = .ok (.iload_n 1, 1) := by decide +kernel
theorem dX8_holding_60 : decode cX8_holding 60 = .ok (.ireturn, 1) := by decide +kernel
theorem dX8_allRows_0 : decode cX8_allRows 0 = .ok (.iconst 1, 1) := by decide +kernel
theorem dX8_allRows_1 : decode cX8_allRows 1 = .ok (.aload_n 0, 1) := by decide +kernel
theorem dX8_allRows_2 : decode cX8_allRows 2 = .ok (.getfield 97, 3) := by decide +kernel
theorem dX8_allRows_5 : decode cX8_allRows 5 = .ok (.ishl, 1) := by decide +kernel
theorem dX8_allRows_6 : decode cX8_allRows 6 = .ok (.iconst 1, 1) := by decide +kernel
theorem dX8_allRows_7 : decode cX8_allRows 7 = .ok (.isub, 1) := by decide +kernel
theorem dX8_allRows_8 : decode cX8_allRows 8 = .ok (.ireturn, 1) := by decide +kernel
theorem dX8_goesTo_0 : decode cX8_goesTo 0 = .ok (.iload_n 1, 1) := by decide +kernel
theorem dX8_goesTo_1 : decode cX8_goesTo 1 = .ok (.istore_n 2, 1) := by decide +kernel
theorem dX8_goesTo_2 : decode cX8_goesTo 2 = .ok (.aload_n 0, 1) := by decide +kernel
theorem dX8_goesTo_3 : decode cX8_goesTo 3 = .ok (.getfield 13, 3) := by decide +kernel
theorem dX8_goesTo_6 : decode cX8_goesTo 6 = .ok (.iconst 1, 1) := by decide +kernel
theorem dX8_goesTo_7 : decode cX8_goesTo 7 = .ok (.isub, 1) := by decide +kernel
theorem dX8_goesTo_8 : decode cX8_goesTo 8 = .ok (.istore_n 3, 1) := by decide +kernel
theorem dX8_goesTo_9 : decode cX8_goesTo 9 = .ok (.iload_n 3, 1) := by decide +kernel
theorem dX8_goesTo_10 : decode cX8_goesTo 10 = .ok (.ifCond .lt 49, 3) := by decide +kernel
theorem dX8_goesTo_13 : decode cX8_goesTo 13 = .ok (.aload_n 0, 1) := by decide +kernel
theorem dX8_goesTo_14 : decode cX8_goesTo 14 = .ok (.getfield 20, 3) := by decide +kernel
theorem dX8_goesTo_17 : decode cX8_goesTo 17 = .ok (.iload_n 3, 1) := by decide +kernel
theorem dX8_goesTo_18 : decode cX8_goesTo 18 = .ok (.iaload, 1) := by decide +kernel
theorem dX8_goesTo_19 : decode cX8_goesTo 19 = .ok (.aload_n 0, 1) := by decide +kernel
theorem dX8_goesTo_20 : decode cX8_goesTo 20 = .ok (.getfield 17, 3) := by decide +kernel
theorem dX8_goesTo_23 : decode cX8_goesTo 23 = .ok (.iload_n 3, 1) := by decide +kernel
theorem dX8_goesTo_24 : decode cX8_goesTo 24 = .ok (.iaload, 1) := by decide +kernel
theorem dX8_goesTo_25 : decode cX8_goesTo 25 = .ok (.isub, 1) := by decide +kernel
theorem dX8_goesTo_26 : decode cX8_goesTo 26 = .ok (.iconst 1, 1) := by decide +kernel
theorem dX8_goesTo_27 : decode cX8_goesTo 27 = .ok (.iadd, 1) := by decide +kernel
theorem dX8_goesTo_28 : decode cX8_goesTo 28 = .ok (.istore 4, 2) := by decide +kernel
theorem dX8_goesTo_30 : decode cX8_goesTo 30 = .ok (.aload_n 0, 1) := by decide +kernel
theorem dX8_goesTo_31 : decode cX8_goesTo 31 = .ok (.getfield 32, 3) := by decide +kernel
theorem dX8_goesTo_34 : decode cX8_goesTo 34 = .ok (.iload_n 3, 1) := by decide +kernel
theorem dX8_goesTo_35 : decode cX8_goesTo 35 = .ok (.aload_n 0, 1) := by decide +kernel
theorem dX8_goesTo_36 : decode cX8_goesTo 36 = .ok (.getfield 17, 3) := by decide +kernel
theorem dX8_goesTo_39 : decode cX8_goesTo 39 = .ok (.iload_n 3, 1) := by decide +kernel
theorem dX8_goesTo_40 : decode cX8_goesTo 40 = .ok (.iaload, 1) := by decide +kernel
theorem dX8_goesTo_41 : decode cX8_goesTo 41 = .ok (.iload_n 2, 1) := by decide +kernel
theorem dX8_goesTo_42 : decode cX8_goesTo 42 = .ok (.iload 4, 2) := by decide +kernel
theorem dX8_goesTo_44 : decode cX8_goesTo 44 = .ok (.irem, 1) := by decide +kernel
theorem dX8_goesTo_45 : decode cX8_goesTo 45 = .ok (.iadd, 1) := by decide +kernel
theorem dX8_goesTo_46 : decode cX8_goesTo 46 = .ok (.i2l, 1) := by decide +kernel
theorem dX8_goesTo_47 : decode cX8_goesTo 47 = .ok (.lastore, 1) := by decide +kernel
theorem dX8_goesTo_48 : decode cX8_goesTo 48 = .ok (.iload_n 2, 1) := by decide +kernel
theorem dX8_goesTo_49 : decode cX8_goesTo 49 = .ok (.iload 4, 2) := by decide +kernel
theorem dX8_goesTo_51 : decode cX8_goesTo 51 = .ok (.idiv, 1) := by decide +kernel
theorem dX8_goesTo_52 : decode cX8_goesTo 52 = .ok (.istore_n 2, 1) := by decide +kernel
theorem dX8_goesTo_53 : decode cX8_goesTo 53 = .ok (.iinc 3 (-1), 3) := by decide +kernel
theorem dX8_goesTo_56 : decode cX8_goesTo 56 = .ok (.goto (-47), 3) := by decide +kernel
theorem dX8_goesTo_59 : decode cX8_goesTo 59 = .ok (.return_, 1) := by decide +kernel
theorem dX8_looks_0 : decode cX8_looks 0 = .ok (.aload_n 0, 1) := by decide +kernel
theorem dX8_looks_1 : decode cX8_looks 1 = .ok (.iconst 0, 1) := by decide +kernel
theorem dX8_looks_2 : decode cX8_looks 2 = .ok (.putfield 176, 3) := by decide +kernel
theorem dX8_looks_5 : decode cX8_looks 5 = .ok (.aload_n 0, 1) := by decide +kernel
theorem dX8_looks_6 : decode cX8_looks 6 = .ok (.invokevirtual 111, 3) := by decide +kernel
theorem dX8_looks_9 : decode cX8_looks 9 = .ok (.istore_n 1, 1) := by decide +kernel
theorem dX8_looks_10 : decode cX8_looks 10 = .ok (.iconst 0, 1) := by decide +kernel
theorem dX8_looks_11 : decode cX8_looks 11 = .ok (.istore_n 2, 1) := by decide +kernel
theorem dX8_looks_12 : decode cX8_looks 12 = .ok (.iload_n 2, 1) := by decide +kernel
theorem dX8_looks_13 : decode cX8_looks 13 = .ok (.iload_n 1, 1) := by decide +kernel
theorem dX8_looks_14 : decode cX8_looks 14 = .ok (.if_icmp .ge 57, 3) := by decide +kernel
theorem dX8_looks_17 : decode cX8_looks 17 = .ok (.aload_n 0, 1) := by decide +kernel
theorem dX8_looks_18 : decode cX8_looks 18 = .ok (.iload_n 2, 1) := by decide +kernel
theorem dX8_looks_19 : decode cX8_looks 19 = .ok (.invokevirtual 179, 3) := by decide +kernel
theorem dX8_looks_22 : decode cX8_looks 22 = .ok (.aload_n 0, 1) := by decide +kernel
theorem dX8_looks_23 : decode cX8_looks 23 = .ok (.getfield 36, 3) := by decide +kernel
theorem dX8_looks_26 : decode cX8_looks 26 = .ok (.iload_n 2, 1) := by decide +kernel
theorem dX8_looks_27 : decode cX8_looks 27 = .ok (.aload_n 0, 1) := by decide +kernel
theorem dX8_looks_28 : decode cX8_looks 28 = .ok (.invokevirtual 183, 3) := by decide +kernel
theorem dX8_looks_31 : decode cX8_looks 31 = .ok (.iastore, 1) := by decide +kernel
theorem dX8_looks_32 : decode cX8_looks 32 = .ok (.aload_n 0, 1) := by decide +kernel
theorem dX8_looks_33 : decode cX8_looks 33 = .ok (.getfield 36, 3) := by decide +kernel
theorem dX8_looks_36 : decode cX8_looks 36 = .ok (.iload_n 2, 1) := by decide +kernel
theorem dX8_looks_37 : decode cX8_looks 37 = .ok (.iaload, 1) := by decide +kernel
theorem dX8_looks_38 : decode cX8_looks 38 = .ok (.aload_n 0, 1) := by decide +kernel
theorem dX8_looks_39 : decode cX8_looks 39 = .ok (.invokevirtual 186, 3) := by decide +kernel
theorem dX8_looks_42 : decode cX8_looks 42 = .ok (.if_icmp .ne 23, 3) := by decide +kernel
theorem dX8_looks_45 : decode cX8_looks 45 = .ok (.aload_n 0, 1) := by decide +kernel
theorem dX8_looks_46 : decode cX8_looks 46 = .ok (.getfield 39, 3) := by decide +kernel
theorem dX8_looks_49 : decode cX8_looks 49 = .ok (.aload_n 0, 1) := by decide +kernel
theorem dX8_looks_50 : decode cX8_looks 50 = .ok (.getfield 176, 3) := by decide +kernel
theorem dX8_looks_53 : decode cX8_looks 53 = .ok (.iload_n 2, 1) := by decide +kernel
theorem dX8_looks_54 : decode cX8_looks 54 = .ok (.iastore, 1) := by decide +kernel
theorem dX8_looks_55 : decode cX8_looks 55 = .ok (.aload_n 0, 1) := by decide +kernel
theorem dX8_looks_56 : decode cX8_looks 56 = .ok (.dup, 1) := by decide +kernel
theorem dX8_looks_57 : decode cX8_looks 57 = .ok (.getfield 176, 3) := by decide +kernel
theorem dX8_looks_60 : decode cX8_looks 60 = .ok (.iconst 1, 1) := by decide +kernel
theorem dX8_looks_61 : decode cX8_looks 61 = .ok (.iadd, 1) := by decide +kernel
theorem dX8_looks_62 : decode cX8_looks 62 = .ok (.putfield 176, 3) := by decide +kernel
theorem dX8_looks_65 : decode cX8_looks 65 = .ok (.iinc 2 1, 3) := by decide +kernel
theorem dX8_looks_68 : decode cX8_looks 68 = .ok (.goto (-56), 3) := by decide +kernel
theorem dX8_looks_71 : decode cX8_looks 71 = .ok (.return_, 1) := by decide +kernel
theorem dX8_many_0 : decode cX8_many 0 = .ok (.aload_n 0, 1) := by decide +kernel
theorem dX8_many_1 : decode cX8_many 1 = .ok (.invokevirtual 189, 3) := by decide +kernel
theorem dX8_many_4 : decode cX8_many 4 = .ok (.aload_n 0, 1) := by decide +kernel
theorem dX8_many_5 : decode cX8_many 5 = .ok (.getfield 176, 3) := by decide +kernel
theorem dX8_many_8 : decode cX8_many 8 = .ok (.ireturn, 1) := by decide +kernel
theorem dX8_isIn_0 : decode cX8_isIn 0 = .ok (.aload_n 0, 1) := by decide +kernel
theorem dX8_isIn_1 : decode cX8_isIn 1 = .ok (.invokevirtual 189, 3) := by decide +kernel
theorem dX8_isIn_4 : decode cX8_isIn 4 = .ok (.iload_n 1, 1) := by decide +kernel
theorem dX8_isIn_5 : decode cX8_isIn 5 = .ok (.i2l, 1) := by decide +kernel
theorem dX8_isIn_6 : decode cX8_isIn 6 = .ok (.lconst 0, 1) := by decide +kernel
theorem dX8_isIn_7 : decode cX8_isIn 7 = .ok (.aload_n 0, 1) := by decide +kernel
theorem dX8_isIn_8 : decode cX8_isIn 8 = .ok (.getfield 176, 3) := by decide +kernel
theorem dX8_isIn_11 : decode cX8_isIn 11 = .ok (.iconst 1, 1) := by decide +kernel
theorem dX8_isIn_12 : decode cX8_isIn 12 = .ok (.isub, 1) := by decide +kernel
theorem dX8_isIn_13 : decode cX8_isIn 13 = .ok (.i2l, 1) := by decide +kernel
theorem dX8_isIn_14 : decode cX8_isIn 14 = .ok (.invokestatic 93, 3) := by decide +kernel
theorem dX8_isIn_17 : decode cX8_isIn 17 = .ok (.ifCond .ne 5, 3) := by decide +kernel
theorem dX8_isIn_20 : decode cX8_isIn 20 = .ok (.iconst 0, 1) := by decide +kernel
theorem dX8_isIn_21 : decode cX8_isIn 21 = .ok (.ireturn, 1) := by decide +kernel
theorem dX8_isIn_22 : decode cX8_isIn 22 = .ok (.aload_n 0, 1) := by decide +kernel
theorem dX8_isIn_23 : decode cX8_isIn 23 = .ok (.aload_n 0, 1) := by decide +kernel
theorem dX8_isIn_24 : decode cX8_isIn 24 = .ok (.getfield 39, 3) := by decide +kernel
theorem dX8_isIn_27 : decode cX8_isIn 27 = .ok (.iload_n 1, 1) := by decide +kernel
theorem dX8_isIn_28 : decode cX8_isIn 28 = .ok (.iaload, 1) := by decide +kernel
theorem dX8_isIn_29 : decode cX8_isIn 29 = .ok (.invokevirtual 179, 3) := by decide +kernel
theorem dX8_isIn_32 : decode cX8_isIn 32 = .ok (.iconst 1, 1) := by decide +kernel
theorem dX8_isIn_33 : decode cX8_isIn 33 = .ok (.ireturn, 1) := by decide +kernel
theorem dX8_point_0 : decode cX8_point 0 = .ok (.aload_n 0, 1) := by decide +kernel
theorem dX8_point_1 : decode cX8_point 1 = .ok (.iload_n 2, 1) := by decide +kernel
theorem dX8_point_2 : decode cX8_point 2 = .ok (.invokevirtual 115, 3) := by decide +kernel
theorem dX8_point_5 : decode cX8_point 5 = .ok (.ifCond .ne 10, 3) := by decide +kernel
theorem dX8_point_8 : decode cX8_point 8 = .ok (.aload_n 0, 1) := by decide +kernel
theorem dX8_point_9 : decode cX8_point 9 = .ok (.ldc 92, 2) := by decide +kernel
theorem dX8_point_11 : decode cX8_point 11 = .ok (.invokevirtual 102, 3) := by decide +kernel
theorem dX8_point_14 : decode cX8_point 14 = .ok (.ireturn, 1) := by decide +kernel
theorem dX8_point_15 : decode cX8_point 15 = .ok (.aload_n 0, 1) := by decide +kernel
theorem dX8_point_16 : decode cX8_point 16 = .ok (.iload_n 1, 1) := by decide +kernel
theorem dX8_point_17 : decode cX8_point 17 = .ok (.invokevirtual 192, 3) := by decide +kernel
theorem dX8_point_20 : decode cX8_point 20 = .ok (.ifCond .eq 13, 3) := by decide +kernel
theorem dX8_point_23 : decode cX8_point 23 = .ok (.aload_n 0, 1) := by decide +kernel
theorem dX8_point_24 : decode cX8_point 24 = .ok (.getfield 32, 3) := by decide +kernel
theorem dX8_point_27 : decode cX8_point 27 = .ok (.iload_n 2, 1) := by decide +kernel
theorem dX8_point_28 : decode cX8_point 28 = .ok (.laload, 1) := by decide +kernel
theorem dX8_point_29 : decode cX8_point 29 = .ok (.l2i, 1) := by decide +kernel
theorem dX8_point_30 : decode cX8_point 30 = .ok (.goto 9, 3) := by decide +kernel
theorem dX8_point_33 : decode cX8_point 33 = .ok (.aload_n 0, 1) := by decide +kernel
theorem dX8_point_34 : decode cX8_point 34 = .ok (.ldc 167, 2) := by decide +kernel
theorem dX8_point_36 : decode cX8_point 36 = .ok (.invokevirtual 102, 3) := by decide +kernel
theorem dX8_point_39 : decode cX8_point 39 = .ok (.ireturn, 1) := by decide +kernel
theorem dX8_takes_0 : decode cX8_takes 0 = .ok (.iload_n 1, 1) := by decide +kernel
theorem dX8_takes_1 : decode cX8_takes 1 = .ok (.invokestatic 195, 3) := by decide +kernel
theorem dX8_takes_4 : decode cX8_takes 4 = .ok (.ifCond .ne 6, 3) := by decide +kernel
theorem dX8_takes_7 : decode cX8_takes 7 = .ok (.ldc 92, 2) := by decide +kernel
theorem dX8_takes_9 : decode cX8_takes 9 = .ok (.ireturn, 1) := by decide +kernel
theorem dX8_takes_10 : decode cX8_takes 10 = .ok (.aload_n 0, 1) := by decide +kernel
theorem dX8_takes_11 : decode cX8_takes 11 = .ok (.getfield 71, 3) := by decide +kernel
theorem dX8_takes_14 : decode cX8_takes 14 = .ok (.iload_n 1, 1) := by decide +kernel
theorem dX8_takes_15 : decode cX8_takes 15 = .ok (.iaload, 1) := by decide +kernel
theorem dX8_takes_16 : decode cX8_takes 16 = .ok (.ifCond .ne 6, 3) := by decide +kernel
theorem dX8_takes_19 : decode cX8_takes 19 = .ok (.ldc 198, 2) := by decide +kernel
theorem dX8_takes_21 : decode cX8_takes 21 = .ok (.ireturn, 1) := by decide +kernel
theorem dX8_takes_22 : decode cX8_takes 22 = .ok (.aload_n 0, 1) := by decide +kernel
theorem dX8_takes_23 : decode cX8_takes 23 = .ok (.getfield 74, 3) := by decide +kernel
theorem dX8_takes_26 : decode cX8_takes 26 = .ok (.iload_n 1, 1) := by decide +kernel
theorem dX8_takes_27 : decode cX8_takes 27 = .ok (.iaload, 1) := by decide +kernel
theorem dX8_takes_28 : decode cX8_takes 28 = .ok (.aload_n 0, 1) := by decide +kernel
theorem dX8_takes_29 : decode cX8_takes 29 = .ok (.getfield 13, 3) := by decide +kernel
theorem dX8_takes_32 : decode cX8_takes 32 = .ok (.if_icmp .ge 6, 3) := by decide +kernel
theorem dX8_takes_35 : decode cX8_takes 35 = .ok (.ldc 199, 2) := by decide +kernel
theorem dX8_takes_37 : decode cX8_takes 37 = .ok (.ireturn, 1) := by decide +kernel
theorem dX8_takes_38 : decode cX8_takes 38 = .ok (.iconst 0, 1) := by decide +kernel
theorem dX8_takes_39 : decode cX8_takes 39 = .ok (.istore_n 2, 1) := by decide +kernel
theorem dX8_takes_40 : decode cX8_takes 40 = .ok (.iload_n 2, 1) := by decide +kernel
theorem dX8_takes_41 : decode cX8_takes 41 = .ok (.aload_n 0, 1) := by decide +kernel
theorem dX8_takes_42 : decode cX8_takes 42 = .ok (.getfield 13, 3) := by decide +kernel
theorem dX8_takes_45 : decode cX8_takes 45 = .ok (.if_icmp .ge 26, 3) := by decide +kernel
theorem dX8_takes_48 : decode cX8_takes 48 = .ok (.aload_n 0, 1) := by decide +kernel
theorem dX8_takes_49 : decode cX8_takes 49 = .ok (.getfield 32, 3) := by decide +kernel
theorem dX8_takes_52 : decode cX8_takes 52 = .ok (.iload_n 2, 1) := by decide +kernel
theorem dX8_takes_53 : decode cX8_takes 53 = .ok (.aload_n 0, 1) := by decide +kernel
theorem dX8_takes_54 : decode cX8_takes 54 = .ok (.getfield 77, 3) := by decide +kernel
theorem dX8_takes_57 : decode cX8_takes 57 = .ok (.bipush 40, 2) := by decide +kernel
theorem dX8_takes_59 : decode cX8_takes 59 = .ok (.iload_n 1, 1) := by decide +kernel
theorem dX8_takes_60 : decode cX8_takes 60 = .ok (.imul, 1) := by decide +kernel
theorem dX8_takes_61 : decode cX8_takes 61 = .ok (.iload_n 2, 1) := by decide +kernel
theorem dX8_takes_62 : decode cX8_takes 62 = .ok (.iadd, 1) := by decide +kernel
theorem dX8_takes_63 : decode cX8_takes 63 = .ok (.laload, 1) := by decide +kernel
theorem dX8_takes_64 : decode cX8_takes 64 = .ok (.lastore, 1) := by decide +kernel
theorem dX8_takes_65 : decode cX8_takes 65 = .ok (.iinc 2 1, 3) := by decide +kernel
theorem dX8_takes_68 : decode cX8_takes 68 = .ok (.goto (-28), 3) := by decide +kernel
theorem dX8_takes_71 : decode cX8_takes 71 = .ok (.iconst 0, 1) := by decide +kernel
theorem dX8_takes_72 : decode cX8_takes 72 = .ok (.ireturn, 1) := by decide +kernel
theorem dX8_isNear_0 : decode cX8_isNear 0 = .ok (.iconst 1, 1) := by decide +kernel
theorem dX8_isNear_1 : decode cX8_isNear 1 = .ok (.istore_n 1, 1) := by decide +kernel
theorem dX8_isNear_2 : decode cX8_isNear 2 = .ok (.iconst 0, 1) := by decide +kernel
theorem dX8_isNear_3 : decode cX8_isNear 3 = .ok (.istore_n 2, 1) := by decide +kernel
theorem dX8_isNear_4 : decode cX8_isNear 4 = .ok (.iload_n 2, 1) := by decide +kernel
theorem dX8_isNear_5 : decode cX8_isNear 5 = .ok (.aload_n 0, 1) := by decide +kernel
theorem dX8_isNear_6 : decode cX8_isNear 6 = .ok (.getfield 13, 3) := by decide +kernel
theorem dX8_isNear_9 : decode cX8_isNear 9 = .ok (.if_icmp .ge 37, 3) := by decide +kernel
theorem dX8_isNear_12 : decode cX8_isNear 12 = .ok (.iload_n 1, 1) := by decide +kernel
theorem dX8_isNear_13 : decode cX8_isNear 13 = .ok (.ifCond .eq 25, 3) := by decide +kernel
theorem dX8_isNear_16 : decode cX8_isNear 16 = .ok (.aload_n 0, 1) := by decide +kernel
theorem dX8_isNear_17 : decode cX8_isNear 17 = .ok (.getfield 32, 3) := by decide +kernel
theorem dX8_isNear_20 : decode cX8_isNear 20 = .ok (.iload_n 2, 1) := by decide +kernel
theorem dX8_isNear_21 : decode cX8_isNear 21 = .ok (.laload, 1) := by decide +kernel
theorem dX8_isNear_22 : decode cX8_isNear 22 = .ok (.ldc2_w 128, 3) := by decide +kernel
theorem dX8_isNear_25 : decode cX8_isNear 25 = .ok (.ldc2_w 130, 3) := by decide +kernel
theorem dX8_isNear_28 : decode cX8_isNear 28 = .ok (.invokestatic 93, 3) := by decide +kernel
theorem dX8_isNear_31 : decode cX8_isNear 31 = .ok (.ifCond .eq 7, 3) := by decide +kernel
theorem dX8_isNear_34 : decode cX8_isNear 34 = .ok (.iconst 1, 1) := by decide +kernel
theorem dX8_isNear_35 : decode cX8_isNear 35 = .ok (.goto 4, 3) := by decide +kernel
theorem dX8_isNear_38 : decode cX8_isNear 38 = .ok (.iconst 0, 1) := by decide +kernel
theorem dX8_isNear_39 : decode cX8_isNear 39 = .ok (.istore_n 1, 1) := by decide +kernel
theorem dX8_isNear_40 : decode cX8_isNear 40 = .ok (.iinc 2 1, 3) := by decide +kernel
theorem dX8_isNear_43 : decode cX8_isNear 43 = .ok (.goto (-39), 3) := by decide +kernel
theorem dX8_isNear_46 : decode cX8_isNear 46 = .ok (.iload_n 1, 1) := by decide +kernel
theorem dX8_isNear_47 : decode cX8_isNear 47 = .ok (.ireturn, 1) := by decide +kernel
theorem dX8_holds_0 : decode cX8_holds 0 = .ok (.aload_n 0, 1) := by decide +kernel
theorem dX8_holds_1 : decode cX8_holds 1 = .ok (.iload_n 1, 1) := by decide +kernel
theorem dX8_holds_2 : decode cX8_holds 2 = .ok (.invokevirtual 200, 3) := by decide +kernel
theorem dX8_holds_5 : decode cX8_holds 5 = .ok (.istore_n 2, 1) := by decide +kernel
theorem dX8_holds_6 : decode cX8_holds 6 = .ok (.iload_n 2, 1) := by decide +kernel
theorem dX8_holds_7 : decode cX8_holds 7 = .ok (.ifCond .eq 9, 3) := by decide +kernel
theorem dX8_holds_10 : decode cX8_holds 10 = .ok (.aload_n 0, 1) := by decide +kernel
theorem dX8_holds_11 : decode cX8_holds 11 = .ok (.iload_n 2, 1) := by decide +kernel
theorem dX8_holds_12 : decode cX8_holds 12 = .ok (.invokevirtual 102, 3) := by decide +kernel
theorem dX8_holds_15 : decode cX8_holds 15 = .ok (.ireturn, 1) := by decide +kernel
theorem dX8_holds_16 : decode cX8_holds 16 = .ok (.aload_n 0, 1) := by decide +kernel
theorem dX8_holds_17 : decode cX8_holds 17 = .ok (.invokevirtual 203, 3) := by decide +kernel
theorem dX8_holds_20 : decode cX8_holds 20 = .ok (.ifCond .eq 10, 3) := by decide +kernel
theorem dX8_holds_23 : decode cX8_holds 23 = .ok (.aload_n 0, 1) := by decide +kernel
theorem dX8_holds_24 : decode cX8_holds 24 = .ok (.invokevirtual 183, 3) := by decide +kernel
theorem dX8_holds_27 : decode cX8_holds 27 = .ok (.goto 9, 3) := by decide +kernel
theorem dX8_holds_30 : decode cX8_holds 30 = .ok (.aload_n 0, 1) := by decide +kernel
theorem dX8_holds_31 : decode cX8_holds 31 = .ok (.ldc 207, 2) := by decide +kernel
theorem dX8_holds_33 : decode cX8_holds 33 = .ok (.invokevirtual 102, 3) := by decide +kernel
theorem dX8_holds_36 : decode cX8_holds 36 = .ok (.ireturn, 1) := by decide +kernel
theorem dX8_directions_0 : decode cX8_directions 0 = .ok (.iconst 1, 1) := by decide +kernel
theorem dX8_directions_1 : decode cX8_directions 1 = .ok (.istore_n 1, 1) := by decide +kernel
theorem dX8_directions_2 : decode cX8_directions 2 = .ok (.iconst 0, 1) := by decide +kernel
theorem dX8_directions_3 : decode cX8_directions 3 = .ok (.istore_n 2, 1) := by decide +kernel
theorem dX8_directions_4 : decode cX8_directions 4 = .ok (.iload_n 2, 1) := by decide +kernel
theorem dX8_directions_5 : decode cX8_directions 5 = .ok (.aload_n 0, 1) := by decide +kernel
theorem dX8_directions_6 : decode cX8_directions 6 = .ok (.getfield 13, 3) := by decide +kernel
theorem dX8_directions_9 : decode cX8_directions 9 = .ok (.if_icmp .ge 13, 3) := by decide +kernel
theorem dX8_directions_12 : decode cX8_directions 12 = .ok (.iload_n 1, 1) := by decide +kernel
theorem dX8_directions_13 : decode cX8_directions 13 = .ok (.iconst 5, 1) := by decide +kernel
theorem dX8_directions_14 : decode cX8_directions 14 = .ok (.imul, 1) := by decide +kernel
theorem dX8_directions_15 : decode cX8_directions 15 = .ok (.istore_n 1, 1) := by decide +kernel
theorem dX8_directions_16 : decode cX8_directions 16 = .ok (.iinc 2 1, 3) := by decide +kernel
theorem dX8_directions_19 : decode cX8_directions 19 = .ok (.goto (-15), 3) := by decide +kernel
theorem dX8_directions_22 : decode cX8_directions 22 = .ok (.iload_n 1, 1) := by decide +kernel
theorem dX8_directions_23 : decode cX8_directions 23 = .ok (.ireturn, 1) := by decide +kernel
theorem dX8_measures_0 : decode cX8_measures 0 = .ok (.iload_n 1, 1) := by decide +kernel
theorem dX8_measures_1 : decode cX8_measures 1 = .ok (.istore_n 2, 1) := by decide +kernel
theorem dX8_measures_2 : decode cX8_measures 2 = .ok (.aload_n 0, 1) := by decide +kernel
theorem dX8_measures_3 : decode cX8_measures 3 = .ok (.getfield 13, 3) := by decide +kernel
theorem dX8_measures_6 : decode cX8_measures 6 = .ok (.iconst 1, 1) := by decide +kernel
theorem dX8_measures_7 : decode cX8_measures 7 = .ok (.isub, 1) := by decide +kernel
theorem dX8_measures_8 : decode cX8_measures 8 = .ok (.istore_n 3, 1) := by decide +kernel
theorem dX8_measures_9 : decode cX8_measures 9 = .ok (.iload_n 3, 1) := by decide +kernel
theorem dX8_measures_10 : decode cX8_measures 10 = .ok (.ifCond .lt 24, 3) := by decide +kernel
theorem dX8_measures_13 : decode cX8_measures 13 = .ok (.aload_n 0, 1) := by decide +kernel
theorem dX8_measures_14 : decode cX8_measures 14 = .ok (.getfield 42, 3) := by decide +kernel
theorem dX8_measures_17 : decode cX8_measures 17 = .ok (.iload_n 3, 1) := by decide +kernel
theorem dX8_measures_18 : decode cX8_measures 18 = .ok (.iload_n 2, 1) := by decide +kernel
theorem dX8_measures_19 : decode cX8_measures 19 = .ok (.iconst 5, 1) := by decide +kernel
theorem dX8_measures_20 : decode cX8_measures 20 = .ok (.irem, 1) := by decide +kernel
theorem dX8_measures_21 : decode cX8_measures 21 = .ok (.iconst 2, 1) := by decide +kernel
theorem dX8_measures_22 : decode cX8_measures 22 = .ok (.isub, 1) := by decide +kernel
theorem dX8_measures_23 : decode cX8_measures 23 = .ok (.iastore, 1) := by decide +kernel
theorem dX8_measures_24 : decode cX8_measures 24 = .ok (.iload_n 2, 1) := by decide +kernel
theorem dX8_measures_25 : decode cX8_measures 25 = .ok (.iconst 5, 1) := by decide +kernel
theorem dX8_measures_26 : decode cX8_measures 26 = .ok (.idiv, 1) := by decide +kernel
theorem dX8_measures_27 : decode cX8_measures 27 = .ok (.istore_n 2, 1) := by decide +kernel
theorem dX8_measures_28 : decode cX8_measures 28 = .ok (.iinc 3 (-1), 3) := by decide +kernel
theorem dX8_measures_31 : decode cX8_measures 31 = .ok (.goto (-22), 3) := by decide +kernel
theorem dX8_measures_34 : decode cX8_measures 34 = .ok (.iconst 0, 1) := by decide +kernel
theorem dX8_measures_35 : decode cX8_measures 35 = .ok (.istore_n 3, 1) := by decide +kernel
theorem dX8_measures_36 : decode cX8_measures 36 = .ok (.iconst 0, 1) := by decide +kernel
theorem dX8_measures_37 : decode cX8_measures 37 = .ok (.istore 4, 2) := by decide +kernel
theorem dX8_measures_39 : decode cX8_measures 39 = .ok (.iload 4, 2) := by decide +kernel
theorem dX8_measures_41 : decode cX8_measures 41 = .ok (.aload_n 0, 1) := by decide +kernel
theorem dX8_measures_42 : decode cX8_measures 42 = .ok (.getfield 176, 3) := by decide +kernel
theorem dX8_measures_45 : decode cX8_measures 45 = .ok (.if_icmp .ge 106, 3) := by decide +kernel
theorem dX8_measures_48 : decode cX8_measures 48 = .ok (.aload_n 0, 1) := by decide +kernel
theorem dX8_measures_49 : decode cX8_measures 49 = .ok (.aload_n 0, 1) := by decide +kernel
theorem dX8_measures_50 : decode cX8_measures 50 = .ok (.getfield 39, 3) := by decide +kernel
theorem dX8_measures_53 : decode cX8_measures 53 = .ok (.iload 4, 2) := by decide +kernel
theorem dX8_measures_55 : decode cX8_measures 55 = .ok (.iaload, 1) := by decide +kernel
theorem dX8_measures_56 : decode cX8_measures 56 = .ok (.invokevirtual 179, 3) := by decide +kernel
theorem dX8_measures_59 : decode cX8_measures 59 = .ok (.iconst 0, 1) := by decide +kernel
theorem dX8_measures_60 : decode cX8_measures 60 = .ok (.istore 5, 2) := by decide +kernel
theorem dX8_measures_62 : decode cX8_measures 62 = .ok (.iconst 0, 1) := by decide +kernel
theorem dX8_measures_63 : decode cX8_measures 63 = .ok (.istore 6, 2) := by decide +kernel
theorem dX8_measures_65 : decode cX8_measures 65 = .ok (.iload 6, 2) := by decide +kernel
theorem dX8_measures_67 : decode cX8_measures 67 = .ok (.aload_n 0, 1) := by decide +kernel
theorem dX8_measures_68 : decode cX8_measures 68 = .ok (.getfield 13, 3) := by decide +kernel
theorem dX8_measures_71 : decode cX8_measures 71 = .ok (.if_icmp .ge 30, 3) := by decide +kernel
theorem dX8_measures_74 : decode cX8_measures 74 = .ok (.iload 5, 2) := by decide +kernel
theorem dX8_measures_76 : decode cX8_measures 76 = .ok (.aload_n 0, 1) := by decide +kernel
theorem dX8_measures_77 : decode cX8_measures 77 = .ok (.getfield 42, 3) := by decide +kernel
theorem dX8_measures_80 : decode cX8_measures 80 = .ok (.iload 6, 2) := by decide +kernel
theorem dX8_measures_82 : decode cX8_measures 82 = .ok (.iaload, 1) := by decide +kernel
theorem dX8_measures_83 : decode cX8_measures 83 = .ok (.aload_n 0, 1) := by decide +kernel
theorem dX8_measures_84 : decode cX8_measures 84 = .ok (.getfield 32, 3) := by decide +kernel
theorem dX8_measures_87 : decode cX8_measures 87 = .ok (.iload 6, 2) := by decide +kernel
theorem dX8_measures_89 : decode cX8_measures 89 = .ok (.laload, 1) := by decide +kernel
theorem dX8_measures_90 : decode cX8_measures 90 = .ok (.l2i, 1) := by decide +kernel
theorem dX8_measures_91 : decode cX8_measures 91 = .ok (.imul, 1) := by decide +kernel
theorem dX8_measures_92 : decode cX8_measures 92 = .ok (.iadd, 1) := by decide +kernel
theorem dX8_measures_93 : decode cX8_measures 93 = .ok (.istore 5, 2) := by decide +kernel
theorem dX8_measures_95 : decode cX8_measures 95 = .ok (.iinc 6 1, 3) := by decide +kernel
theorem dX8_measures_98 : decode cX8_measures 98 = .ok (.goto (-33), 3) := by decide +kernel
theorem dX8_measures_101 : decode cX8_measures 101 = .ok (.iload 4, 2) := by decide +kernel
theorem dX8_measures_103 : decode cX8_measures 103 = .ok (.ifCond .eq 12, 3) := by decide +kernel
theorem dX8_measures_106 : decode cX8_measures 106 = .ok (.iload 5, 2) := by decide +kernel
theorem dX8_measures_108 : decode cX8_measures 108 = .ok (.aload_n 0, 1) := by decide +kernel
theorem dX8_measures_109 : decode cX8_measures 109 = .ok (.getfield 208, 3) := by decide +kernel
theorem dX8_measures_112 : decode cX8_measures 112 = .ok (.if_icmp .le 15, 3) := by decide +kernel
theorem dX8_measures_115 : decode cX8_measures 115 = .ok (.aload_n 0, 1) := by decide +kernel
theorem dX8_measures_116 : decode cX8_measures 116 = .ok (.iload 5, 2) := by decide +kernel
theorem dX8_measures_118 : decode cX8_measures 118 = .ok (.putfield 208, 3) := by decide +kernel
theorem dX8_measures_121 : decode cX8_measures 121 = .ok (.aload_n 0, 1) := by decide +kernel
theorem dX8_measures_122 : decode cX8_measures 122 = .ok (.iload 4, 2) := by decide +kernel
theorem dX8_measures_124 : decode cX8_measures 124 = .ok (.putfield 211, 3) := by decide +kernel
theorem dX8_measures_127 : decode cX8_measures 127 = .ok (.iload 4, 2) := by decide +kernel
theorem dX8_measures_129 : decode cX8_measures 129 = .ok (.ifCond .eq 9, 3) := by decide +kernel
theorem dX8_measures_132 : decode cX8_measures 132 = .ok (.iload 5, 2) := by decide +kernel
theorem dX8_measures_134 : decode cX8_measures 134 = .ok (.iload_n 3, 1) := by decide +kernel
theorem dX8_measures_135 : decode cX8_measures 135 = .ok (.if_icmp .ge 8, 3) := by decide +kernel
theorem dX8_measures_138 : decode cX8_measures 138 = .ok (.iload 5, 2) := by decide +kernel
theorem dX8_measures_140 : decode cX8_measures 140 = .ok (.goto 4, 3) := by decide +kernel
theorem dX8_measures_143 : decode cX8_measures 143 = .ok (.iload_n 3, 1) := by decide +kernel
theorem dX8_measures_144 : decode cX8_measures 144 = .ok (.istore_n 3, 1) := by decide +kernel
theorem dX8_measures_145 : decode cX8_measures 145 = .ok (.iinc 4 1, 3) := by decide +kernel
theorem dX8_measures_148 : decode cX8_measures 148 = .ok (.goto (-109), 3) := by decide +kernel
theorem dX8_measures_151 : decode cX8_measures 151 = .ok (.aload_n 0, 1) := by decide +kernel
theorem dX8_measures_152 : decode cX8_measures 152 = .ok (.aload_n 0, 1) := by decide +kernel
theorem dX8_measures_153 : decode cX8_measures 153 = .ok (.getfield 208, 3) := by decide +kernel
theorem dX8_measures_156 : decode cX8_measures 156 = .ok (.iload_n 3, 1) := by decide +kernel
theorem dX8_measures_157 : decode cX8_measures 157 = .ok (.isub, 1) := by decide +kernel
theorem dX8_measures_158 : decode cX8_measures 158 = .ok (.putfield 214, 3) := by decide +kernel
theorem dX8_measures_161 : decode cX8_measures 161 = .ok (.return_, 1) := by decide +kernel
theorem dX8_best_0 : decode cX8_best 0 = .ok (.iload_n 1, 1) := by decide +kernel
theorem dX8_best_1 : decode cX8_best 1 = .ok (.i2l, 1) := by decide +kernel
theorem dX8_best_2 : decode cX8_best 2 = .ok (.lconst 0, 1) := by decide +kernel
theorem dX8_best_3 : decode cX8_best 3 = .ok (.aload_n 0, 1) := by decide +kernel
theorem dX8_best_4 : decode cX8_best 4 = .ok (.invokevirtual 217, 3) := by decide +kernel
theorem dX8_best_7 : decode cX8_best 7 = .ok (.iconst 1, 1) := by decide +kernel
theorem dX8_best_8 : decode cX8_best 8 = .ok (.isub, 1) := by decide +kernel
theorem dX8_best_9 : decode cX8_best 9 = .ok (.i2l, 1) := by decide +kernel
theorem dX8_best_10 : decode cX8_best 10 = .ok (.invokestatic 93, 3) := by decide +kernel
theorem dX8_best_13 : decode cX8_best 13 = .ok (.ifCond .eq 15, 3) := by decide +kernel
theorem dX8_best_16 : decode cX8_best 16 = .ok (.iload_n 2, 1) := by decide +kernel
theorem dX8_best_17 : decode cX8_best 17 = .ok (.i2l, 1) := by decide +kernel
theorem dX8_best_18 : decode cX8_best 18 = .ok (.lconst 0, 1) := by decide +kernel
theorem dX8_best_19 : decode cX8_best 19 = .ok (.ldc2_w 220, 3) := by decide +kernel
theorem dX8_best_22 : decode cX8_best 22 = .ok (.invokestatic 93, 3) := by decide +kernel
theorem dX8_best_25 : decode cX8_best 25 = .ok (.ifCond .ne 10, 3) := by decide +kernel
theorem dX8_best_28 : decode cX8_best 28 = .ok (.aload_n 0, 1) := by decide +kernel
theorem dX8_best_29 : decode cX8_best 29 = .ok (.ldc 92, 2) := by decide +kernel
theorem dX8_best_31 : decode cX8_best 31 = .ok (.invokevirtual 102, 3) := by decide +kernel
theorem dX8_best_34 : decode cX8_best 34 = .ok (.ireturn, 1) := by decide +kernel
theorem dX8_best_35 : decode cX8_best 35 = .ok (.aload_n 0, 1) := by decide +kernel
theorem dX8_best_36 : decode cX8_best 36 = .ok (.invokevirtual 189, 3) := by decide +kernel
theorem dX8_best_39 : decode cX8_best 39 = .ok (.aload_n 0, 1) := by decide +kernel
theorem dX8_best_40 : decode cX8_best 40 = .ok (.getfield 176, 3) := by decide +kernel
theorem dX8_best_43 : decode cX8_best 43 = .ok (.ifCond .ne 10, 3) := by decide +kernel
theorem dX8_best_46 : decode cX8_best 46 = .ok (.aload_n 0, 1) := by decide +kernel
theorem dX8_best_47 : decode cX8_best 47 = .ok (.ldc 167, 2) := by decide +kernel
theorem dX8_best_49 : decode cX8_best 49 = .ok (.invokevirtual 102, 3) := by decide +kernel
theorem dX8_best_52 : decode cX8_best 52 = .ok (.ireturn, 1) := by decide +kernel
theorem dX8_best_53 : decode cX8_best 53 = .ok (.aload_n 0, 1) := by decide +kernel
theorem dX8_best_54 : decode cX8_best 54 = .ok (.iload_n 1, 1) := by decide +kernel
theorem dX8_best_55 : decode cX8_best 55 = .ok (.invokevirtual 222, 3) := by decide +kernel
theorem dX8_best_58 : decode cX8_best 58 = .ok (.iload_n 2, 1) := by decide +kernel
theorem dX8_best_59 : decode cX8_best 59 = .ok (.ifCond .ne 10, 3) := by decide +kernel
theorem dX8_best_62 : decode cX8_best 62 = .ok (.aload_n 0, 1) := by decide +kernel
theorem dX8_best_63 : decode cX8_best 63 = .ok (.getfield 208, 3) := by decide +kernel
theorem dX8_best_66 : decode cX8_best 66 = .ok (.goto 19, 3) := by decide +kernel
theorem dX8_best_69 : decode cX8_best 69 = .ok (.iload_n 2, 1) := by decide +kernel
theorem dX8_best_70 : decode cX8_best 70 = .ok (.iconst 1, 1) := by decide +kernel
theorem dX8_best_71 : decode cX8_best 71 = .ok (.if_icmp .ne 10, 3) := by decide +kernel
theorem dX8_best_74 : decode cX8_best 74 = .ok (.aload_n 0, 1) := by decide +kernel
theorem dX8_best_75 : decode cX8_best 75 = .ok (.getfield 211, 3) := by decide +kernel
theorem dX8_best_78 : decode cX8_best 78 = .ok (.goto 7, 3) := by decide +kernel
theorem dX8_best_81 : decode cX8_best 81 = .ok (.aload_n 0, 1) := by decide +kernel
theorem dX8_best_82 : decode cX8_best 82 = .ok (.getfield 214, 3) := by decide +kernel
theorem dX8_best_85 : decode cX8_best 85 = .ok (.ireturn, 1) := by decide +kernel
theorem dX8_thin_0 : decode cX8_thin 0 = .ok (.iload_n 1, 1) := by decide +kernel
theorem dX8_thin_1 : decode cX8_thin 1 = .ok (.i2l, 1) := by decide +kernel
theorem dX8_thin_2 : decode cX8_thin 2 = .ok (.lconst 0, 1) := by decide +kernel
theorem dX8_thin_3 : decode cX8_thin 3 = .ok (.lconst 1, 1) := by decide +kernel
theorem dX8_thin_4 : decode cX8_thin 4 = .ok (.invokestatic 93, 3) := by decide +kernel
theorem dX8_thin_7 : decode cX8_thin 7 = .ok (.ifCond .ne 10, 3) := by decide +kernel
theorem dX8_thin_10 : decode cX8_thin 10 = .ok (.aload_n 0, 1) := by decide +kernel
theorem dX8_thin_11 : decode cX8_thin 11 = .ok (.ldc 92, 2) := by decide +kernel
theorem dX8_thin_13 : decode cX8_thin 13 = .ok (.invokevirtual 102, 3) := by decide +kernel
theorem dX8_thin_16 : decode cX8_thin 16 = .ok (.ireturn, 1) := by decide +kernel
theorem dX8_thin_17 : decode cX8_thin 17 = .ok (.aload_n 0, 1) := by decide +kernel
theorem dX8_thin_18 : decode cX8_thin 18 = .ok (.invokevirtual 189, 3) := by decide +kernel
theorem dX8_thin_21 : decode cX8_thin 21 = .ok (.aload_n 0, 1) := by decide +kernel
theorem dX8_thin_22 : decode cX8_thin 22 = .ok (.getfield 176, 3) := by decide +kernel
theorem dX8_thin_25 : decode cX8_thin 25 = .ok (.ifCond .ne 10, 3) := by decide +kernel
theorem dX8_thin_28 : decode cX8_thin 28 = .ok (.aload_n 0, 1) := by decide +kernel
theorem dX8_thin_29 : decode cX8_thin 29 = .ok (.ldc 167, 2) := by decide +kernel
theorem dX8_thin_31 : decode cX8_thin 31 = .ok (.invokevirtual 102, 3) := by decide +kernel
theorem dX8_thin_34 : decode cX8_thin 34 = .ok (.ireturn, 1) := by decide +kernel
theorem dX8_thin_35 : decode cX8_thin 35 = .ok (.iconst (-1), 1) := by decide +kernel
theorem dX8_thin_36 : decode cX8_thin 36 = .ok (.istore_n 2, 1) := by decide +kernel
theorem dX8_thin_37 : decode cX8_thin 37 = .ok (.iconst 0, 1) := by decide +kernel
theorem dX8_thin_38 : decode cX8_thin 38 = .ok (.istore_n 3, 1) := by decide +kernel
theorem dX8_thin_39 : decode cX8_thin 39 = .ok (.aload_n 0, 1) := by decide +kernel
theorem dX8_thin_40 : decode cX8_thin 40 = .ok (.invokevirtual 217, 3) := by decide +kernel
theorem dX8_thin_43 : decode cX8_thin 43 = .ok (.istore 4, 2) := by decide +kernel
theorem dX8_thin_45 : decode cX8_thin 45 = .ok (.iconst 0, 1) := by decide +kernel
theorem dX8_thin_46 : decode cX8_thin 46 = .ok (.istore 5, 2) := by decide +kernel
theorem dX8_thin_48 : decode cX8_thin 48 = .ok (.iload 5, 2) := by decide +kernel
theorem dX8_thin_50 : decode cX8_thin 50 = .ok (.iload 4, 2) := by decide +kernel
theorem dX8_thin_52 : decode cX8_thin 52 = .ok (.if_icmp .ge 44, 3) := by decide +kernel
theorem dX8_thin_55 : decode cX8_thin 55 = .ok (.iload 5, 2) := by decide +kernel
theorem dX8_thin_57 : decode cX8_thin 57 = .ok (.iload 4, 2) := by decide +kernel
theorem dX8_thin_59 : decode cX8_thin 59 = .ok (.iconst 2, 1) := by decide +kernel
theorem dX8_thin_60 : decode cX8_thin 60 = .ok (.idiv, 1) := by decide +kernel
theorem dX8_thin_61 : decode cX8_thin 61 = .ok (.if_icmp .eq 29, 3) := by decide +kernel
theorem dX8_thin_64 : decode cX8_thin 64 = .ok (.aload_n 0, 1) := by decide +kernel
theorem dX8_thin_65 : decode cX8_thin 65 = .ok (.iload 5, 2) := by decide +kernel
theorem dX8_thin_67 : decode cX8_thin 67 = .ok (.invokevirtual 222, 3) := by decide +kernel
theorem dX8_thin_70 : decode cX8_thin 70 = .ok (.iload_n 2, 1) := by decide +kernel
theorem dX8_thin_71 : decode cX8_thin 71 = .ok (.ifCond .lt 11, 3) := by decide +kernel
theorem dX8_thin_74 : decode cX8_thin 74 = .ok (.aload_n 0, 1) := by decide +kernel
theorem dX8_thin_75 : decode cX8_thin 75 = .ok (.getfield 214, 3) := by decide +kernel
theorem dX8_thin_78 : decode cX8_thin 78 = .ok (.iload_n 3, 1) := by decide +kernel
theorem dX8_thin_79 : decode cX8_thin 79 = .ok (.if_icmp .ge 11, 3) := by decide +kernel
theorem dX8_thin_82 : decode cX8_thin 82 = .ok (.iload 5, 2) := by decide +kernel
theorem dX8_thin_84 : decode cX8_thin 84 = .ok (.istore_n 2, 1) := by decide +kernel
theorem dX8_thin_85 : decode cX8_thin 85 = .ok (.aload_n 0, 1) := by decide +kernel
theorem dX8_thin_86 : decode cX8_thin 86 = .ok (.getfield 214, 3) := by decide +kernel
theorem dX8_thin_89 : decode cX8_thin 89 = .ok (.istore_n 3, 1) := by decide +kernel
theorem dX8_thin_90 : decode cX8_thin 90 = .ok (.iinc 5 1, 3) := by decide +kernel
theorem dX8_thin_93 : decode cX8_thin 93 = .ok (.goto (-45), 3) := by decide +kernel
theorem dX8_thin_96 : decode cX8_thin 96 = .ok (.iload_n 1, 1) := by decide +kernel
theorem dX8_thin_97 : decode cX8_thin 97 = .ok (.ifCond .ne 7, 3) := by decide +kernel
theorem dX8_thin_100 : decode cX8_thin 100 = .ok (.iload_n 2, 1) := by decide +kernel
theorem dX8_thin_101 : decode cX8_thin 101 = .ok (.goto 4, 3) := by decide +kernel
theorem dX8_thin_104 : decode cX8_thin 104 = .ok (.iload_n 3, 1) := by decide +kernel
theorem dX8_thin_105 : decode cX8_thin 105 = .ok (.ireturn, 1) := by decide +kernel
theorem dX8_common_0 : decode cX8_common 0 = .ok (.iload_n 0, 1) := by decide +kernel
theorem dX8_common_1 : decode cX8_common 1 = .ok (.ifCond .ge 8, 3) := by decide +kernel
theorem dX8_common_4 : decode cX8_common 4 = .ok (.iload_n 0, 1) := by decide +kernel
theorem dX8_common_5 : decode cX8_common 5 = .ok (.ineg, 1) := by decide +kernel
theorem dX8_common_6 : decode cX8_common 6 = .ok (.goto 4, 3) := by decide +kernel
theorem dX8_common_9 : decode cX8_common 9 = .ok (.iload_n 0, 1) := by decide +kernel
theorem dX8_common_10 : decode cX8_common 10 = .ok (.istore_n 2, 1) := by decide +kernel
theorem dX8_common_11 : decode cX8_common 11 = .ok (.iload_n 1, 1) := by decide +kernel
theorem dX8_common_12 : decode cX8_common 12 = .ok (.istore_n 3, 1) := by decide +kernel
theorem dX8_common_13 : decode cX8_common 13 = .ok (.iload_n 3, 1) := by decide +kernel
theorem dX8_common_14 : decode cX8_common 14 = .ok (.ifCond .eq 16, 3) := by decide +kernel
theorem dX8_common_17 : decode cX8_common 17 = .ok (.iload_n 2, 1) := by decide +kernel
theorem dX8_common_18 : decode cX8_common 18 = .ok (.iload_n 3, 1) := by decide +kernel
theorem dX8_common_19 : decode cX8_common 19 = .ok (.irem, 1) := by decide +kernel
theorem dX8_common_20 : decode cX8_common 20 = .ok (.istore 4, 2) := by decide +kernel
theorem dX8_common_22 : decode cX8_common 22 = .ok (.iload_n 3, 1) := by decide +kernel
theorem dX8_common_23 : decode cX8_common 23 = .ok (.istore_n 2, 1) := by decide +kernel
theorem dX8_common_24 : decode cX8_common 24 = .ok (.iload 4, 2) := by decide +kernel
theorem dX8_common_26 : decode cX8_common 26 = .ok (.istore_n 3, 1) := by decide +kernel
theorem dX8_common_27 : decode cX8_common 27 = .ok (.goto (-14), 3) := by decide +kernel
theorem dX8_common_30 : decode cX8_common 30 = .ok (.iload_n 2, 1) := by decide +kernel
theorem dX8_common_31 : decode cX8_common 31 = .ok (.ireturn, 1) := by decide +kernel
theorem dX8_mean_0 : decode cX8_mean 0 = .ok (.aload_n 0, 1) := by decide +kernel
theorem dX8_mean_1 : decode cX8_mean 1 = .ok (.iload_n 1, 1) := by decide +kernel
theorem dX8_mean_2 : decode cX8_mean 2 = .ok (.invokevirtual 115, 3) := by decide +kernel
theorem dX8_mean_5 : decode cX8_mean 5 = .ok (.ifCond .eq 13, 3) := by decide +kernel
theorem dX8_mean_8 : decode cX8_mean 8 = .ok (.iload_n 2, 1) := by decide +kernel
theorem dX8_mean_9 : decode cX8_mean 9 = .ok (.i2l, 1) := by decide +kernel
theorem dX8_mean_10 : decode cX8_mean 10 = .ok (.lconst 0, 1) := by decide +kernel
theorem dX8_mean_11 : decode cX8_mean 11 = .ok (.lconst 1, 1) := by decide +kernel
theorem dX8_mean_12 : decode cX8_mean 12 = .ok (.invokestatic 93, 3) := by decide +kernel
theorem dX8_mean_15 : decode cX8_mean 15 = .ok (.ifCond .ne 10, 3) := by decide +kernel
theorem dX8_mean_18 : decode cX8_mean 18 = .ok (.aload_n 0, 1) := by decide +kernel
theorem dX8_mean_19 : decode cX8_mean 19 = .ok (.ldc 92, 2) := by decide +kernel
theorem dX8_mean_21 : decode cX8_mean 21 = .ok (.invokevirtual 102, 3) := by decide +kernel
theorem dX8_mean_24 : decode cX8_mean 24 = .ok (.ireturn, 1) := by decide +kernel
theorem dX8_mean_25 : decode cX8_mean 25 = .ok (.aload_n 0, 1) := by decide +kernel
theorem dX8_mean_26 : decode cX8_mean 26 = .ok (.invokevirtual 189, 3) := by decide +kernel
theorem dX8_mean_29 : decode cX8_mean 29 = .ok (.aload_n 0, 1) := by decide +kernel
theorem dX8_mean_30 : decode cX8_mean 30 = .ok (.getfield 176, 3) := by decide +kernel
theorem dX8_mean_33 : decode cX8_mean 33 = .ok (.ifCond .ne 10, 3) := by decide +kernel
theorem dX8_mean_36 : decode cX8_mean 36 = .ok (.aload_n 0, 1) := by decide +kernel
theorem dX8_mean_37 : decode cX8_mean 37 = .ok (.ldc 167, 2) := by decide +kernel
theorem dX8_mean_39 : decode cX8_mean 39 = .ok (.invokevirtual 102, 3) := by decide +kernel
theorem dX8_mean_42 : decode cX8_mean 42 = .ok (.ireturn, 1) := by decide +kernel
theorem dX8_mean_43 : decode cX8_mean 43 = .ok (.iconst 0, 1) := by decide +kernel
theorem dX8_mean_44 : decode cX8_mean 44 = .ok (.istore_n 3, 1) := by decide +kernel
theorem dX8_mean_45 : decode cX8_mean 45 = .ok (.iconst 0, 1) := by decide +kernel
theorem dX8_mean_46 : decode cX8_mean 46 = .ok (.istore 4, 2) := by decide +kernel
theorem dX8_mean_48 : decode cX8_mean 48 = .ok (.iload 4, 2) := by decide +kernel
theorem dX8_mean_50 : decode cX8_mean 50 = .ok (.aload_n 0, 1) := by decide +kernel
theorem dX8_mean_51 : decode cX8_mean 51 = .ok (.getfield 176, 3) := by decide +kernel
theorem dX8_mean_54 : decode cX8_mean 54 = .ok (.if_icmp .ge 30, 3) := by decide +kernel
theorem dX8_mean_57 : decode cX8_mean 57 = .ok (.aload_n 0, 1) := by decide +kernel
theorem dX8_mean_58 : decode cX8_mean 58 = .ok (.aload_n 0, 1) := by decide +kernel
theorem dX8_mean_59 : decode cX8_mean 59 = .ok (.getfield 39, 3) := by decide +kernel
theorem dX8_mean_62 : decode cX8_mean 62 = .ok (.iload 4, 2) := by decide +kernel
theorem dX8_mean_64 : decode cX8_mean 64 = .ok (.iaload, 1) := by decide +kernel
theorem dX8_mean_65 : decode cX8_mean 65 = .ok (.invokevirtual 179, 3) := by decide +kernel
theorem dX8_mean_68 : decode cX8_mean 68 = .ok (.iload_n 3, 1) := by decide +kernel
theorem dX8_mean_69 : decode cX8_mean 69 = .ok (.aload_n 0, 1) := by decide +kernel
theorem dX8_mean_70 : decode cX8_mean 70 = .ok (.getfield 32, 3) := by decide +kernel
theorem dX8_mean_73 : decode cX8_mean 73 = .ok (.iload_n 1, 1) := by decide +kernel
theorem dX8_mean_74 : decode cX8_mean 74 = .ok (.laload, 1) := by decide +kernel
theorem dX8_mean_75 : decode cX8_mean 75 = .ok (.l2i, 1) := by decide +kernel
theorem dX8_mean_76 : decode cX8_mean 76 = .ok (.iadd, 1) := by decide +kernel
theorem dX8_mean_77 : decode cX8_mean 77 = .ok (.istore_n 3, 1) := by decide +kernel
theorem dX8_mean_78 : decode cX8_mean 78 = .ok (.iinc 4 1, 3) := by decide +kernel
theorem dX8_mean_81 : decode cX8_mean 81 = .ok (.goto (-33), 3) := by decide +kernel
theorem dX8_mean_84 : decode cX8_mean 84 = .ok (.iload_n 3, 1) := by decide +kernel
theorem dX8_mean_85 : decode cX8_mean 85 = .ok (.aload_n 0, 1) := by decide +kernel
theorem dX8_mean_86 : decode cX8_mean 86 = .ok (.getfield 176, 3) := by decide +kernel
theorem dX8_mean_89 : decode cX8_mean 89 = .ok (.invokestatic 225, 3) := by decide +kernel
theorem dX8_mean_92 : decode cX8_mean 92 = .ok (.istore 4, 2) := by decide +kernel
theorem dX8_mean_94 : decode cX8_mean 94 = .ok (.iload_n 2, 1) := by decide +kernel
theorem dX8_mean_95 : decode cX8_mean 95 = .ok (.ifCond .ne 10, 3) := by decide +kernel
theorem dX8_mean_98 : decode cX8_mean 98 = .ok (.iload_n 3, 1) := by decide +kernel
theorem dX8_mean_99 : decode cX8_mean 99 = .ok (.iload 4, 2) := by decide +kernel
theorem dX8_mean_101 : decode cX8_mean 101 = .ok (.idiv, 1) := by decide +kernel
theorem dX8_mean_102 : decode cX8_mean 102 = .ok (.goto 10, 3) := by decide +kernel
theorem dX8_mean_105 : decode cX8_mean 105 = .ok (.aload_n 0, 1) := by decide +kernel
theorem dX8_mean_106 : decode cX8_mean 106 = .ok (.getfield 176, 3) := by decide +kernel
theorem dX8_mean_109 : decode cX8_mean 109 = .ok (.iload 4, 2) := by decide +kernel
theorem dX8_mean_111 : decode cX8_mean 111 = .ok (.idiv, 1) := by decide +kernel
theorem dX8_mean_112 : decode cX8_mean 112 = .ok (.ireturn, 1) := by decide +kernel
theorem dX8_round_0 : decode cX8_round 0 = .ok (.aload_n 0, 1) := by decide +kernel
theorem dX8_round_1 : decode cX8_round 1 = .ok (.iload_n 1, 1) := by decide +kernel
theorem dX8_round_2 : decode cX8_round 2 = .ok (.invokevirtual 192, 3) := by decide +kernel
theorem dX8_round_5 : decode cX8_round 5 = .ok (.ifCond .ne 10, 3) := by decide +kernel
theorem dX8_round_8 : decode cX8_round 8 = .ok (.aload_n 0, 1) := by decide +kernel
theorem dX8_round_9 : decode cX8_round 9 = .ok (.ldc 167, 2) := by decide +kernel
theorem dX8_round_11 : decode cX8_round 11 = .ok (.invokevirtual 102, 3) := by decide +kernel
theorem dX8_round_14 : decode cX8_round 14 = .ok (.ireturn, 1) := by decide +kernel
theorem dX8_round_15 : decode cX8_round 15 = .ok (.sipush 10000, 3) := by decide +kernel
theorem dX8_round_18 : decode cX8_round 18 = .ok (.istore_n 2, 1) := by decide +kernel
theorem dX8_round_19 : decode cX8_round 19 = .ok (.iconst 0, 1) := by decide +kernel
theorem dX8_round_20 : decode cX8_round 20 = .ok (.istore_n 3, 1) := by decide +kernel
