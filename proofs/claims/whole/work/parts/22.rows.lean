theorem dX7_of_16 : decode cX7_of 16 = .ok (.bipush 8, 2) := by decide +kernel
theorem dX7_of_18 : decode cX7_of 18 = .ok (.if_icmp .le 9, 3) := by decide +kernel
theorem dX7_of_21 : decode cX7_of 21 = .ok (.aload_n 0, 1) := by decide +kernel
theorem dX7_of_22 : decode cX7_of 22 = .ok (.iconst 0, 1) := by decide +kernel
theorem dX7_of_23 : decode cX7_of 23 = .ok (.invokevirtual 68, 3) := by decide +kernel
theorem dX7_of_26 : decode cX7_of 26 = .ok (.ireturn, 1) := by decide +kernel
theorem dX7_of_27 : decode cX7_of 27 = .ok (.aload_n 0, 1) := by decide +kernel
theorem dX7_of_28 : decode cX7_of 28 = .ok (.getfield 12, 3) := by decide +kernel
theorem dX7_of_31 : decode cX7_of 31 = .ok (.getfield 127, 3) := by decide +kernel
theorem dX7_of_34 : decode cX7_of 34 = .ok (.iload_n 1, 1) := by decide +kernel
theorem dX7_of_35 : decode cX7_of 35 = .ok (.aaload, 1) := by decide +kernel
theorem dX7_of_36 : decode cX7_of 36 = .ok (.astore_n 3, 1) := by decide +kernel
theorem dX7_of_37 : decode cX7_of 37 = .ok (.iload_n 2, 1) := by decide +kernel
theorem dX7_of_38 : decode cX7_of 38 = .ok (.bipush 7, 2) := by decide +kernel
theorem dX7_of_40 : decode cX7_of 40 = .ok (.if_icmp .ne 29, 3) := by decide +kernel
theorem dX7_of_43 : decode cX7_of 43 = .ok (.aload_n 3, 1) := by decide +kernel
theorem dX7_of_44 : decode cX7_of 44 = .ok (.aload_n 0, 1) := by decide +kernel
theorem dX7_of_45 : decode cX7_of 45 = .ok (.getfield 12, 3) := by decide +kernel
theorem dX7_of_48 : decode cX7_of 48 = .ok (.getfield 106, 3) := by decide +kernel
theorem dX7_of_51 : decode cX7_of 51 = .ok (.aload_n 0, 1) := by decide +kernel
theorem dX7_of_52 : decode cX7_of 52 = .ok (.getfield 12, 3) := by decide +kernel
theorem dX7_of_55 : decode cX7_of 55 = .ok (.getfield 109, 3) := by decide +kernel
theorem dX7_of_58 : decode cX7_of 58 = .ok (.aload_n 0, 1) := by decide +kernel
theorem dX7_of_59 : decode cX7_of 59 = .ok (.getfield 12, 3) := by decide +kernel
theorem dX7_of_62 : decode cX7_of 62 = .ok (.getfield 75, 3) := by decide +kernel
theorem dX7_of_65 : decode cX7_of 65 = .ok (.invokevirtual 131, 3) := by decide +kernel
theorem dX7_of_68 : decode cX7_of 68 = .ok (.ireturn, 1) := by decide +kernel
theorem dX7_of_69 : decode cX7_of 69 = .ok (.iload_n 2, 1) := by decide +kernel
theorem dX7_of_70 : decode cX7_of 70 = .ok (.bipush 8, 2) := by decide +kernel
theorem dX7_of_72 : decode cX7_of 72 = .ok (.if_icmp .ne 29, 3) := by decide +kernel
theorem dX7_of_75 : decode cX7_of 75 = .ok (.aload_n 3, 1) := by decide +kernel
theorem dX7_of_76 : decode cX7_of 76 = .ok (.aload_n 0, 1) := by decide +kernel
theorem dX7_of_77 : decode cX7_of 77 = .ok (.getfield 12, 3) := by decide +kernel
theorem dX7_of_80 : decode cX7_of 80 = .ok (.getfield 106, 3) := by decide +kernel
theorem dX7_of_83 : decode cX7_of 83 = .ok (.aload_n 0, 1) := by decide +kernel
theorem dX7_of_84 : decode cX7_of 84 = .ok (.getfield 12, 3) := by decide +kernel
theorem dX7_of_87 : decode cX7_of 87 = .ok (.getfield 109, 3) := by decide +kernel
theorem dX7_of_90 : decode cX7_of 90 = .ok (.aload_n 0, 1) := by decide +kernel
theorem dX7_of_91 : decode cX7_of 91 = .ok (.getfield 12, 3) := by decide +kernel
theorem dX7_of_94 : decode cX7_of 94 = .ok (.getfield 75, 3) := by decide +kernel
theorem dX7_of_97 : decode cX7_of 97 = .ok (.invokevirtual 135, 3) := by decide +kernel
theorem dX7_of_100 : decode cX7_of 100 = .ok (.ireturn, 1) := by decide +kernel
theorem dX7_of_101 : decode cX7_of 101 = .ok (.aload_n 3, 1) := by decide +kernel
theorem dX7_of_102 : decode cX7_of 102 = .ok (.iload_n 2, 1) := by decide +kernel
theorem dX7_of_103 : decode cX7_of 103 = .ok (.invokevirtual 138, 3) := by decide +kernel
theorem dX7_of_106 : decode cX7_of 106 = .ok (.ireturn, 1) := by decide +kernel
theorem dX7_change_0 : decode cX7_change 0 = .ok (.aload_n 0, 1) := by decide +kernel
theorem dX7_change_1 : decode cX7_change 1 = .ok (.getfield 12, 3) := by decide +kernel
theorem dX7_change_4 : decode cX7_change 4 = .ok (.iload_n 1, 1) := by decide +kernel
theorem dX7_change_5 : decode cX7_change 5 = .ok (.invokevirtual 124, 3) := by decide +kernel
theorem dX7_change_8 : decode cX7_change 8 = .ok (.ifCond .eq 11, 3) := by decide +kernel
theorem dX7_change_11 : decode cX7_change 11 = .ok (.iload_n 2, 1) := by decide +kernel
theorem dX7_change_12 : decode cX7_change 12 = .ok (.iload_n 3, 1) := by decide +kernel
theorem dX7_change_13 : decode cX7_change 13 = .ok (.invokestatic 112, 3) := by decide +kernel
theorem dX7_change_16 : decode cX7_change 16 = .ok (.ifCond .ne 9, 3) := by decide +kernel
theorem dX7_change_19 : decode cX7_change 19 = .ok (.aload_n 0, 1) := by decide +kernel
theorem dX7_change_20 : decode cX7_change 20 = .ok (.iconst 0, 1) := by decide +kernel
theorem dX7_change_21 : decode cX7_change 21 = .ok (.invokevirtual 68, 3) := by decide +kernel
theorem dX7_change_24 : decode cX7_change 24 = .ok (.ireturn, 1) := by decide +kernel
theorem dX7_change_25 : decode cX7_change 25 = .ok (.aload_n 0, 1) := by decide +kernel
theorem dX7_change_26 : decode cX7_change 26 = .ok (.getfield 12, 3) := by decide +kernel
theorem dX7_change_29 : decode cX7_change 29 = .ok (.getfield 127, 3) := by decide +kernel
theorem dX7_change_32 : decode cX7_change 32 = .ok (.iload_n 1, 1) := by decide +kernel
theorem dX7_change_33 : decode cX7_change 33 = .ok (.aaload, 1) := by decide +kernel
theorem dX7_change_34 : decode cX7_change 34 = .ok (.astore 4, 2) := by decide +kernel
theorem dX7_change_36 : decode cX7_change 36 = .ok (.aload 4, 2) := by decide +kernel
theorem dX7_change_38 : decode cX7_change 38 = .ok (.iload_n 2, 1) := by decide +kernel
theorem dX7_change_39 : decode cX7_change 39 = .ok (.invokevirtual 138, 3) := by decide +kernel
theorem dX7_change_42 : decode cX7_change 42 = .ok (.istore 5, 2) := by decide +kernel
theorem dX7_change_44 : decode cX7_change 44 = .ok (.aload 4, 2) := by decide +kernel
theorem dX7_change_46 : decode cX7_change 46 = .ok (.iload_n 2, 1) := by decide +kernel
theorem dX7_change_47 : decode cX7_change 47 = .ok (.iload_n 3, 1) := by decide +kernel
theorem dX7_change_48 : decode cX7_change 48 = .ok (.invokevirtual 141, 3) := by decide +kernel
theorem dX7_change_51 : decode cX7_change 51 = .ok (.aload_n 0, 1) := by decide +kernel
theorem dX7_change_52 : decode cX7_change 52 = .ok (.invokevirtual 83, 3) := by decide +kernel
theorem dX7_change_55 : decode cX7_change 55 = .ok (.iload 5, 2) := by decide +kernel
theorem dX7_change_57 : decode cX7_change 57 = .ok (.ireturn, 1) := by decide +kernel
theorem dX7_as_0 : decode cX7_as 0 = .ok (.aload_n 0, 1) := by decide +kernel
theorem dX7_as_1 : decode cX7_as 1 = .ok (.getfield 12, 3) := by decide +kernel
theorem dX7_as_4 : decode cX7_as 4 = .ok (.iload_n 1, 1) := by decide +kernel
theorem dX7_as_5 : decode cX7_as 5 = .ok (.invokevirtual 124, 3) := by decide +kernel
theorem dX7_as_8 : decode cX7_as 8 = .ok (.ifCond .eq 13, 3) := by decide +kernel
theorem dX7_as_11 : decode cX7_as 11 = .ok (.iload_n 2, 1) := by decide +kernel
theorem dX7_as_12 : decode cX7_as 12 = .ok (.ifCond .lt 9, 3) := by decide +kernel
theorem dX7_as_15 : decode cX7_as 15 = .ok (.iload_n 2, 1) := by decide +kernel
theorem dX7_as_16 : decode cX7_as 16 = .ok (.bipush 6, 2) := by decide +kernel
theorem dX7_as_18 : decode cX7_as 18 = .ok (.if_icmp .lt 9, 3) := by decide +kernel
theorem dX7_as_21 : decode cX7_as 21 = .ok (.aload_n 0, 1) := by decide +kernel
theorem dX7_as_22 : decode cX7_as 22 = .ok (.iconst 0, 1) := by decide +kernel
theorem dX7_as_23 : decode cX7_as 23 = .ok (.invokevirtual 68, 3) := by decide +kernel
theorem dX7_as_26 : decode cX7_as 26 = .ok (.ireturn, 1) := by decide +kernel
theorem dX7_as_27 : decode cX7_as 27 = .ok (.aload_n 0, 1) := by decide +kernel
theorem dX7_as_28 : decode cX7_as 28 = .ok (.getfield 12, 3) := by decide +kernel
theorem dX7_as_31 : decode cX7_as 31 = .ok (.getfield 127, 3) := by decide +kernel
theorem dX7_as_34 : decode cX7_as 34 = .ok (.iload_n 1, 1) := by decide +kernel
theorem dX7_as_35 : decode cX7_as 35 = .ok (.aaload, 1) := by decide +kernel
theorem dX7_as_36 : decode cX7_as 36 = .ok (.astore_n 3, 1) := by decide +kernel
theorem dX7_as_37 : decode cX7_as 37 = .ok (.aload_n 3, 1) := by decide +kernel
theorem dX7_as_38 : decode cX7_as 38 = .ok (.getfield 145, 3) := by decide +kernel
theorem dX7_as_41 : decode cX7_as 41 = .ok (.iload_n 2, 1) := by decide +kernel
theorem dX7_as_42 : decode cX7_as 42 = .ok (.invokestatic 148, 3) := by decide +kernel
theorem dX7_as_45 : decode cX7_as 45 = .ok (.ifCond .ne 9, 3) := by decide +kernel
theorem dX7_as_48 : decode cX7_as 48 = .ok (.aload_n 0, 1) := by decide +kernel
theorem dX7_as_49 : decode cX7_as 49 = .ok (.iconst 2, 1) := by decide +kernel
theorem dX7_as_50 : decode cX7_as 50 = .ok (.invokevirtual 68, 3) := by decide +kernel
theorem dX7_as_53 : decode cX7_as 53 = .ok (.ireturn, 1) := by decide +kernel
theorem dX7_as_54 : decode cX7_as 54 = .ok (.aload_n 3, 1) := by decide +kernel
theorem dX7_as_55 : decode cX7_as 55 = .ok (.getfield 151, 3) := by decide +kernel
theorem dX7_as_58 : decode cX7_as 58 = .ok (.ireturn, 1) := by decide +kernel
theorem dX7_drop_0 : decode cX7_drop 0 = .ok (.aload_n 0, 1) := by decide +kernel
theorem dX7_drop_1 : decode cX7_drop 1 = .ok (.getfield 12, 3) := by decide +kernel
theorem dX7_drop_4 : decode cX7_drop 4 = .ok (.getfield 117, 3) := by decide +kernel
theorem dX7_drop_7 : decode cX7_drop 7 = .ok (.ifCond .ne 9, 3) := by decide +kernel
theorem dX7_drop_10 : decode cX7_drop 10 = .ok (.aload_n 0, 1) := by decide +kernel
theorem dX7_drop_11 : decode cX7_drop 11 = .ok (.iconst 3, 1) := by decide +kernel
theorem dX7_drop_12 : decode cX7_drop 12 = .ok (.invokevirtual 68, 3) := by decide +kernel
theorem dX7_drop_15 : decode cX7_drop 15 = .ok (.ireturn, 1) := by decide +kernel
theorem dX7_drop_16 : decode cX7_drop 16 = .ok (.aload_n 0, 1) := by decide +kernel
theorem dX7_drop_17 : decode cX7_drop 17 = .ok (.getfield 12, 3) := by decide +kernel
theorem dX7_drop_20 : decode cX7_drop 20 = .ok (.dup, 1) := by decide +kernel
theorem dX7_drop_21 : decode cX7_drop 21 = .ok (.getfield 117, 3) := by decide +kernel
theorem dX7_drop_24 : decode cX7_drop 24 = .ok (.iconst 1, 1) := by decide +kernel
theorem dX7_drop_25 : decode cX7_drop 25 = .ok (.isub, 1) := by decide +kernel
theorem dX7_drop_26 : decode cX7_drop 26 = .ok (.putfield 117, 3) := by decide +kernel
theorem dX7_drop_29 : decode cX7_drop 29 = .ok (.aload_n 0, 1) := by decide +kernel
theorem dX7_drop_30 : decode cX7_drop 30 = .ok (.invokevirtual 83, 3) := by decide +kernel
theorem dX7_drop_33 : decode cX7_drop 33 = .ok (.aload_n 0, 1) := by decide +kernel
theorem dX7_drop_34 : decode cX7_drop 34 = .ok (.getfield 12, 3) := by decide +kernel
theorem dX7_drop_37 : decode cX7_drop 37 = .ok (.getfield 117, 3) := by decide +kernel
theorem dX7_drop_40 : decode cX7_drop 40 = .ok (.ireturn, 1) := by decide +kernel
theorem dX7_many_0 : decode cX7_many 0 = .ok (.aload_n 0, 1) := by decide +kernel
theorem dX7_many_1 : decode cX7_many 1 = .ok (.getfield 29, 3) := by decide +kernel
theorem dX7_many_4 : decode cX7_many 4 = .ok (.aload_n 0, 1) := by decide +kernel
theorem dX7_many_5 : decode cX7_many 5 = .ok (.getfield 12, 3) := by decide +kernel
theorem dX7_many_8 : decode cX7_many 8 = .ok (.invokevirtual 154, 3) := by decide +kernel
theorem dX7_many_11 : decode cX7_many 11 = .ok (.aload_n 0, 1) := by decide +kernel
theorem dX7_many_12 : decode cX7_many 12 = .ok (.getfield 29, 3) := by decide +kernel
theorem dX7_many_15 : decode cX7_many 15 = .ok (.getfield 158, 3) := by decide +kernel
theorem dX7_many_18 : decode cX7_many 18 = .ok (.ireturn, 1) := by decide +kernel
theorem dX7_point_0 : decode cX7_point 0 = .ok (.aload_n 0, 1) := by decide +kernel
theorem dX7_point_1 : decode cX7_point 1 = .ok (.getfield 12, 3) := by decide +kernel
theorem dX7_point_4 : decode cX7_point 4 = .ok (.iload_n 2, 1) := by decide +kernel
theorem dX7_point_5 : decode cX7_point 5 = .ok (.invokevirtual 86, 3) := by decide +kernel
theorem dX7_point_8 : decode cX7_point 8 = .ok (.ifCond .ne 9, 3) := by decide +kernel
theorem dX7_point_11 : decode cX7_point 11 = .ok (.aload_n 0, 1) := by decide +kernel
theorem dX7_point_12 : decode cX7_point 12 = .ok (.iconst 0, 1) := by decide +kernel
theorem dX7_point_13 : decode cX7_point 13 = .ok (.invokevirtual 68, 3) := by decide +kernel
theorem dX7_point_16 : decode cX7_point 16 = .ok (.ireturn, 1) := by decide +kernel
theorem dX7_point_17 : decode cX7_point 17 = .ok (.aload_n 0, 1) := by decide +kernel
theorem dX7_point_18 : decode cX7_point 18 = .ok (.getfield 29, 3) := by decide +kernel
theorem dX7_point_21 : decode cX7_point 21 = .ok (.aload_n 0, 1) := by decide +kernel
theorem dX7_point_22 : decode cX7_point 22 = .ok (.getfield 12, 3) := by decide +kernel
theorem dX7_point_25 : decode cX7_point 25 = .ok (.invokevirtual 154, 3) := by decide +kernel
theorem dX7_point_28 : decode cX7_point 28 = .ok (.aload_n 0, 1) := by decide +kernel
theorem dX7_point_29 : decode cX7_point 29 = .ok (.getfield 29, 3) := by decide +kernel
theorem dX7_point_32 : decode cX7_point 32 = .ok (.iload_n 1, 1) := by decide +kernel
theorem dX7_point_33 : decode cX7_point 33 = .ok (.invokevirtual 161, 3) := by decide +kernel
theorem dX7_point_36 : decode cX7_point 36 = .ok (.istore_n 3, 1) := by decide +kernel
theorem dX7_point_37 : decode cX7_point 37 = .ok (.iload_n 3, 1) := by decide +kernel
theorem dX7_point_38 : decode cX7_point 38 = .ok (.ifCond .ge 9, 3) := by decide +kernel
theorem dX7_point_41 : decode cX7_point 41 = .ok (.aload_n 0, 1) := by decide +kernel
theorem dX7_point_42 : decode cX7_point 42 = .ok (.iconst 3, 1) := by decide +kernel
theorem dX7_point_43 : decode cX7_point 43 = .ok (.invokevirtual 68, 3) := by decide +kernel
theorem dX7_point_46 : decode cX7_point 46 = .ok (.ireturn, 1) := by decide +kernel
theorem dX7_point_47 : decode cX7_point 47 = .ok (.aload_n 0, 1) := by decide +kernel
theorem dX7_point_48 : decode cX7_point 48 = .ok (.getfield 29, 3) := by decide +kernel
theorem dX7_point_51 : decode cX7_point 51 = .ok (.iload_n 3, 1) := by decide +kernel
theorem dX7_point_52 : decode cX7_point 52 = .ok (.iload_n 2, 1) := by decide +kernel
theorem dX7_point_53 : decode cX7_point 53 = .ok (.invokevirtual 164, 3) := by decide +kernel
theorem dX7_point_56 : decode cX7_point 56 = .ok (.ireturn, 1) := by decide +kernel
theorem dX7_holds_0 : decode cX7_holds 0 = .ok (.aload_n 0, 1) := by decide +kernel
theorem dX7_holds_1 : decode cX7_holds 1 = .ok (.iload_n 1, 1) := by decide +kernel
theorem dX7_holds_2 : decode cX7_holds 2 = .ok (.invokevirtual 168, 3) := by decide +kernel
theorem dX7_holds_5 : decode cX7_holds 5 = .ok (.istore_n 2, 1) := by decide +kernel
theorem dX7_holds_6 : decode cX7_holds 6 = .ok (.iload_n 2, 1) := by decide +kernel
theorem dX7_holds_7 : decode cX7_holds 7 = .ok (.iconst (-1), 1) := by decide +kernel
theorem dX7_holds_8 : decode cX7_holds 8 = .ok (.if_icmp .eq 9, 3) := by decide +kernel
theorem dX7_holds_11 : decode cX7_holds 11 = .ok (.aload_n 0, 1) := by decide +kernel
theorem dX7_holds_12 : decode cX7_holds 12 = .ok (.iload_n 2, 1) := by decide +kernel
theorem dX7_holds_13 : decode cX7_holds 13 = .ok (.invokevirtual 68, 3) := by decide +kernel
theorem dX7_holds_16 : decode cX7_holds 16 = .ok (.ireturn, 1) := by decide +kernel
theorem dX7_holds_17 : decode cX7_holds 17 = .ok (.aload_n 0, 1) := by decide +kernel
theorem dX7_holds_18 : decode cX7_holds 18 = .ok (.aload_n 0, 1) := by decide +kernel
theorem dX7_holds_19 : decode cX7_holds 19 = .ok (.getfield 56, 3) := by decide +kernel
theorem dX7_holds_22 : decode cX7_holds 22 = .ok (.iload_n 1, 1) := by decide +kernel
theorem dX7_holds_23 : decode cX7_holds 23 = .ok (.aaload, 1) := by decide +kernel
theorem dX7_holds_24 : decode cX7_holds 24 = .ok (.invokevirtual 171, 3) := by decide +kernel
theorem dX7_holds_27 : decode cX7_holds 27 = .ok (.iconst 1, 1) := by decide +kernel
theorem dX7_holds_28 : decode cX7_holds 28 = .ok (.aload_n 0, 1) := by decide +kernel
theorem dX7_holds_29 : decode cX7_holds 29 = .ok (.getfield 12, 3) := by decide +kernel
theorem dX7_holds_32 : decode cX7_holds 32 = .ok (.getfield 117, 3) := by decide +kernel
theorem dX7_holds_35 : decode cX7_holds 35 = .ok (.ishl, 1) := by decide +kernel
theorem dX7_holds_36 : decode cX7_holds 36 = .ok (.iconst 1, 1) := by decide +kernel
theorem dX7_holds_37 : decode cX7_holds 37 = .ok (.isub, 1) := by decide +kernel
theorem dX7_holds_38 : decode cX7_holds 38 = .ok (.istore_n 3, 1) := by decide +kernel
theorem dX7_holds_39 : decode cX7_holds 39 = .ok (.iload_n 3, 1) := by decide +kernel
theorem dX7_holds_40 : decode cX7_holds 40 = .ok (.aload_n 0, 1) := by decide +kernel
theorem dX7_holds_41 : decode cX7_holds 41 = .ok (.getfield 12, 3) := by decide +kernel
theorem dX7_holds_44 : decode cX7_holds 44 = .ok (.aload_n 0, 1) := by decide +kernel
theorem dX7_holds_45 : decode cX7_holds 45 = .ok (.getfield 64, 3) := by decide +kernel
theorem dX7_holds_48 : decode cX7_holds 48 = .ok (.invokevirtual 175, 3) := by decide +kernel
theorem dX7_holds_51 : decode cX7_holds 51 = .ok (.iconst (-1), 1) := by decide +kernel
theorem dX7_holds_52 : decode cX7_holds 52 = .ok (.ixor, 1) := by decide +kernel
theorem dX7_holds_53 : decode cX7_holds 53 = .ok (.iand, 1) := by decide +kernel
theorem dX7_holds_54 : decode cX7_holds 54 = .ok (.ireturn, 1) := by decide +kernel
theorem dX7_best_0 : decode cX7_best 0 = .ok (.iload_n 1, 1) := by decide +kernel
theorem dX7_best_1 : decode cX7_best 1 = .ok (.ifCond .lt 26, 3) := by decide +kernel
theorem dX7_best_4 : decode cX7_best 4 = .ok (.iload_n 1, 1) := by decide +kernel
theorem dX7_best_5 : decode cX7_best 5 = .ok (.aload_n 0, 1) := by decide +kernel
theorem dX7_best_6 : decode cX7_best 6 = .ok (.getfield 12, 3) := by decide +kernel
theorem dX7_best_9 : decode cX7_best 9 = .ok (.getfield 75, 3) := by decide +kernel
theorem dX7_best_12 : decode cX7_best 12 = .ok (.invokestatic 179, 3) := by decide +kernel
theorem dX7_best_15 : decode cX7_best 15 = .ok (.if_icmp .ge 12, 3) := by decide +kernel
theorem dX7_best_18 : decode cX7_best 18 = .ok (.iload_n 2, 1) := by decide +kernel
theorem dX7_best_19 : decode cX7_best 19 = .ok (.ifCond .lt 8, 3) := by decide +kernel
theorem dX7_best_22 : decode cX7_best 22 = .ok (.iload_n 2, 1) := by decide +kernel
theorem dX7_best_23 : decode cX7_best 23 = .ok (.iconst 2, 1) := by decide +kernel
theorem dX7_best_24 : decode cX7_best 24 = .ok (.if_icmp .le 9, 3) := by decide +kernel
theorem dX7_best_27 : decode cX7_best 27 = .ok (.aload_n 0, 1) := by decide +kernel
theorem dX7_best_28 : decode cX7_best 28 = .ok (.iconst 0, 1) := by decide +kernel
theorem dX7_best_29 : decode cX7_best 29 = .ok (.invokevirtual 68, 3) := by decide +kernel
theorem dX7_best_32 : decode cX7_best 32 = .ok (.ireturn, 1) := by decide +kernel
theorem dX7_best_33 : decode cX7_best 33 = .ok (.aload_n 0, 1) := by decide +kernel
theorem dX7_best_34 : decode cX7_best 34 = .ok (.getfield 29, 3) := by decide +kernel
theorem dX7_best_37 : decode cX7_best 37 = .ok (.aload_n 0, 1) := by decide +kernel
theorem dX7_best_38 : decode cX7_best 38 = .ok (.getfield 12, 3) := by decide +kernel
theorem dX7_best_41 : decode cX7_best 41 = .ok (.invokevirtual 154, 3) := by decide +kernel
theorem dX7_best_44 : decode cX7_best 44 = .ok (.aload_n 0, 1) := by decide +kernel
theorem dX7_best_45 : decode cX7_best 45 = .ok (.getfield 29, 3) := by decide +kernel
theorem dX7_best_48 : decode cX7_best 48 = .ok (.getfield 158, 3) := by decide +kernel
theorem dX7_best_51 : decode cX7_best 51 = .ok (.ifCond .ne 9, 3) := by decide +kernel
theorem dX7_best_54 : decode cX7_best 54 = .ok (.aload_n 0, 1) := by decide +kernel
theorem dX7_best_55 : decode cX7_best 55 = .ok (.iconst 3, 1) := by decide +kernel
theorem dX7_best_56 : decode cX7_best 56 = .ok (.invokevirtual 68, 3) := by decide +kernel
theorem dX7_best_59 : decode cX7_best 59 = .ok (.ireturn, 1) := by decide +kernel
theorem dX7_best_60 : decode cX7_best 60 = .ok (.aload_n 0, 1) := by decide +kernel
theorem dX7_best_61 : decode cX7_best 61 = .ok (.getfield 29, 3) := by decide +kernel
theorem dX7_best_64 : decode cX7_best 64 = .ok (.iload_n 1, 1) := by decide +kernel
theorem dX7_best_65 : decode cX7_best 65 = .ok (.aload_n 0, 1) := by decide +kernel
theorem dX7_best_66 : decode cX7_best 66 = .ok (.getfield 12, 3) := by decide +kernel
theorem dX7_best_69 : decode cX7_best 69 = .ok (.getfield 75, 3) := by decide +kernel
theorem dX7_best_72 : decode cX7_best 72 = .ok (.ldc 182, 2) := by decide +kernel
theorem dX7_best_74 : decode cX7_best 74 = .ok (.invokevirtual 183, 3) := by decide +kernel
theorem dX7_best_77 : decode cX7_best 77 = .ok (.iload_n 2, 1) := by decide +kernel
theorem dX7_best_78 : decode cX7_best 78 = .ok (.ifCond .ne 11, 3) := by decide +kernel
theorem dX7_best_81 : decode cX7_best 81 = .ok (.aload_n 0, 1) := by decide +kernel
theorem dX7_best_82 : decode cX7_best 82 = .ok (.getfield 29, 3) := by decide +kernel
theorem dX7_best_85 : decode cX7_best 85 = .ok (.getfield 186, 3) := by decide +kernel
theorem dX7_best_88 : decode cX7_best 88 = .ok (.ireturn, 1) := by decide +kernel
theorem dX7_best_89 : decode cX7_best 89 = .ok (.iload_n 2, 1) := by decide +kernel
theorem dX7_best_90 : decode cX7_best 90 = .ok (.iconst 1, 1) := by decide +kernel
theorem dX7_best_91 : decode cX7_best 91 = .ok (.if_icmp .ne 13, 3) := by decide +kernel
theorem dX7_best_94 : decode cX7_best 94 = .ok (.aload_n 0, 1) := by decide +kernel
theorem dX7_best_95 : decode cX7_best 95 = .ok (.getfield 29, 3) := by decide +kernel
theorem dX7_best_98 : decode cX7_best 98 = .ok (.getfield 189, 3) := by decide +kernel
theorem dX7_best_101 : decode cX7_best 101 = .ok (.goto 18, 3) := by decide +kernel
theorem dX7_best_104 : decode cX7_best 104 = .ok (.aload_n 0, 1) := by decide +kernel
theorem dX7_best_105 : decode cX7_best 105 = .ok (.getfield 29, 3) := by decide +kernel
theorem dX7_best_108 : decode cX7_best 108 = .ok (.getfield 186, 3) := by decide +kernel
theorem dX7_best_111 : decode cX7_best 111 = .ok (.aload_n 0, 1) := by decide +kernel
theorem dX7_best_112 : decode cX7_best 112 = .ok (.getfield 29, 3) := by decide +kernel
theorem dX7_best_115 : decode cX7_best 115 = .ok (.getfield 192, 3) := by decide +kernel
theorem dX7_best_118 : decode cX7_best 118 = .ok (.isub, 1) := by decide +kernel
theorem dX7_best_119 : decode cX7_best 119 = .ok (.ireturn, 1) := by decide +kernel
theorem dX7_thin_0 : decode cX7_thin 0 = .ok (.iload_n 1, 1) := by decide +kernel
theorem dX7_thin_1 : decode cX7_thin 1 = .ok (.ifCond .lt 8, 3) := by decide +kernel
theorem dX7_thin_4 : decode cX7_thin 4 = .ok (.iload_n 1, 1) := by decide +kernel
theorem dX7_thin_5 : decode cX7_thin 5 = .ok (.iconst 1, 1) := by decide +kernel
theorem dX7_thin_6 : decode cX7_thin 6 = .ok (.if_icmp .le 9, 3) := by decide +kernel
theorem dX7_thin_9 : decode cX7_thin 9 = .ok (.aload_n 0, 1) := by decide +kernel
theorem dX7_thin_10 : decode cX7_thin 10 = .ok (.iconst 0, 1) := by decide +kernel
theorem dX7_thin_11 : decode cX7_thin 11 = .ok (.invokevirtual 68, 3) := by decide +kernel
theorem dX7_thin_14 : decode cX7_thin 14 = .ok (.ireturn, 1) := by decide +kernel
theorem dX7_thin_15 : decode cX7_thin 15 = .ok (.aload_n 0, 1) := by decide +kernel
theorem dX7_thin_16 : decode cX7_thin 16 = .ok (.getfield 29, 3) := by decide +kernel
theorem dX7_thin_19 : decode cX7_thin 19 = .ok (.aload_n 0, 1) := by decide +kernel
theorem dX7_thin_20 : decode cX7_thin 20 = .ok (.getfield 12, 3) := by decide +kernel
theorem dX7_thin_23 : decode cX7_thin 23 = .ok (.invokevirtual 154, 3) := by decide +kernel
theorem dX7_thin_26 : decode cX7_thin 26 = .ok (.aload_n 0, 1) := by decide +kernel
theorem dX7_thin_27 : decode cX7_thin 27 = .ok (.getfield 29, 3) := by decide +kernel
theorem dX7_thin_30 : decode cX7_thin 30 = .ok (.getfield 158, 3) := by decide +kernel
theorem dX7_thin_33 : decode cX7_thin 33 = .ok (.ifCond .ne 9, 3) := by decide +kernel
theorem dX7_thin_36 : decode cX7_thin 36 = .ok (.aload_n 0, 1) := by decide +kernel
theorem dX7_thin_37 : decode cX7_thin 37 = .ok (.iconst 3, 1) := by decide +kernel
theorem dX7_thin_38 : decode cX7_thin 38 = .ok (.invokevirtual 68, 3) := by decide +kernel
theorem dX7_thin_41 : decode cX7_thin 41 = .ok (.ireturn, 1) := by decide +kernel
theorem dX7_thin_42 : decode cX7_thin 42 = .ok (.aload_n 0, 1) := by decide +kernel
theorem dX7_thin_43 : decode cX7_thin 43 = .ok (.getfield 29, 3) := by decide +kernel
theorem dX7_thin_46 : decode cX7_thin 46 = .ok (.aload_n 0, 1) := by decide +kernel
theorem dX7_thin_47 : decode cX7_thin 47 = .ok (.getfield 12, 3) := by decide +kernel
theorem dX7_thin_50 : decode cX7_thin 50 = .ok (.getfield 75, 3) := by decide +kernel
theorem dX7_thin_53 : decode cX7_thin 53 = .ok (.invokevirtual 195, 3) := by decide +kernel
theorem dX7_thin_56 : decode cX7_thin 56 = .ok (.iload_n 1, 1) := by decide +kernel
theorem dX7_thin_57 : decode cX7_thin 57 = .ok (.ifCond .ne 13, 3) := by decide +kernel
theorem dX7_thin_60 : decode cX7_thin 60 = .ok (.aload_n 0, 1) := by decide +kernel
theorem dX7_thin_61 : decode cX7_thin 61 = .ok (.getfield 29, 3) := by decide +kernel
theorem dX7_thin_64 : decode cX7_thin 64 = .ok (.getfield 198, 3) := by decide +kernel
theorem dX7_thin_67 : decode cX7_thin 67 = .ok (.goto 10, 3) := by decide +kernel
theorem dX7_thin_70 : decode cX7_thin 70 = .ok (.aload_n 0, 1) := by decide +kernel
theorem dX7_thin_71 : decode cX7_thin 71 = .ok (.getfield 29, 3) := by decide +kernel
theorem dX7_thin_74 : decode cX7_thin 74 = .ok (.getfield 201, 3) := by decide +kernel
theorem dX7_thin_77 : decode cX7_thin 77 = .ok (.ireturn, 1) := by decide +kernel
theorem dX7_mean_0 : decode cX7_mean 0 = .ok (.aload_n 0, 1) := by decide +kernel
theorem dX7_mean_1 : decode cX7_mean 1 = .ok (.getfield 12, 3) := by decide +kernel
theorem dX7_mean_4 : decode cX7_mean 4 = .ok (.iload_n 1, 1) := by decide +kernel
theorem dX7_mean_5 : decode cX7_mean 5 = .ok (.invokevirtual 86, 3) := by decide +kernel
theorem dX7_mean_8 : decode cX7_mean 8 = .ok (.ifCond .eq 12, 3) := by decide +kernel
theorem dX7_mean_11 : decode cX7_mean 11 = .ok (.iload_n 2, 1) := by decide +kernel
theorem dX7_mean_12 : decode cX7_mean 12 = .ok (.ifCond .lt 8, 3) := by decide +kernel
theorem dX7_mean_15 : decode cX7_mean 15 = .ok (.iload_n 2, 1) := by decide +kernel
theorem dX7_mean_16 : decode cX7_mean 16 = .ok (.iconst 1, 1) := by decide +kernel
theorem dX7_mean_17 : decode cX7_mean 17 = .ok (.if_icmp .le 9, 3) := by decide +kernel
theorem dX7_mean_20 : decode cX7_mean 20 = .ok (.aload_n 0, 1) := by decide +kernel
theorem dX7_mean_21 : decode cX7_mean 21 = .ok (.iconst 0, 1) := by decide +kernel
theorem dX7_mean_22 : decode cX7_mean 22 = .ok (.invokevirtual 68, 3) := by decide +kernel
theorem dX7_mean_25 : decode cX7_mean 25 = .ok (.ireturn, 1) := by decide +kernel
theorem dX7_mean_26 : decode cX7_mean 26 = .ok (.aload_n 0, 1) := by decide +kernel
theorem dX7_mean_27 : decode cX7_mean 27 = .ok (.getfield 29, 3) := by decide +kernel
theorem dX7_mean_30 : decode cX7_mean 30 = .ok (.aload_n 0, 1) := by decide +kernel
theorem dX7_mean_31 : decode cX7_mean 31 = .ok (.getfield 12, 3) := by decide +kernel
theorem dX7_mean_34 : decode cX7_mean 34 = .ok (.invokevirtual 154, 3) := by decide +kernel
theorem dX7_mean_37 : decode cX7_mean 37 = .ok (.aload_n 0, 1) := by decide +kernel
theorem dX7_mean_38 : decode cX7_mean 38 = .ok (.getfield 29, 3) := by decide +kernel
theorem dX7_mean_41 : decode cX7_mean 41 = .ok (.getfield 158, 3) := by decide +kernel
theorem dX7_mean_44 : decode cX7_mean 44 = .ok (.ifCond .ne 9, 3) := by decide +kernel
theorem dX7_mean_47 : decode cX7_mean 47 = .ok (.aload_n 0, 1) := by decide +kernel
theorem dX7_mean_48 : decode cX7_mean 48 = .ok (.iconst 3, 1) := by decide +kernel
theorem dX7_mean_49 : decode cX7_mean 49 = .ok (.invokevirtual 68, 3) := by decide +kernel
theorem dX7_mean_52 : decode cX7_mean 52 = .ok (.ireturn, 1) := by decide +kernel
theorem dX7_mean_53 : decode cX7_mean 53 = .ok (.aload_n 0, 1) := by decide +kernel
theorem dX7_mean_54 : decode cX7_mean 54 = .ok (.getfield 29, 3) := by decide +kernel
theorem dX7_mean_57 : decode cX7_mean 57 = .ok (.iload_n 1, 1) := by decide +kernel
theorem dX7_mean_58 : decode cX7_mean 58 = .ok (.invokevirtual 204, 3) := by decide +kernel
theorem dX7_mean_61 : decode cX7_mean 61 = .ok (.istore_n 3, 1) := by decide +kernel
theorem dX7_mean_62 : decode cX7_mean 62 = .ok (.iconst 1, 1) := by decide +kernel
theorem dX7_mean_63 : decode cX7_mean 63 = .ok (.iload_n 3, 1) := by decide +kernel
theorem dX7_mean_64 : decode cX7_mean 64 = .ok (.invokestatic 207, 3) := by decide +kernel
theorem dX7_mean_67 : decode cX7_mean 67 = .ok (.aload_n 0, 1) := by decide +kernel
theorem dX7_mean_68 : decode cX7_mean 68 = .ok (.getfield 29, 3) := by decide +kernel
theorem dX7_mean_71 : decode cX7_mean 71 = .ok (.getfield 158, 3) := by decide +kernel
theorem dX7_mean_74 : decode cX7_mean 74 = .ok (.invokestatic 212, 3) := by decide +kernel
theorem dX7_mean_77 : decode cX7_mean 77 = .ok (.invokestatic 215, 3) := by decide +kernel
theorem dX7_mean_80 : decode cX7_mean 80 = .ok (.istore 4, 2) := by decide +kernel
theorem dX7_mean_82 : decode cX7_mean 82 = .ok (.iload_n 2, 1) := by decide +kernel
theorem dX7_mean_83 : decode cX7_mean 83 = .ok (.ifCond .ne 10, 3) := by decide +kernel
theorem dX7_mean_86 : decode cX7_mean 86 = .ok (.iload_n 3, 1) := by decide +kernel
theorem dX7_mean_87 : decode cX7_mean 87 = .ok (.iload 4, 2) := by decide +kernel
theorem dX7_mean_89 : decode cX7_mean 89 = .ok (.idiv, 1) := by decide +kernel
theorem dX7_mean_90 : decode cX7_mean 90 = .ok (.goto 13, 3) := by decide +kernel
theorem dX7_mean_93 : decode cX7_mean 93 = .ok (.aload_n 0, 1) := by decide +kernel
theorem dX7_mean_94 : decode cX7_mean 94 = .ok (.getfield 29, 3) := by decide +kernel
theorem dX7_mean_97 : decode cX7_mean 97 = .ok (.getfield 158, 3) := by decide +kernel
theorem dX7_mean_100 : decode cX7_mean 100 = .ok (.iload 4, 2) := by decide +kernel
theorem dX7_mean_102 : decode cX7_mean 102 = .ok (.idiv, 1) := by decide +kernel
theorem dX7_mean_103 : decode cX7_mean 103 = .ok (.ireturn, 1) := by decide +kernel
theorem dX7_round_0 : decode cX7_round 0 = .ok (.aload_n 0, 1) := by decide +kernel
theorem dX7_round_1 : decode cX7_round 1 = .ok (.getfield 29, 3) := by decide +kernel
theorem dX7_round_4 : decode cX7_round 4 = .ok (.aload_n 0, 1) := by decide +kernel
theorem dX7_round_5 : decode cX7_round 5 = .ok (.getfield 12, 3) := by decide +kernel
theorem dX7_round_8 : decode cX7_round 8 = .ok (.invokevirtual 154, 3) := by decide +kernel
theorem dX7_round_11 : decode cX7_round 11 = .ok (.aload_n 0, 1) := by decide +kernel
theorem dX7_round_12 : decode cX7_round 12 = .ok (.getfield 29, 3) := by decide +kernel
theorem dX7_round_15 : decode cX7_round 15 = .ok (.iload_n 1, 1) := by decide +kernel
theorem dX7_round_16 : decode cX7_round 16 = .ok (.invokevirtual 161, 3) := by decide +kernel
theorem dX7_round_19 : decode cX7_round 19 = .ok (.istore_n 2, 1) := by decide +kernel
theorem dX7_round_20 : decode cX7_round 20 = .ok (.iload_n 2, 1) := by decide +kernel
theorem dX7_round_21 : decode cX7_round 21 = .ok (.ifCond .ge 9, 3) := by decide +kernel
theorem dX7_round_24 : decode cX7_round 24 = .ok (.aload_n 0, 1) := by decide +kernel
theorem dX7_round_25 : decode cX7_round 25 = .ok (.iconst 3, 1) := by decide +kernel
theorem dX7_round_26 : decode cX7_round 26 = .ok (.invokevirtual 68, 3) := by decide +kernel
theorem dX7_round_29 : decode cX7_round 29 = .ok (.ireturn, 1) := by decide +kernel
theorem dX7_round_30 : decode cX7_round 30 = .ok (.aload_n 0, 1) := by decide +kernel
theorem dX7_round_31 : decode cX7_round 31 = .ok (.getfield 29, 3) := by decide +kernel
theorem dX7_round_34 : decode cX7_round 34 = .ok (.iload_n 2, 1) := by decide +kernel
theorem dX7_round_35 : decode cX7_round 35 = .ok (.aload_n 0, 1) := by decide +kernel
theorem dX7_round_36 : decode cX7_round 36 = .ok (.getfield 12, 3) := by decide +kernel
theorem dX7_round_39 : decode cX7_round 39 = .ok (.invokevirtual 218, 3) := by decide +kernel
theorem dX7_round_42 : decode cX7_round 42 = .ok (.istore_n 3, 1) := by decide +kernel
theorem dX7_round_43 : decode cX7_round 43 = .ok (.aload_n 0, 1) := by decide +kernel
theorem dX7_round_44 : decode cX7_round 44 = .ok (.getfield 29, 3) := by decide +kernel
theorem dX7_round_47 : decode cX7_round 47 = .ok (.iload_n 2, 1) := by decide +kernel
theorem dX7_round_48 : decode cX7_round 48 = .ok (.aload_n 0, 1) := by decide +kernel
theorem dX7_round_49 : decode cX7_round 49 = .ok (.getfield 12, 3) := by decide +kernel
theorem dX7_round_52 : decode cX7_round 52 = .ok (.getfield 75, 3) := by decide +kernel
theorem dX7_round_55 : decode cX7_round 55 = .ok (.invokevirtual 222, 3) := by decide +kernel
theorem dX7_round_58 : decode cX7_round 58 = .ok (.istore 4, 2) := by decide +kernel
theorem dX7_round_60 : decode cX7_round 60 = .ok (.iload_n 3, 1) := by decide +kernel
theorem dX7_round_61 : decode cX7_round 61 = .ok (.iload 4, 2) := by decide +kernel
theorem dX7_round_63 : decode cX7_round 63 = .ok (.invokestatic 225, 3) := by decide +kernel
theorem dX7_round_66 : decode cX7_round 66 = .ok (.ireturn, 1) := by decide +kernel
theorem dX7_tree_0 : decode cX7_tree 0 = .ok (.iload_n 1, 1) := by decide +kernel
theorem dX7_tree_1 : decode cX7_tree 1 = .ok (.ifCond .lt 8, 3) := by decide +kernel
theorem dX7_tree_4 : decode cX7_tree 4 = .ok (.iload_n 1, 1) := by decide +kernel
theorem dX7_tree_5 : decode cX7_tree 5 = .ok (.iconst 3, 1) := by decide +kernel
theorem dX7_tree_6 : decode cX7_tree 6 = .ok (.if_icmp .le 9, 3) := by decide +kernel
theorem dX7_tree_9 : decode cX7_tree 9 = .ok (.aload_n 0, 1) := by decide +kernel
theorem dX7_tree_10 : decode cX7_tree 10 = .ok (.iconst 0, 1) := by decide +kernel
theorem dX7_tree_11 : decode cX7_tree 11 = .ok (.invokevirtual 68, 3) := by decide +kernel
theorem dX7_tree_14 : decode cX7_tree 14 = .ok (.ireturn, 1) := by decide +kernel
theorem dX7_tree_15 : decode cX7_tree 15 = .ok (.aload_n 0, 1) := by decide +kernel
theorem dX7_tree_16 : decode cX7_tree 16 = .ok (.getfield 36, 3) := by decide +kernel
theorem dX7_tree_19 : decode cX7_tree 19 = .ok (.aload_n 0, 1) := by decide +kernel
theorem dX7_tree_20 : decode cX7_tree 20 = .ok (.getfield 12, 3) := by decide +kernel
theorem dX7_tree_23 : decode cX7_tree 23 = .ok (.invokevirtual 228, 3) := by decide +kernel
theorem dX7_tree_26 : decode cX7_tree 26 = .ok (.iload_n 1, 1) := by decide +kernel
theorem dX7_tree_27 : decode cX7_tree 27 = .ok (.ifCond .ne 11, 3) := by decide +kernel
theorem dX7_tree_30 : decode cX7_tree 30 = .ok (.aload_n 0, 1) := by decide +kernel
theorem dX7_tree_31 : decode cX7_tree 31 = .ok (.getfield 36, 3) := by decide +kernel
theorem dX7_tree_34 : decode cX7_tree 34 = .ok (.getfield 229, 3) := by decide +kernel
theorem dX7_tree_37 : decode cX7_tree 37 = .ok (.ireturn, 1) := by decide +kernel
theorem dX7_tree_38 : decode cX7_tree 38 = .ok (.iload_n 1, 1) := by decide +kernel
theorem dX7_tree_39 : decode cX7_tree 39 = .ok (.iconst 1, 1) := by decide +kernel
theorem dX7_tree_40 : decode cX7_tree 40 = .ok (.if_icmp .ne 11, 3) := by decide +kernel
theorem dX7_tree_43 : decode cX7_tree 43 = .ok (.aload_n 0, 1) := by decide +kernel
theorem dX7_tree_44 : decode cX7_tree 44 = .ok (.getfield 36, 3) := by decide +kernel
theorem dX7_tree_47 : decode cX7_tree 47 = .ok (.getfield 232, 3) := by decide +kernel
theorem dX7_tree_50 : decode cX7_tree 50 = .ok (.ireturn, 1) := by decide +kernel
theorem dX7_tree_51 : decode cX7_tree 51 = .ok (.iload_n 1, 1) := by decide +kernel
theorem dX7_tree_52 : decode cX7_tree 52 = .ok (.iconst 2, 1) := by decide +kernel
theorem dX7_tree_53 : decode cX7_tree 53 = .ok (.if_icmp .ne 13, 3) := by decide +kernel
theorem dX7_tree_56 : decode cX7_tree 56 = .ok (.aload_n 0, 1) := by decide +kernel
theorem dX7_tree_57 : decode cX7_tree 57 = .ok (.getfield 36, 3) := by decide +kernel
theorem dX7_tree_60 : decode cX7_tree 60 = .ok (.getfield 235, 3) := by decide +kernel
theorem dX7_tree_63 : decode cX7_tree 63 = .ok (.goto 18, 3) := by decide +kernel
theorem dX7_tree_66 : decode cX7_tree 66 = .ok (.aload_n 0, 1) := by decide +kernel
theorem dX7_tree_67 : decode cX7_tree 67 = .ok (.getfield 36, 3) := by decide +kernel
theorem dX7_tree_70 : decode cX7_tree 70 = .ok (.getfield 238, 3) := by decide +kernel
theorem dX7_tree_73 : decode cX7_tree 73 = .ok (.aload_n 0, 1) := by decide +kernel
theorem dX7_tree_74 : decode cX7_tree 74 = .ok (.getfield 36, 3) := by decide +kernel
theorem dX7_tree_77 : decode cX7_tree 77 = .ok (.getfield 235, 3) := by decide +kernel
theorem dX7_tree_80 : decode cX7_tree 80 = .ok (.isub, 1) := by decide +kernel
theorem dX7_tree_81 : decode cX7_tree 81 = .ok (.ireturn, 1) := by decide +kernel
theorem dX7_leaf_0 : decode cX7_leaf 0 = .ok (.iload_n 2, 1) := by decide +kernel
theorem dX7_leaf_1 : decode cX7_leaf 1 = .ok (.ifCond .lt 8, 3) := by decide +kernel
theorem dX7_leaf_4 : decode cX7_leaf 4 = .ok (.iload_n 2, 1) := by decide +kernel
theorem dX7_leaf_5 : decode cX7_leaf 5 = .ok (.iconst 2, 1) := by decide +kernel
theorem dX7_leaf_6 : decode cX7_leaf 6 = .ok (.if_icmp .le 9, 3) := by decide +kernel
theorem dX7_leaf_9 : decode cX7_leaf 9 = .ok (.aload_n 0, 1) := by decide +kernel
theorem dX7_leaf_10 : decode cX7_leaf 10 = .ok (.iconst 0, 1) := by decide +kernel
theorem dX7_leaf_11 : decode cX7_leaf 11 = .ok (.invokevirtual 68, 3) := by decide +kernel
theorem dX7_leaf_14 : decode cX7_leaf 14 = .ok (.ireturn, 1) := by decide +kernel
theorem dX7_leaf_15 : decode cX7_leaf 15 = .ok (.aload_n 0, 1) := by decide +kernel
theorem dX7_leaf_16 : decode cX7_leaf 16 = .ok (.getfield 36, 3) := by decide +kernel
theorem dX7_leaf_19 : decode cX7_leaf 19 = .ok (.aload_n 0, 1) := by decide +kernel
theorem dX7_leaf_20 : decode cX7_leaf 20 = .ok (.getfield 12, 3) := by decide +kernel
theorem dX7_leaf_23 : decode cX7_leaf 23 = .ok (.invokevirtual 228, 3) := by decide +kernel
theorem dX7_leaf_26 : decode cX7_leaf 26 = .ok (.aload_n 0, 1) := by decide +kernel
theorem dX7_leaf_27 : decode cX7_leaf 27 = .ok (.getfield 36, 3) := by decide +kernel
theorem dX7_leaf_30 : decode cX7_leaf 30 = .ok (.iload_n 1, 1) := by decide +kernel
theorem dX7_leaf_31 : decode cX7_leaf 31 = .ok (.invokevirtual 241, 3) := by decide +kernel
theorem dX7_leaf_34 : decode cX7_leaf 34 = .ok (.ifCond .ne 9, 3) := by decide +kernel
theorem dX7_leaf_37 : decode cX7_leaf 37 = .ok (.aload_n 0, 1) := by decide +kernel
theorem dX7_leaf_38 : decode cX7_leaf 38 = .ok (.iconst 3, 1) := by decide +kernel
theorem dX7_leaf_39 : decode cX7_leaf 39 = .ok (.invokevirtual 68, 3) := by decide +kernel
theorem dX7_leaf_42 : decode cX7_leaf 42 = .ok (.ireturn, 1) := by decide +kernel
theorem dX7_leaf_43 : decode cX7_leaf 43 = .ok (.iload_n 2, 1) := by decide +kernel
theorem dX7_leaf_44 : decode cX7_leaf 44 = .ok (.ifCond .ne 20, 3) := by decide +kernel
theorem dX7_leaf_47 : decode cX7_leaf 47 = .ok (.aload_n 0, 1) := by decide +kernel
theorem dX7_leaf_48 : decode cX7_leaf 48 = .ok (.getfield 36, 3) := by decide +kernel
theorem dX7_leaf_51 : decode cX7_leaf 51 = .ok (.iload_n 1, 1) := by decide +kernel
theorem dX7_leaf_52 : decode cX7_leaf 52 = .ok (.invokevirtual 244, 3) := by decide +kernel
theorem dX7_leaf_55 : decode cX7_leaf 55 = .ok (.ifCond .ge 7, 3) := by decide +kernel
theorem dX7_leaf_58 : decode cX7_leaf 58 = .ok (.iconst 1, 1) := by decide +kernel
theorem dX7_leaf_59 : decode cX7_leaf 59 = .ok (.goto 4, 3) := by decide +kernel
theorem dX7_leaf_62 : decode cX7_leaf 62 = .ok (.iconst 0, 1) := by decide +kernel
theorem dX7_leaf_63 : decode cX7_leaf 63 = .ok (.ireturn, 1) := by decide +kernel
theorem dX7_leaf_64 : decode cX7_leaf 64 = .ok (.iload_n 2, 1) := by decide +kernel
theorem dX7_leaf_65 : decode cX7_leaf 65 = .ok (.iconst 1, 1) := by decide +kernel
theorem dX7_leaf_66 : decode cX7_leaf 66 = .ok (.if_icmp .ne 21, 3) := by decide +kernel
theorem dX7_leaf_69 : decode cX7_leaf 69 = .ok (.aload_n 0, 1) := by decide +kernel
theorem dX7_leaf_70 : decode cX7_leaf 70 = .ok (.getfield 36, 3) := by decide +kernel
theorem dX7_leaf_73 : decode cX7_leaf 73 = .ok (.iload_n 1, 1) := by decide +kernel
theorem dX7_leaf_74 : decode cX7_leaf 74 = .ok (.aload_n 0, 1) := by decide +kernel
theorem dX7_leaf_75 : decode cX7_leaf 75 = .ok (.getfield 12, 3) := by decide +kernel
theorem dX7_leaf_78 : decode cX7_leaf 78 = .ok (.getfield 75, 3) := by decide +kernel
theorem dX7_leaf_81 : decode cX7_leaf 81 = .ok (.invokevirtual 247, 3) := by decide +kernel
theorem dX7_leaf_84 : decode cX7_leaf 84 = .ok (.goto 11, 3) := by decide +kernel
theorem dX7_leaf_87 : decode cX7_leaf 87 = .ok (.aload_n 0, 1) := by decide +kernel
theorem dX7_leaf_88 : decode cX7_leaf 88 = .ok (.getfield 36, 3) := by decide +kernel
theorem dX7_leaf_91 : decode cX7_leaf 91 = .ok (.iload_n 1, 1) := by decide +kernel
theorem dX7_leaf_92 : decode cX7_leaf 92 = .ok (.invokevirtual 244, 3) := by decide +kernel
theorem dX7_leaf_95 : decode cX7_leaf 95 = .ok (.ireturn, 1) := by decide +kernel
theorem dX7_side_0 : decode cX7_side 0 = .ok (.aload_n 0, 1) := by decide +kernel
theorem dX7_side_1 : decode cX7_side 1 = .ok (.getfield 12, 3) := by decide +kernel
theorem dX7_side_4 : decode cX7_side 4 = .ok (.iload_n 2, 1) := by decide +kernel
theorem dX7_side_5 : decode cX7_side 5 = .ok (.invokevirtual 86, 3) := by decide +kernel
theorem dX7_side_8 : decode cX7_side 8 = .ok (.ifCond .eq 12, 3) := by decide +kernel
theorem dX7_side_11 : decode cX7_side 11 = .ok (.iload_n 3, 1) := by decide +kernel
theorem dX7_side_12 : decode cX7_side 12 = .ok (.ifCond .lt 8, 3) := by decide +kernel
theorem dX7_side_15 : decode cX7_side 15 = .ok (.iload_n 3, 1) := by decide +kernel
theorem dX7_side_16 : decode cX7_side 16 = .ok (.iconst 1, 1) := by decide +kernel
theorem dX7_side_17 : decode cX7_side 17 = .ok (.if_icmp .le 9, 3) := by decide +kernel
theorem dX7_side_20 : decode cX7_side 20 = .ok (.aload_n 0, 1) := by decide +kernel
theorem dX7_side_21 : decode cX7_side 21 = .ok (.iconst 0, 1) := by decide +kernel
theorem dX7_side_22 : decode cX7_side 22 = .ok (.invokevirtual 68, 3) := by decide +kernel
theorem dX7_side_25 : decode cX7_side 25 = .ok (.ireturn, 1) := by decide +kernel
theorem dX7_side_26 : decode cX7_side 26 = .ok (.aload_n 0, 1) := by decide +kernel
theorem dX7_side_27 : decode cX7_side 27 = .ok (.getfield 36, 3) := by decide +kernel
theorem dX7_side_30 : decode cX7_side 30 = .ok (.aload_n 0, 1) := by decide +kernel
theorem dX7_side_31 : decode cX7_side 31 = .ok (.getfield 12, 3) := by decide +kernel
theorem dX7_side_34 : decode cX7_side 34 = .ok (.invokevirtual 228, 3) := by decide +kernel
theorem dX7_side_37 : decode cX7_side 37 = .ok (.aload_n 0, 1) := by decide +kernel
theorem dX7_side_38 : decode cX7_side 38 = .ok (.getfield 36, 3) := by decide +kernel
theorem dX7_side_41 : decode cX7_side 41 = .ok (.iload_n 1, 1) := by decide +kernel
theorem dX7_side_42 : decode cX7_side 42 = .ok (.invokevirtual 241, 3) := by decide +kernel
theorem dX7_side_45 : decode cX7_side 45 = .ok (.ifCond .ne 9, 3) := by decide +kernel
theorem dX7_side_48 : decode cX7_side 48 = .ok (.aload_n 0, 1) := by decide +kernel
theorem dX7_side_49 : decode cX7_side 49 = .ok (.iconst 3, 1) := by decide +kernel
theorem dX7_side_50 : decode cX7_side 50 = .ok (.invokevirtual 68, 3) := by decide +kernel
theorem dX7_side_53 : decode cX7_side 53 = .ok (.ireturn, 1) := by decide +kernel
theorem dX7_side_54 : decode cX7_side 54 = .ok (.iload_n 3, 1) := by decide +kernel
theorem dX7_side_55 : decode cX7_side 55 = .ok (.ifCond .ne 15, 3) := by decide +kernel
theorem dX7_side_58 : decode cX7_side 58 = .ok (.aload_n 0, 1) := by decide +kernel
theorem dX7_side_59 : decode cX7_side 59 = .ok (.getfield 36, 3) := by decide +kernel
theorem dX7_side_62 : decode cX7_side 62 = .ok (.iload_n 1, 1) := by decide +kernel
theorem dX7_side_63 : decode cX7_side 63 = .ok (.iload_n 2, 1) := by decide +kernel
theorem dX7_side_64 : decode cX7_side 64 = .ok (.invokevirtual 250, 3) := by decide +kernel
theorem dX7_side_67 : decode cX7_side 67 = .ok (.goto 12, 3) := by decide +kernel
theorem dX7_side_70 : decode cX7_side 70 = .ok (.aload_n 0, 1) := by decide +kernel
theorem dX7_side_71 : decode cX7_side 71 = .ok (.getfield 36, 3) := by decide +kernel
theorem dX7_side_74 : decode cX7_side 74 = .ok (.iload_n 1, 1) := by decide +kernel
theorem dX7_side_75 : decode cX7_side 75 = .ok (.iload_n 2, 1) := by decide +kernel
theorem dX7_side_76 : decode cX7_side 76 = .ok (.invokevirtual 253, 3) := by decide +kernel
theorem dX7_side_79 : decode cX7_side 79 = .ok (.ireturn, 1) := by decide +kernel
theorem dX7_where_0 : decode cX7_where 0 = .ok (.aload_n 0, 1) := by decide +kernel
theorem dX7_where_1 : decode cX7_where 1 = .ok (.iload_n 1, 1) := by decide +kernel
theorem dX7_where_2 : decode cX7_where 2 = .ok (.invokevirtual 256, 3) := by decide +kernel
theorem dX7_where_5 : decode cX7_where 5 = .ok (.istore_n 2, 1) := by decide +kernel
theorem dX7_where_6 : decode cX7_where 6 = .ok (.iload_n 2, 1) := by decide +kernel
theorem dX7_where_7 : decode cX7_where 7 = .ok (.iconst (-1), 1) := by decide +kernel
theorem dX7_where_8 : decode cX7_where 8 = .ok (.if_icmp .eq 9, 3) := by decide +kernel
theorem dX7_where_11 : decode cX7_where 11 = .ok (.aload_n 0, 1) := by decide +kernel
theorem dX7_where_12 : decode cX7_where 12 = .ok (.iload_n 2, 1) := by decide +kernel
theorem dX7_where_13 : decode cX7_where 13 = .ok (.invokevirtual 68, 3) := by decide +kernel
theorem dX7_where_16 : decode cX7_where 16 = .ok (.ireturn, 1) := by decide +kernel
theorem dX7_where_17 : decode cX7_where 17 = .ok (.aload_n 0, 1) := by decide +kernel
theorem dX7_where_18 : decode cX7_where 18 = .ok (.getfield 36, 3) := by decide +kernel
theorem dX7_where_21 : decode cX7_where 21 = .ok (.aload_n 0, 1) := by decide +kernel
theorem dX7_where_22 : decode cX7_where 22 = .ok (.getfield 12, 3) := by decide +kernel
theorem dX7_where_25 : decode cX7_where 25 = .ok (.invokevirtual 228, 3) := by decide +kernel
theorem dX7_where_28 : decode cX7_where 28 = .ok (.aload_n 0, 1) := by decide +kernel
theorem dX7_where_29 : decode cX7_where 29 = .ok (.getfield 36, 3) := by decide +kernel
theorem dX7_where_32 : decode cX7_where 32 = .ok (.aload_n 0, 1) := by decide +kernel
theorem dX7_where_33 : decode cX7_where 33 = .ok (.getfield 56, 3) := by decide +kernel
theorem dX7_where_36 : decode cX7_where 36 = .ok (.iload_n 1, 1) := by decide +kernel
theorem dX7_where_37 : decode cX7_where 37 = .ok (.aaload, 1) := by decide +kernel
theorem dX7_where_38 : decode cX7_where 38 = .ok (.getfield 259, 3) := by decide +kernel
theorem dX7_where_41 : decode cX7_where 41 = .ok (.aload_n 0, 1) := by decide +kernel
theorem dX7_where_42 : decode cX7_where 42 = .ok (.getfield 12, 3) := by decide +kernel
theorem dX7_where_45 : decode cX7_where 45 = .ok (.getfield 75, 3) := by decide +kernel
theorem dX7_where_48 : decode cX7_where 48 = .ok (.invokevirtual 263, 3) := by decide +kernel
theorem dX7_where_51 : decode cX7_where 51 = .ok (.istore_n 3, 1) := by decide +kernel
theorem dX7_where_52 : decode cX7_where 52 = .ok (.iload_n 3, 1) := by decide +kernel
theorem dX7_where_53 : decode cX7_where 53 = .ok (.ifCond .ge 11, 3) := by decide +kernel
theorem dX7_where_56 : decode cX7_where 56 = .ok (.aload_n 0, 1) := by decide +kernel
theorem dX7_where_57 : decode cX7_where 57 = .ok (.iconst 3, 1) := by decide +kernel
theorem dX7_where_58 : decode cX7_where 58 = .ok (.invokevirtual 68, 3) := by decide +kernel
theorem dX7_where_61 : decode cX7_where 61 = .ok (.goto 4, 3) := by decide +kernel
theorem dX7_where_64 : decode cX7_where 64 = .ok (.iload_n 3, 1) := by decide +kernel
theorem dX7_where_65 : decode cX7_where 65 = .ok (.ireturn, 1) := by decide +kernel
theorem dX7_judge_0 : decode cX7_judge 0 = .ok (.aload_n 0, 1) := by decide +kernel
theorem dX7_judge_1 : decode cX7_judge 1 = .ok (.iload_n 1, 1) := by decide +kernel
theorem dX7_judge_2 : decode cX7_judge 2 = .ok (.invokevirtual 267, 3) := by decide +kernel
theorem dX7_judge_5 : decode cX7_judge 5 = .ok (.istore_n 2, 1) := by decide +kernel
theorem dX7_judge_6 : decode cX7_judge 6 = .ok (.iload_n 2, 1) := by decide +kernel
theorem dX7_judge_7 : decode cX7_judge 7 = .ok (.iconst (-1), 1) := by decide +kernel
theorem dX7_judge_8 : decode cX7_judge 8 = .ok (.if_icmp .eq 9, 3) := by decide +kernel
theorem dX7_judge_11 : decode cX7_judge 11 = .ok (.aload_n 0, 1) := by decide +kernel
theorem dX7_judge_12 : decode cX7_judge 12 = .ok (.iload_n 2, 1) := by decide +kernel
theorem dX7_judge_13 : decode cX7_judge 13 = .ok (.invokevirtual 68, 3) := by decide +kernel
theorem dX7_judge_16 : decode cX7_judge 16 = .ok (.ireturn, 1) := by decide +kernel
theorem dX7_judge_17 : decode cX7_judge 17 = .ok (.aload_n 0, 1) := by decide +kernel
theorem dX7_judge_18 : decode cX7_judge 18 = .ok (.getfield 36, 3) := by decide +kernel
theorem dX7_judge_21 : decode cX7_judge 21 = .ok (.aload_n 0, 1) := by decide +kernel
theorem dX7_judge_22 : decode cX7_judge 22 = .ok (.getfield 12, 3) := by decide +kernel
theorem dX7_judge_25 : decode cX7_judge 25 = .ok (.invokevirtual 228, 3) := by decide +kernel
theorem dX7_judge_28 : decode cX7_judge 28 = .ok (.aload_n 0, 1) := by decide +kernel
theorem dX7_judge_29 : decode cX7_judge 29 = .ok (.getfield 56, 3) := by decide +kernel
theorem dX7_judge_32 : decode cX7_judge 32 = .ok (.iload_n 1, 1) := by decide +kernel
theorem dX7_judge_33 : decode cX7_judge 33 = .ok (.aaload, 1) := by decide +kernel
theorem dX7_judge_34 : decode cX7_judge 34 = .ok (.astore_n 3, 1) := by decide +kernel
theorem dX7_judge_35 : decode cX7_judge 35 = .ok (.aload_n 3, 1) := by decide +kernel
theorem dX7_judge_36 : decode cX7_judge 36 = .ok (.getfield 270, 3) := by decide +kernel
theorem dX7_judge_39 : decode cX7_judge 39 = .ok (.aload_n 0, 1) := by decide +kernel
theorem dX7_judge_40 : decode cX7_judge 40 = .ok (.getfield 36, 3) := by decide +kernel
theorem dX7_judge_43 : decode cX7_judge 43 = .ok (.getfield 238, 3) := by decide +kernel
theorem dX7_judge_46 : decode cX7_judge 46 = .ok (.invokestatic 225, 3) := by decide +kernel
theorem dX7_judge_49 : decode cX7_judge 49 = .ok (.istore 4, 2) := by decide +kernel
theorem dX7_judge_51 : decode cX7_judge 51 = .ok (.iconst 0, 1) := by decide +kernel
theorem dX7_judge_52 : decode cX7_judge 52 = .ok (.istore 5, 2) := by decide +kernel
theorem dX7_judge_54 : decode cX7_judge 54 = .ok (.iload 5, 2) := by decide +kernel
theorem dX7_judge_56 : decode cX7_judge 56 = .ok (.iload 4, 2) := by decide +kernel
theorem dX7_judge_58 : decode cX7_judge 58 = .ok (.if_icmp .ge 42, 3) := by decide +kernel
theorem dX7_judge_61 : decode cX7_judge 61 = .ok (.aload_n 3, 1) := by decide +kernel
theorem dX7_judge_62 : decode cX7_judge 62 = .ok (.getfield 259, 3) := by decide +kernel
theorem dX7_judge_65 : decode cX7_judge 65 = .ok (.iload 5, 2) := by decide +kernel
theorem dX7_judge_67 : decode cX7_judge 67 = .ok (.laload, 1) := by decide +kernel
theorem dX7_judge_68 : decode cX7_judge 68 = .ok (.aload_n 0, 1) := by decide +kernel
theorem dX7_judge_69 : decode cX7_judge 69 = .ok (.getfield 36, 3) := by decide +kernel
theorem dX7_judge_72 : decode cX7_judge 72 = .ok (.iload 5, 2) := by decide +kernel
theorem dX7_judge_74 : decode cX7_judge 74 = .ok (.aload_n 0, 1) := by decide +kernel
theorem dX7_judge_75 : decode cX7_judge 75 = .ok (.getfield 12, 3) := by decide +kernel
theorem dX7_judge_78 : decode cX7_judge 78 = .ok (.getfield 75, 3) := by decide +kernel
theorem dX7_judge_81 : decode cX7_judge 81 = .ok (.invokevirtual 273, 3) := by decide +kernel
theorem dX7_judge_84 : decode cX7_judge 84 = .ok (.i2l, 1) := by decide +kernel
theorem dX7_judge_85 : decode cX7_judge 85 = .ok (.lcmp, 1) := by decide +kernel
theorem dX7_judge_86 : decode cX7_judge 86 = .ok (.ifCond .eq 8, 3) := by decide +kernel
theorem dX7_judge_89 : decode cX7_judge 89 = .ok (.iconst 1, 1) := by decide +kernel
theorem dX7_judge_90 : decode cX7_judge 90 = .ok (.iload 5, 2) := by decide +kernel
theorem dX7_judge_92 : decode cX7_judge 92 = .ok (.iadd, 1) := by decide +kernel
theorem dX7_judge_93 : decode cX7_judge 93 = .ok (.ireturn, 1) := by decide +kernel
theorem dX7_judge_94 : decode cX7_judge 94 = .ok (.iinc 5 1, 3) := by decide +kernel
theorem dX7_judge_97 : decode cX7_judge 97 = .ok (.goto (-43), 3) := by decide +kernel
theorem dX7_judge_100 : decode cX7_judge 100 = .ok (.aload_n 3, 1) := by decide +kernel
theorem dX7_judge_101 : decode cX7_judge 101 = .ok (.getfield 270, 3) := by decide +kernel
theorem dX7_judge_104 : decode cX7_judge 104 = .ok (.aload_n 0, 1) := by decide +kernel
theorem dX7_judge_105 : decode cX7_judge 105 = .ok (.getfield 36, 3) := by decide +kernel
theorem dX7_judge_108 : decode cX7_judge 108 = .ok (.getfield 238, 3) := by decide +kernel
theorem dX7_judge_111 : decode cX7_judge 111 = .ok (.if_icmp .ne 7, 3) := by decide +kernel
theorem dX7_judge_114 : decode cX7_judge 114 = .ok (.iconst 0, 1) := by decide +kernel
theorem dX7_judge_115 : decode cX7_judge 115 = .ok (.goto 7, 3) := by decide +kernel
theorem dX7_judge_118 : decode cX7_judge 118 = .ok (.iconst 1, 1) := by decide +kernel
theorem dX7_judge_119 : decode cX7_judge 119 = .ok (.iload 4, 2) := by decide +kernel
theorem dX7_judge_121 : decode cX7_judge 121 = .ok (.iadd, 1) := by decide +kernel
theorem dX7_judge_122 : decode cX7_judge 122 = .ok (.ireturn, 1) := by decide +kernel
theorem dX7_needs_0 : decode cX7_needs 0 = .ok (.aload_n 0, 1) := by decide +kernel
theorem dX7_needs_1 : decode cX7_needs 1 = .ok (.getfield 29, 3) := by decide +kernel
theorem dX7_needs_4 : decode cX7_needs 4 = .ok (.aload_n 0, 1) := by decide +kernel
theorem dX7_needs_5 : decode cX7_needs 5 = .ok (.getfield 12, 3) := by decide +kernel
theorem dX7_needs_8 : decode cX7_needs 8 = .ok (.invokevirtual 154, 3) := by decide +kernel
theorem dX7_needs_11 : decode cX7_needs 11 = .ok (.aload_n 0, 1) := by decide +kernel
theorem dX7_needs_12 : decode cX7_needs 12 = .ok (.getfield 29, 3) := by decide +kernel
theorem dX7_needs_15 : decode cX7_needs 15 = .ok (.invokevirtual 276, 3) := by decide +kernel
theorem dX7_needs_18 : decode cX7_needs 18 = .ok (.ireturn, 1) := by decide +kernel
theorem dX7_without_0 : decode cX7_without 0 = .ok (.aload_n 0, 1) := by decide +kernel
theorem dX7_without_1 : decode cX7_without 1 = .ok (.getfield 12, 3) := by decide +kernel
theorem dX7_without_4 : decode cX7_without 4 = .ok (.getfield 117, 3) := by decide +kernel
theorem dX7_without_7 : decode cX7_without 7 = .ok (.ifCond .ne 9, 3) := by decide +kernel
theorem dX7_without_10 : decode cX7_without 10 = .ok (.aload_n 0, 1) := by decide +kernel
theorem dX7_without_11 : decode cX7_without 11 = .ok (.iconst 3, 1) := by decide +kernel
theorem dX7_without_12 : decode cX7_without 12 = .ok (.invokevirtual 68, 3) := by decide +kernel
theorem dX7_without_15 : decode cX7_without 15 = .ok (.ireturn, 1) := by decide +kernel
theorem dX7_without_16 : decode cX7_without 16 = .ok (.aload_n 0, 1) := by decide +kernel
theorem dX7_without_17 : decode cX7_without 17 = .ok (.getfield 29, 3) := by decide +kernel
theorem dX7_without_20 : decode cX7_without 20 = .ok (.aload_n 0, 1) := by decide +kernel
theorem dX7_without_21 : decode cX7_without 21 = .ok (.getfield 12, 3) := by decide +kernel
theorem dX7_without_24 : decode cX7_without 24 = .ok (.invokevirtual 154, 3) := by decide +kernel
theorem dX7_without_27 : decode cX7_without 27 = .ok (.iconst 0, 1) := by decide +kernel
theorem dX7_without_28 : decode cX7_without 28 = .ok (.istore_n 1, 1) := by decide +kernel
theorem dX7_without_29 : decode cX7_without 29 = .ok (.iconst (-1), 1) := by decide +kernel
theorem dX7_without_30 : decode cX7_without 30 = .ok (.istore_n 2, 1) := by decide +kernel
theorem dX7_without_31 : decode cX7_without 31 = .ok (.iconst 0, 1) := by decide +kernel
theorem dX7_without_32 : decode cX7_without 32 = .ok (.istore_n 3, 1) := by decide +kernel
theorem dX7_without_33 : decode cX7_without 33 = .ok (.iload_n 3, 1) := by decide +kernel
theorem dX7_without_34 : decode cX7_without 34 = .ok (.aload_n 0, 1) := by decide +kernel
theorem dX7_without_35 : decode cX7_without 35 = .ok (.getfield 12, 3) := by decide +kernel
theorem dX7_without_38 : decode cX7_without 38 = .ok (.getfield 117, 3) := by decide +kernel
theorem dX7_without_41 : decode cX7_without 41 = .ok (.if_icmp .ge 30, 3) := by decide +kernel
theorem dX7_without_44 : decode cX7_without 44 = .ok (.aload_n 0, 1) := by decide +kernel
theorem dX7_without_45 : decode cX7_without 45 = .ok (.getfield 29, 3) := by decide +kernel
theorem dX7_without_48 : decode cX7_without 48 = .ok (.iload_n 3, 1) := by decide +kernel
theorem dX7_without_49 : decode cX7_without 49 = .ok (.invokevirtual 279, 3) := by decide +kernel
theorem dX7_without_52 : decode cX7_without 52 = .ok (.istore 4, 2) := by decide +kernel
theorem dX7_without_54 : decode cX7_without 54 = .ok (.iload 4, 2) := by decide +kernel
theorem dX7_without_56 : decode cX7_without 56 = .ok (.iload_n 2, 1) := by decide +kernel
theorem dX7_without_57 : decode cX7_without 57 = .ok (.if_icmp .le 8, 3) := by decide +kernel
theorem dX7_without_60 : decode cX7_without 60 = .ok (.iload 4, 2) := by decide +kernel
theorem dX7_without_62 : decode cX7_without 62 = .ok (.istore_n 2, 1) := by decide +kernel
theorem dX7_without_63 : decode cX7_without 63 = .ok (.iload_n 3, 1) := by decide +kernel
theorem dX7_without_64 : decode cX7_without 64 = .ok (.istore_n 1, 1) := by decide +kernel
theorem dX7_without_65 : decode cX7_without 65 = .ok (.iinc 3 1, 3) := by decide +kernel
theorem dX7_without_68 : decode cX7_without 68 = .ok (.goto (-35), 3) := by decide +kernel
theorem dX7_without_71 : decode cX7_without 71 = .ok (.iload_n 1, 1) := by decide +kernel
theorem dX7_without_72 : decode cX7_without 72 = .ok (.ireturn, 1) := by decide +kernel
theorem dX7_kind_0 : decode cX7_kind 0 = .ok (.aload_n 0, 1) := by decide +kernel
theorem dX7_kind_1 : decode cX7_kind 1 = .ok (.getfield 12, 3) := by decide +kernel
theorem dX7_kind_4 : decode cX7_kind 4 = .ok (.iload_n 1, 1) := by decide +kernel
theorem dX7_kind_5 : decode cX7_kind 5 = .ok (.invokevirtual 124, 3) := by decide +kernel
theorem dX7_kind_8 : decode cX7_kind 8 = .ok (.ifCond .ne 9, 3) := by decide +kernel
theorem dX7_kind_11 : decode cX7_kind 11 = .ok (.aload_n 0, 1) := by decide +kernel
theorem dX7_kind_12 : decode cX7_kind 12 = .ok (.iconst 0, 1) := by decide +kernel
theorem dX7_kind_13 : decode cX7_kind 13 = .ok (.invokevirtual 68, 3) := by decide +kernel
theorem dX7_kind_16 : decode cX7_kind 16 = .ok (.ireturn, 1) := by decide +kernel
theorem dX7_kind_17 : decode cX7_kind 17 = .ok (.aload_n 0, 1) := by decide +kernel
theorem dX7_kind_18 : decode cX7_kind 18 = .ok (.getfield 29, 3) := by decide +kernel
theorem dX7_kind_21 : decode cX7_kind 21 = .ok (.aload_n 0, 1) := by decide +kernel
theorem dX7_kind_22 : decode cX7_kind 22 = .ok (.getfield 12, 3) := by decide +kernel
theorem dX7_kind_25 : decode cX7_kind 25 = .ok (.invokevirtual 154, 3) := by decide +kernel
theorem dX7_kind_28 : decode cX7_kind 28 = .ok (.iconst 0, 1) := by decide +kernel
theorem dX7_kind_29 : decode cX7_kind 29 = .ok (.istore_n 2, 1) := by decide +kernel
theorem dX7_kind_30 : decode cX7_kind 30 = .ok (.iconst (-1), 1) := by decide +kernel
theorem dX7_kind_31 : decode cX7_kind 31 = .ok (.istore_n 3, 1) := by decide +kernel
theorem dX7_kind_32 : decode cX7_kind 32 = .ok (.iconst 0, 1) := by decide +kernel
theorem dX7_kind_33 : decode cX7_kind 33 = .ok (.istore 4, 2) := by decide +kernel
theorem dX7_kind_35 : decode cX7_kind 35 = .ok (.iload 4, 2) := by decide +kernel
theorem dX7_kind_37 : decode cX7_kind 37 = .ok (.bipush 6, 2) := by decide +kernel
theorem dX7_kind_39 : decode cX7_kind 39 = .ok (.if_icmp .ge 37, 3) := by decide +kernel
theorem dX7_kind_42 : decode cX7_kind 42 = .ok (.aload_n 0, 1) := by decide +kernel
theorem dX7_kind_43 : decode cX7_kind 43 = .ok (.getfield 29, 3) := by decide +kernel
theorem dX7_kind_46 : decode cX7_kind 46 = .ok (.aload_n 0, 1) := by decide +kernel
theorem dX7_kind_47 : decode cX7_kind 47 = .ok (.getfield 12, 3) := by decide +kernel
theorem dX7_kind_50 : decode cX7_kind 50 = .ok (.iload_n 1, 1) := by decide +kernel
theorem dX7_kind_51 : decode cX7_kind 51 = .ok (.iload 4, 2) := by decide +kernel
theorem dX7_kind_53 : decode cX7_kind 53 = .ok (.invokevirtual 282, 3) := by decide +kernel
theorem dX7_kind_56 : decode cX7_kind 56 = .ok (.istore 5, 2) := by decide +kernel
theorem dX7_kind_58 : decode cX7_kind 58 = .ok (.iload 5, 2) := by decide +kernel
theorem dX7_kind_60 : decode cX7_kind 60 = .ok (.iload_n 3, 1) := by decide +kernel
theorem dX7_kind_61 : decode cX7_kind 61 = .ok (.if_icmp .le 9, 3) := by decide +kernel
theorem dX7_kind_64 : decode cX7_kind 64 = .ok (.iload 5, 2) := by decide +kernel
theorem dX7_kind_66 : decode cX7_kind 66 = .ok (.istore_n 3, 1) := by decide +kernel
theorem dX7_kind_67 : decode cX7_kind 67 = .ok (.iload 4, 2) := by decide +kernel
theorem dX7_kind_69 : decode cX7_kind 69 = .ok (.istore_n 2, 1) := by decide +kernel
theorem dX7_kind_70 : decode cX7_kind 70 = .ok (.iinc 4 1, 3) := by decide +kernel
theorem dX7_kind_73 : decode cX7_kind 73 = .ok (.goto (-38), 3) := by decide +kernel
theorem dX7_kind_76 : decode cX7_kind 76 = .ok (.iload_n 2, 1) := by decide +kernel
theorem dX7_kind_77 : decode cX7_kind 77 = .ok (.ireturn, 1) := by decide +kernel
theorem dX7_boundFor_0 : decode cX7_boundFor 0 = .ok (.aload_n 0, 1) := by decide +kernel
theorem dX7_boundFor_1 : decode cX7_boundFor 1 = .ok (.getfield 12, 3) := by decide +kernel
theorem dX7_boundFor_4 : decode cX7_boundFor 4 = .ok (.iload_n 1, 1) := by decide +kernel
theorem dX7_boundFor_5 : decode cX7_boundFor 5 = .ok (.invokevirtual 124, 3) := by decide +kernel
theorem dX7_boundFor_8 : decode cX7_boundFor 8 = .ok (.ifCond .ne 9, 3) := by decide +kernel
theorem dX7_boundFor_11 : decode cX7_boundFor 11 = .ok (.aload_n 0, 1) := by decide +kernel
theorem dX7_boundFor_12 : decode cX7_boundFor 12 = .ok (.iconst 0, 1) := by decide +kernel
theorem dX7_boundFor_13 : decode cX7_boundFor 13 = .ok (.invokevirtual 68, 3) := by decide +kernel
theorem dX7_boundFor_16 : decode cX7_boundFor 16 = .ok (.ireturn, 1) := by decide +kernel
theorem dX7_boundFor_17 : decode cX7_boundFor 17 = .ok (.aload_n 0, 1) := by decide +kernel
theorem dX7_boundFor_18 : decode cX7_boundFor 18 = .ok (.getfield 29, 3) := by decide +kernel
theorem dX7_boundFor_21 : decode cX7_boundFor 21 = .ok (.aload_n 0, 1) := by decide +kernel
theorem dX7_boundFor_22 : decode cX7_boundFor 22 = .ok (.getfield 12, 3) := by decide +kernel
theorem dX7_boundFor_25 : decode cX7_boundFor 25 = .ok (.invokevirtual 154, 3) := by decide +kernel
theorem dX7_boundFor_28 : decode cX7_boundFor 28 = .ok (.aload_n 0, 1) := by decide +kernel
theorem dX7_boundFor_29 : decode cX7_boundFor 29 = .ok (.getfield 29, 3) := by decide +kernel
theorem dX7_boundFor_32 : decode cX7_boundFor 32 = .ok (.aload_n 0, 1) := by decide +kernel
theorem dX7_boundFor_33 : decode cX7_boundFor 33 = .ok (.getfield 12, 3) := by decide +kernel
theorem dX7_boundFor_36 : decode cX7_boundFor 36 = .ok (.iload_n 1, 1) := by decide +kernel
theorem dX7_boundFor_37 : decode cX7_boundFor 37 = .ok (.invokevirtual 286, 3) := by decide +kernel
theorem dX7_boundFor_40 : decode cX7_boundFor 40 = .ok (.istore_n 2, 1) := by decide +kernel
theorem dX7_boundFor_41 : decode cX7_boundFor 41 = .ok (.iload_n 2, 1) := by decide +kernel
theorem dX7_boundFor_42 : decode cX7_boundFor 42 = .ok (.sipush 999, 3) := by decide +kernel
theorem dX7_boundFor_45 : decode cX7_boundFor 45 = .ok (.if_icmp .le 11, 3) := by decide +kernel
theorem dX7_boundFor_48 : decode cX7_boundFor 48 = .ok (.aload_n 0, 1) := by decide +kernel
theorem dX7_boundFor_49 : decode cX7_boundFor 49 = .ok (.iconst 3, 1) := by decide +kernel
theorem dX7_boundFor_50 : decode cX7_boundFor 50 = .ok (.invokevirtual 68, 3) := by decide +kernel
theorem dX7_boundFor_53 : decode cX7_boundFor 53 = .ok (.goto 4, 3) := by decide +kernel
theorem dX7_boundFor_56 : decode cX7_boundFor 56 = .ok (.iload_n 2, 1) := by decide +kernel
theorem dX7_boundFor_57 : decode cX7_boundFor 57 = .ok (.ireturn, 1) := by decide +kernel
theorem dX7_base_0 : decode cX7_base 0 = .ok (.aload_n 0, 1) := by decide +kernel
theorem dX7_base_1 : decode cX7_base 1 = .ok (.getfield 12, 3) := by decide +kernel
theorem dX7_base_4 : decode cX7_base 4 = .ok (.iload_n 1, 1) := by decide +kernel
theorem dX7_base_5 : decode cX7_base 5 = .ok (.invokevirtual 86, 3) := by decide +kernel
theorem dX7_base_8 : decode cX7_base 8 = .ok (.ifCond .eq 22, 3) := by decide +kernel
theorem dX7_base_11 : decode cX7_base 11 = .ok (.aload_n 0, 1) := by decide +kernel
theorem dX7_base_12 : decode cX7_base 12 = .ok (.getfield 12, 3) := by decide +kernel
theorem dX7_base_15 : decode cX7_base 15 = .ok (.iload_n 2, 1) := by decide +kernel
theorem dX7_base_16 : decode cX7_base 16 = .ok (.invokevirtual 86, 3) := by decide +kernel
theorem dX7_base_19 : decode cX7_base 19 = .ok (.ifCond .eq 11, 3) := by decide +kernel
theorem dX7_base_22 : decode cX7_base 22 = .ok (.iload_n 3, 1) := by decide +kernel
theorem dX7_base_23 : decode cX7_base 23 = .ok (.iconst 4, 1) := by decide +kernel
theorem dX7_base_24 : decode cX7_base 24 = .ok (.invokestatic 90, 3) := by decide +kernel
theorem dX7_base_27 : decode cX7_base 27 = .ok (.ifCond .ne 9, 3) := by decide +kernel
theorem dX7_base_30 : decode cX7_base 30 = .ok (.aload_n 0, 1) := by decide +kernel
theorem dX7_base_31 : decode cX7_base 31 = .ok (.iconst 0, 1) := by decide +kernel
theorem dX7_base_32 : decode cX7_base 32 = .ok (.invokevirtual 68, 3) := by decide +kernel
theorem dX7_base_35 : decode cX7_base 35 = .ok (.ireturn, 1) := by decide +kernel
theorem dX7_base_36 : decode cX7_base 36 = .ok (.aload_n 0, 1) := by decide +kernel
theorem dX7_base_37 : decode cX7_base 37 = .ok (.getfield 12, 3) := by decide +kernel
theorem dX7_base_40 : decode cX7_base 40 = .ok (.getfield 290, 3) := by decide +kernel
theorem dX7_base_43 : decode cX7_base 43 = .ok (.iload_n 1, 1) := by decide +kernel
theorem dX7_base_44 : decode cX7_base 44 = .ok (.aaload, 1) := by decide +kernel
theorem dX7_base_45 : decode cX7_base 45 = .ok (.iload_n 2, 1) := by decide +kernel
theorem dX7_base_46 : decode cX7_base 46 = .ok (.iaload, 1) := by decide +kernel
theorem dX7_base_47 : decode cX7_base 47 = .ok (.istore 4, 2) := by decide +kernel
theorem dX7_base_49 : decode cX7_base 49 = .ok (.aload_n 0, 1) := by decide +kernel
theorem dX7_base_50 : decode cX7_base 50 = .ok (.getfield 12, 3) := by decide +kernel
theorem dX7_base_53 : decode cX7_base 53 = .ok (.getfield 290, 3) := by decide +kernel
theorem dX7_base_56 : decode cX7_base 56 = .ok (.iload_n 1, 1) := by decide +kernel
theorem dX7_base_57 : decode cX7_base 57 = .ok (.aaload, 1) := by decide +kernel
theorem dX7_base_58 : decode cX7_base 58 = .ok (.iload_n 2, 1) := by decide +kernel
theorem dX7_base_59 : decode cX7_base 59 = .ok (.iload_n 3, 1) := by decide +kernel
theorem dX7_base_60 : decode cX7_base 60 = .ok (.iastore, 1) := by decide +kernel
theorem dX7_base_61 : decode cX7_base 61 = .ok (.iload 4, 2) := by decide +kernel
theorem dX7_base_63 : decode cX7_base 63 = .ok (.ireturn, 1) := by decide +kernel
theorem dX7_baseOf_0 : decode cX7_baseOf 0 = .ok (.aload_n 0, 1) := by decide +kernel
theorem dX7_baseOf_1 : decode cX7_baseOf 1 = .ok (.getfield 12, 3) := by decide +kernel
theorem dX7_baseOf_4 : decode cX7_baseOf 4 = .ok (.iload_n 1, 1) := by decide +kernel
theorem dX7_baseOf_5 : decode cX7_baseOf 5 = .ok (.invokevirtual 86, 3) := by decide +kernel
theorem dX7_baseOf_8 : decode cX7_baseOf 8 = .ok (.ifCond .eq 14, 3) := by decide +kernel
theorem dX7_baseOf_11 : decode cX7_baseOf 11 = .ok (.aload_n 0, 1) := by decide +kernel
theorem dX7_baseOf_12 : decode cX7_baseOf 12 = .ok (.getfield 12, 3) := by decide +kernel
theorem dX7_baseOf_15 : decode cX7_baseOf 15 = .ok (.iload_n 2, 1) := by decide +kernel
theorem dX7_baseOf_16 : decode cX7_baseOf 16 = .ok (.invokevirtual 86, 3) := by decide +kernel
theorem dX7_baseOf_19 : decode cX7_baseOf 19 = .ok (.ifCond .ne 9, 3) := by decide +kernel
theorem dX7_baseOf_22 : decode cX7_baseOf 22 = .ok (.aload_n 0, 1) := by decide +kernel
theorem dX7_baseOf_23 : decode cX7_baseOf 23 = .ok (.iconst 0, 1) := by decide +kernel
theorem dX7_baseOf_24 : decode cX7_baseOf 24 = .ok (.invokevirtual 68, 3) := by decide +kernel
theorem dX7_baseOf_27 : decode cX7_baseOf 27 = .ok (.ireturn, 1) := by decide +kernel
theorem dX7_baseOf_28 : decode cX7_baseOf 28 = .ok (.aload_n 0, 1) := by decide +kernel
theorem dX7_baseOf_29 : decode cX7_baseOf 29 = .ok (.getfield 12, 3) := by decide +kernel
theorem dX7_baseOf_32 : decode cX7_baseOf 32 = .ok (.getfield 290, 3) := by decide +kernel
theorem dX7_baseOf_35 : decode cX7_baseOf 35 = .ok (.iload_n 1, 1) := by decide +kernel
theorem dX7_baseOf_36 : decode cX7_baseOf 36 = .ok (.aaload, 1) := by decide +kernel
theorem dX7_baseOf_37 : decode cX7_baseOf 37 = .ok (.iload_n 2, 1) := by decide +kernel
theorem dX7_baseOf_38 : decode cX7_baseOf 38 = .ok (.iaload, 1) := by decide +kernel
theorem dX7_baseOf_39 : decode cX7_baseOf 39 = .ok (.ireturn, 1) := by decide +kernel
theorem dX7_mix_0 : decode cX7_mix 0 = .ok (.aload_n 0, 1) := by decide +kernel
theorem dX7_mix_1 : decode cX7_mix 1 = .ok (.iload_n 1, 1) := by decide +kernel
theorem dX7_mix_2 : decode cX7_mix 2 = .ok (.iload_n 2, 1) := by decide +kernel
theorem dX7_mix_3 : decode cX7_mix 3 = .ok (.invokevirtual 294, 3) := by decide +kernel
theorem dX7_mix_6 : decode cX7_mix 6 = .ok (.ifCond .eq 11, 3) := by decide +kernel
theorem dX7_mix_9 : decode cX7_mix 9 = .ok (.iload_n 3, 1) := by decide +kernel
theorem dX7_mix_10 : decode cX7_mix 10 = .ok (.iconst 3, 1) := by decide +kernel
theorem dX7_mix_11 : decode cX7_mix 11 = .ok (.invokestatic 90, 3) := by decide +kernel
theorem dX7_mix_14 : decode cX7_mix 14 = .ok (.ifCond .ne 9, 3) := by decide +kernel
theorem dX7_mix_17 : decode cX7_mix 17 = .ok (.aload_n 0, 1) := by decide +kernel
theorem dX7_mix_18 : decode cX7_mix 18 = .ok (.iconst 0, 1) := by decide +kernel
theorem dX7_mix_19 : decode cX7_mix 19 = .ok (.invokevirtual 68, 3) := by decide +kernel
theorem dX7_mix_22 : decode cX7_mix 22 = .ok (.ireturn, 1) := by decide +kernel
theorem dX7_mix_23 : decode cX7_mix 23 = .ok (.aload_n 0, 1) := by decide +kernel
theorem dX7_mix_24 : decode cX7_mix 24 = .ok (.getfield 12, 3) := by decide +kernel
theorem dX7_mix_27 : decode cX7_mix 27 = .ok (.getfield 290, 3) := by decide +kernel
theorem dX7_mix_30 : decode cX7_mix 30 = .ok (.iload_n 1, 1) := by decide +kernel
theorem dX7_mix_31 : decode cX7_mix 31 = .ok (.aaload, 1) := by decide +kernel
theorem dX7_mix_32 : decode cX7_mix 32 = .ok (.astore 4, 2) := by decide +kernel
theorem dX7_mix_34 : decode cX7_mix 34 = .ok (.aload_n 0, 1) := by decide +kernel
theorem dX7_mix_35 : decode cX7_mix 35 = .ok (.getfield 12, 3) := by decide +kernel
theorem dX7_mix_38 : decode cX7_mix 38 = .ok (.getfield 290, 3) := by decide +kernel
theorem dX7_mix_41 : decode cX7_mix 41 = .ok (.iload_n 2, 1) := by decide +kernel
theorem dX7_mix_42 : decode cX7_mix 42 = .ok (.aaload, 1) := by decide +kernel
theorem dX7_mix_43 : decode cX7_mix 43 = .ok (.astore 5, 2) := by decide +kernel
theorem dX7_mix_45 : decode cX7_mix 45 = .ok (.iconst 0, 1) := by decide +kernel
theorem dX7_mix_46 : decode cX7_mix 46 = .ok (.istore 6, 2) := by decide +kernel
theorem dX7_mix_48 : decode cX7_mix 48 = .ok (.iload 6, 2) := by decide +kernel
theorem dX7_mix_50 : decode cX7_mix 50 = .ok (.aload_n 0, 1) := by decide +kernel
theorem dX7_mix_51 : decode cX7_mix 51 = .ok (.getfield 12, 3) := by decide +kernel
theorem dX7_mix_54 : decode cX7_mix 54 = .ok (.getfield 75, 3) := by decide +kernel
theorem dX7_mix_57 : decode cX7_mix 57 = .ok (.if_icmp .ge 35, 3) := by decide +kernel
theorem dX7_mix_60 : decode cX7_mix 60 = .ok (.aload 5, 2) := by decide +kernel
theorem dX7_mix_62 : decode cX7_mix 62 = .ok (.iload 6, 2) := by decide +kernel
theorem dX7_mix_64 : decode cX7_mix 64 = .ok (.iaload, 1) := by decide +kernel
theorem dX7_mix_65 : decode cX7_mix 65 = .ok (.iload_n 3, 1) := by decide +kernel
theorem dX7_mix_66 : decode cX7_mix 66 = .ok (.aload 4, 2) := by decide +kernel
theorem dX7_mix_68 : decode cX7_mix 68 = .ok (.iload 6, 2) := by decide +kernel
theorem dX7_mix_70 : decode cX7_mix 70 = .ok (.iaload, 1) := by decide +kernel
theorem dX7_mix_71 : decode cX7_mix 71 = .ok (.imul, 1) := by decide +kernel
theorem dX7_mix_72 : decode cX7_mix 72 = .ok (.iadd, 1) := by decide +kernel
theorem dX7_mix_73 : decode cX7_mix 73 = .ok (.iconst 4, 1) := by decide +kernel
theorem dX7_mix_74 : decode cX7_mix 74 = .ok (.invokestatic 90, 3) := by decide +kernel
theorem dX7_mix_77 : decode cX7_mix 77 = .ok (.ifCond .ne 9, 3) := by decide +kernel
theorem dX7_mix_80 : decode cX7_mix 80 = .ok (.aload_n 0, 1) := by decide +kernel
theorem dX7_mix_81 : decode cX7_mix 81 = .ok (.iconst 4, 1) := by decide +kernel
theorem dX7_mix_82 : decode cX7_mix 82 = .ok (.invokevirtual 68, 3) := by decide +kernel
theorem dX7_mix_85 : decode cX7_mix 85 = .ok (.ireturn, 1) := by decide +kernel
theorem dX7_mix_86 : decode cX7_mix 86 = .ok (.iinc 6 1, 3) := by decide +kernel
theorem dX7_mix_89 : decode cX7_mix 89 = .ok (.goto (-41), 3) := by decide +kernel
theorem dX7_mix_92 : decode cX7_mix 92 = .ok (.iconst 0, 1) := by decide +kernel
theorem dX7_mix_93 : decode cX7_mix 93 = .ok (.istore 6, 2) := by decide +kernel
theorem dX7_mix_95 : decode cX7_mix 95 = .ok (.iload 6, 2) := by decide +kernel
theorem dX7_mix_97 : decode cX7_mix 97 = .ok (.aload_n 0, 1) := by decide +kernel
theorem dX7_mix_98 : decode cX7_mix 98 = .ok (.getfield 12, 3) := by decide +kernel
theorem dX7_mix_101 : decode cX7_mix 101 = .ok (.getfield 75, 3) := by decide +kernel
theorem dX7_mix_104 : decode cX7_mix 104 = .ok (.if_icmp .ge 24, 3) := by decide +kernel
theorem dX7_mix_107 : decode cX7_mix 107 = .ok (.aload 5, 2) := by decide +kernel
theorem dX7_mix_109 : decode cX7_mix 109 = .ok (.iload 6, 2) := by decide +kernel
theorem dX7_mix_111 : decode cX7_mix 111 = .ok (.dup2, 1) := by decide +kernel
theorem dX7_mix_112 : decode cX7_mix 112 = .ok (.iaload, 1) := by decide +kernel
theorem dX7_mix_113 : decode cX7_mix 113 = .ok (.iload_n 3, 1) := by decide +kernel
theorem dX7_mix_114 : decode cX7_mix 114 = .ok (.aload 4, 2) := by decide +kernel
theorem dX7_mix_116 : decode cX7_mix 116 = .ok (.iload 6, 2) := by decide +kernel
theorem dX7_mix_118 : decode cX7_mix 118 = .ok (.iaload, 1) := by decide +kernel
theorem dX7_mix_119 : decode cX7_mix 119 = .ok (.imul, 1) := by decide +kernel
theorem dX7_mix_120 : decode cX7_mix 120 = .ok (.iadd, 1) := by decide +kernel
theorem dX7_mix_121 : decode cX7_mix 121 = .ok (.iastore, 1) := by decide +kernel
theorem dX7_mix_122 : decode cX7_mix 122 = .ok (.iinc 6 1, 3) := by decide +kernel
theorem dX7_mix_125 : decode cX7_mix 125 = .ok (.goto (-30), 3) := by decide +kernel
theorem dX7_mix_128 : decode cX7_mix 128 = .ok (.iconst 1, 1) := by decide +kernel
theorem dX7_mix_129 : decode cX7_mix 129 = .ok (.ireturn, 1) := by decide +kernel
theorem dX7_swap_0 : decode cX7_swap 0 = .ok (.aload_n 0, 1) := by decide +kernel
theorem dX7_swap_1 : decode cX7_swap 1 = .ok (.iload_n 1, 1) := by decide +kernel
theorem dX7_swap_2 : decode cX7_swap 2 = .ok (.iload_n 2, 1) := by decide +kernel
theorem dX7_swap_3 : decode cX7_swap 3 = .ok (.invokevirtual 294, 3) := by decide +kernel
theorem dX7_swap_6 : decode cX7_swap 6 = .ok (.ifCond .ne 9, 3) := by decide +kernel
theorem dX7_swap_9 : decode cX7_swap 9 = .ok (.aload_n 0, 1) := by decide +kernel
theorem dX7_swap_10 : decode cX7_swap 10 = .ok (.iconst 0, 1) := by decide +kernel
theorem dX7_swap_11 : decode cX7_swap 11 = .ok (.invokevirtual 68, 3) := by decide +kernel
theorem dX7_swap_14 : decode cX7_swap 14 = .ok (.ireturn, 1) := by decide +kernel
theorem dX7_swap_15 : decode cX7_swap 15 = .ok (.iconst 0, 1) := by decide +kernel
theorem dX7_swap_16 : decode cX7_swap 16 = .ok (.istore_n 3, 1) := by decide +kernel
theorem dX7_swap_17 : decode cX7_swap 17 = .ok (.iload_n 3, 1) := by decide +kernel
theorem dX7_swap_18 : decode cX7_swap 18 = .ok (.aload_n 0, 1) := by decide +kernel
theorem dX7_swap_19 : decode cX7_swap 19 = .ok (.getfield 12, 3) := by decide +kernel
theorem dX7_swap_22 : decode cX7_swap 22 = .ok (.getfield 75, 3) := by decide +kernel
theorem dX7_swap_25 : decode cX7_swap 25 = .ok (.if_icmp .ge 57, 3) := by decide +kernel
theorem dX7_swap_28 : decode cX7_swap 28 = .ok (.aload_n 0, 1) := by decide +kernel
theorem dX7_swap_29 : decode cX7_swap 29 = .ok (.getfield 12, 3) := by decide +kernel
theorem dX7_swap_32 : decode cX7_swap 32 = .ok (.getfield 290, 3) := by decide +kernel
theorem dX7_swap_35 : decode cX7_swap 35 = .ok (.iload_n 1, 1) := by decide +kernel
theorem dX7_swap_36 : decode cX7_swap 36 = .ok (.aaload, 1) := by decide +kernel
theorem dX7_swap_37 : decode cX7_swap 37 = .ok (.iload_n 3, 1) := by decide +kernel
theorem dX7_swap_38 : decode cX7_swap 38 = .ok (.iaload, 1) := by decide +kernel
theorem dX7_swap_39 : decode cX7_swap 39 = .ok (.istore 4, 2) := by decide +kernel
theorem dX7_swap_41 : decode cX7_swap 41 = .ok (.aload_n 0, 1) := by decide +kernel
theorem dX7_swap_42 : decode cX7_swap 42 = .ok (.getfield 12, 3) := by decide +kernel
theorem dX7_swap_45 : decode cX7_swap 45 = .ok (.getfield 290, 3) := by decide +kernel
theorem dX7_swap_48 : decode cX7_swap 48 = .ok (.iload_n 1, 1) := by decide +kernel
theorem dX7_swap_49 : decode cX7_swap 49 = .ok (.aaload, 1) := by decide +kernel
theorem dX7_swap_50 : decode cX7_swap 50 = .ok (.iload_n 3, 1) := by decide +kernel
theorem dX7_swap_51 : decode cX7_swap 51 = .ok (.aload_n 0, 1) := by decide +kernel
theorem dX7_swap_52 : decode cX7_swap 52 = .ok (.getfield 12, 3) := by decide +kernel
theorem dX7_swap_55 : decode cX7_swap 55 = .ok (.getfield 290, 3) := by decide +kernel
theorem dX7_swap_58 : decode cX7_swap 58 = .ok (.iload_n 2, 1) := by decide +kernel
theorem dX7_swap_59 : decode cX7_swap 59 = .ok (.aaload, 1) := by decide +kernel
theorem dX7_swap_60 : decode cX7_swap 60 = .ok (.iload_n 3, 1) := by decide +kernel
theorem dX7_swap_61 : decode cX7_swap 61 = .ok (.iaload, 1) := by decide +kernel
theorem dX7_swap_62 : decode cX7_swap 62 = .ok (.iastore, 1) := by decide +kernel
theorem dX7_swap_63 : decode cX7_swap 63 = .ok (.aload_n 0, 1) := by decide +kernel
theorem dX7_swap_64 : decode cX7_swap 64 = .ok (.getfield 12, 3) := by decide +kernel
theorem dX7_swap_67 : decode cX7_swap 67 = .ok (.getfield 290, 3) := by decide +kernel
theorem dX7_swap_70 : decode cX7_swap 70 = .ok (.iload_n 2, 1) := by decide +kernel
theorem dX7_swap_71 : decode cX7_swap 71 = .ok (.aaload, 1) := by decide +kernel
theorem dX7_swap_72 : decode cX7_swap 72 = .ok (.iload_n 3, 1) := by decide +kernel
theorem dX7_swap_73 : decode cX7_swap 73 = .ok (.iload 4, 2) := by decide +kernel
theorem dX7_swap_75 : decode cX7_swap 75 = .ok (.iastore, 1) := by decide +kernel
theorem dX7_swap_76 : decode cX7_swap 76 = .ok (.iinc 3 1, 3) := by decide +kernel
theorem dX7_swap_79 : decode cX7_swap 79 = .ok (.goto (-62), 3) := by decide +kernel
theorem dX7_swap_82 : decode cX7_swap 82 = .ok (.iconst 1, 1) := by decide +kernel
theorem dX7_swap_83 : decode cX7_swap 83 = .ok (.ireturn, 1) := by decide +kernel
theorem dX7_det_0 : decode cX7_det 0 = .ok (.aload_n 0, 1) := by decide +kernel
theorem dX7_det_1 : decode cX7_det 1 = .ok (.getfield 43, 3) := by decide +kernel
theorem dX7_det_4 : decode cX7_det 4 = .ok (.aload_n 0, 1) := by decide +kernel
theorem dX7_det_5 : decode cX7_det 5 = .ok (.getfield 12, 3) := by decide +kernel
theorem dX7_det_8 : decode cX7_det 8 = .ok (.invokevirtual 297, 3) := by decide +kernel
theorem dX7_det_11 : decode cX7_det 11 = .ok (.ireturn, 1) := by decide +kernel
theorem dX7_form_0 : decode cX7_form 0 = .ok (.aload_n 0, 1) := by decide +kernel
theorem dX7_form_1 : decode cX7_form 1 = .ok (.getfield 12, 3) := by decide +kernel
theorem dX7_form_4 : decode cX7_form 4 = .ok (.iload_n 1, 1) := by decide +kernel
theorem dX7_form_5 : decode cX7_form 5 = .ok (.invokevirtual 86, 3) := by decide +kernel
theorem dX7_form_8 : decode cX7_form 8 = .ok (.ifCond .eq 14, 3) := by decide +kernel
theorem dX7_form_11 : decode cX7_form 11 = .ok (.aload_n 0, 1) := by decide +kernel
theorem dX7_form_12 : decode cX7_form 12 = .ok (.getfield 12, 3) := by decide +kernel
theorem dX7_form_15 : decode cX7_form 15 = .ok (.iload_n 2, 1) := by decide +kernel
theorem dX7_form_16 : decode cX7_form 16 = .ok (.invokevirtual 86, 3) := by decide +kernel
theorem dX7_form_19 : decode cX7_form 19 = .ok (.ifCond .ne 9, 3) := by decide +kernel
theorem dX7_form_22 : decode cX7_form 22 = .ok (.aload_n 0, 1) := by decide +kernel
theorem dX7_form_23 : decode cX7_form 23 = .ok (.iconst 0, 1) := by decide +kernel
theorem dX7_form_24 : decode cX7_form 24 = .ok (.invokevirtual 68, 3) := by decide +kernel
theorem dX7_form_27 : decode cX7_form 27 = .ok (.ireturn, 1) := by decide +kernel
theorem dX7_form_28 : decode cX7_form 28 = .ok (.aload_n 0, 1) := by decide +kernel
theorem dX7_form_29 : decode cX7_form 29 = .ok (.getfield 43, 3) := by decide +kernel
theorem dX7_form_32 : decode cX7_form 32 = .ok (.aload_n 0, 1) := by decide +kernel
theorem dX7_form_33 : decode cX7_form 33 = .ok (.getfield 12, 3) := by decide +kernel
theorem dX7_form_36 : decode cX7_form 36 = .ok (.invokevirtual 297, 3) := by decide +kernel
theorem dX7_form_39 : decode cX7_form 39 = .ok (.ifCond .ne 9, 3) := by decide +kernel
theorem dX7_form_42 : decode cX7_form 42 = .ok (.aload_n 0, 1) := by decide +kernel
theorem dX7_form_43 : decode cX7_form 43 = .ok (.iconst 3, 1) := by decide +kernel
theorem dX7_form_44 : decode cX7_form 44 = .ok (.invokevirtual 68, 3) := by decide +kernel
theorem dX7_form_47 : decode cX7_form 47 = .ok (.ireturn, 1) := by decide +kernel
theorem dX7_form_48 : decode cX7_form 48 = .ok (.aload_n 0, 1) := by decide +kernel
theorem dX7_form_49 : decode cX7_form 49 = .ok (.getfield 43, 3) := by decide +kernel
theorem dX7_form_52 : decode cX7_form 52 = .ok (.getfield 301, 3) := by decide +kernel
theorem dX7_form_55 : decode cX7_form 55 = .ok (.iload_n 1, 1) := by decide +kernel
theorem dX7_form_56 : decode cX7_form 56 = .ok (.aaload, 1) := by decide +kernel
theorem dX7_form_57 : decode cX7_form 57 = .ok (.iload_n 2, 1) := by decide +kernel
theorem dX7_form_58 : decode cX7_form 58 = .ok (.laload, 1) := by decide +kernel
theorem dX7_form_59 : decode cX7_form 59 = .ok (.l2i, 1) := by decide +kernel
theorem dX7_form_60 : decode cX7_form 60 = .ok (.ireturn, 1) := by decide +kernel
theorem dX7_shortest_0 : decode cX7_shortest 0 = .ok (.iload_n 1, 1) := by decide +kernel
theorem dX7_shortest_1 : decode cX7_shortest 1 = .ok (.iconst (-1), 1) := by decide +kernel
theorem dX7_shortest_2 : decode cX7_shortest 2 = .ok (.if_icmp .eq 20, 3) := by decide +kernel
theorem dX7_shortest_5 : decode cX7_shortest 5 = .ok (.aload_n 0, 1) := by decide +kernel
theorem dX7_shortest_6 : decode cX7_shortest 6 = .ok (.getfield 12, 3) := by decide +kernel
theorem dX7_shortest_9 : decode cX7_shortest 9 = .ok (.iload_n 1, 1) := by decide +kernel
theorem dX7_shortest_10 : decode cX7_shortest 10 = .ok (.invokevirtual 86, 3) := by decide +kernel
theorem dX7_shortest_13 : decode cX7_shortest 13 = .ok (.ifCond .ne 9, 3) := by decide +kernel
theorem dX7_shortest_16 : decode cX7_shortest 16 = .ok (.aload_n 0, 1) := by decide +kernel
theorem dX7_shortest_17 : decode cX7_shortest 17 = .ok (.iconst 0, 1) := by decide +kernel
theorem dX7_shortest_18 : decode cX7_shortest 18 = .ok (.invokevirtual 68, 3) := by decide +kernel
theorem dX7_shortest_21 : decode cX7_shortest 21 = .ok (.ireturn, 1) := by decide +kernel
theorem dX7_shortest_22 : decode cX7_shortest 22 = .ok (.aload_n 0, 1) := by decide +kernel
theorem dX7_shortest_23 : decode cX7_shortest 23 = .ok (.getfield 43, 3) := by decide +kernel
theorem dX7_shortest_26 : decode cX7_shortest 26 = .ok (.aload_n 0, 1) := by decide +kernel
theorem dX7_shortest_27 : decode cX7_shortest 27 = .ok (.getfield 12, 3) := by decide +kernel
theorem dX7_shortest_30 : decode cX7_shortest 30 = .ok (.invokevirtual 297, 3) := by decide +kernel
theorem dX7_shortest_33 : decode cX7_shortest 33 = .ok (.ifCond .ne 9, 3) := by decide +kernel
theorem dX7_shortest_36 : decode cX7_shortest 36 = .ok (.aload_n 0, 1) := by decide +kernel
theorem dX7_shortest_37 : decode cX7_shortest 37 = .ok (.iconst 3, 1) := by decide +kernel
theorem dX7_shortest_38 : decode cX7_shortest 38 = .ok (.invokevirtual 68, 3) := by decide +kernel
theorem dX7_shortest_41 : decode cX7_shortest 41 = .ok (.ireturn, 1) := by decide +kernel
theorem dX7_shortest_42 : decode cX7_shortest 42 = .ok (.aload_n 0, 1) := by decide +kernel
theorem dX7_shortest_43 : decode cX7_shortest 43 = .ok (.getfield 43, 3) := by decide +kernel
theorem dX7_shortest_46 : decode cX7_shortest 46 = .ok (.aload_n 0, 1) := by decide +kernel
theorem dX7_shortest_47 : decode cX7_shortest 47 = .ok (.getfield 12, 3) := by decide +kernel
theorem dX7_shortest_50 : decode cX7_shortest 50 = .ok (.invokevirtual 304, 3) := by decide +kernel
theorem dX7_shortest_53 : decode cX7_shortest 53 = .ok (.iload_n 1, 1) := by decide +kernel
theorem dX7_shortest_54 : decode cX7_shortest 54 = .ok (.iconst (-1), 1) := by decide +kernel
theorem dX7_shortest_55 : decode cX7_shortest 55 = .ok (.if_icmp .ne 13, 3) := by decide +kernel
theorem dX7_shortest_58 : decode cX7_shortest 58 = .ok (.aload_n 0, 1) := by decide +kernel
theorem dX7_shortest_59 : decode cX7_shortest 59 = .ok (.getfield 43, 3) := by decide +kernel
theorem dX7_shortest_62 : decode cX7_shortest 62 = .ok (.getfield 307, 3) := by decide +kernel
theorem dX7_shortest_65 : decode cX7_shortest 65 = .ok (.goto 12, 3) := by decide +kernel
theorem dX7_shortest_68 : decode cX7_shortest 68 = .ok (.aload_n 0, 1) := by decide +kernel
theorem dX7_shortest_69 : decode cX7_shortest 69 = .ok (.getfield 43, 3) := by decide +kernel
theorem dX7_shortest_72 : decode cX7_shortest 72 = .ok (.getfield 310, 3) := by decide +kernel
theorem dX7_shortest_75 : decode cX7_shortest 75 = .ok (.iload_n 1, 1) := by decide +kernel
theorem dX7_shortest_76 : decode cX7_shortest 76 = .ok (.iaload, 1) := by decide +kernel
theorem dX7_shortest_77 : decode cX7_shortest 77 = .ok (.ireturn, 1) := by decide +kernel
theorem dX7_common_0 : decode cX7_common 0 = .ok (.aload_n 0, 1) := by decide +kernel
theorem dX7_common_1 : decode cX7_common 1 = .ok (.getfield 43, 3) := by decide +kernel
theorem dX7_common_4 : decode cX7_common 4 = .ok (.aload_n 0, 1) := by decide +kernel
theorem dX7_common_5 : decode cX7_common 5 = .ok (.getfield 12, 3) := by decide +kernel
theorem dX7_common_8 : decode cX7_common 8 = .ok (.invokevirtual 297, 3) := by decide +kernel
theorem dX7_common_11 : decode cX7_common 11 = .ok (.ifCond .ne 9, 3) := by decide +kernel
theorem dX7_common_14 : decode cX7_common 14 = .ok (.aload_n 0, 1) := by decide +kernel
theorem dX7_common_15 : decode cX7_common 15 = .ok (.iconst 3, 1) := by decide +kernel
theorem dX7_common_16 : decode cX7_common 16 = .ok (.invokevirtual 68, 3) := by decide +kernel
theorem dX7_common_19 : decode cX7_common 19 = .ok (.ireturn, 1) := by decide +kernel
theorem dX7_common_20 : decode cX7_common 20 = .ok (.aload_n 0, 1) := by decide +kernel
theorem dX7_common_21 : decode cX7_common 21 = .ok (.getfield 29, 3) := by decide +kernel
theorem dX7_common_24 : decode cX7_common 24 = .ok (.aload_n 0, 1) := by decide +kernel
theorem dX7_common_25 : decode cX7_common 25 = .ok (.getfield 12, 3) := by decide +kernel
theorem dX7_common_28 : decode cX7_common 28 = .ok (.invokevirtual 154, 3) := by decide +kernel
theorem dX7_common_31 : decode cX7_common 31 = .ok (.iconst 0, 1) := by decide +kernel
theorem dX7_common_32 : decode cX7_common 32 = .ok (.istore_n 1, 1) := by decide +kernel
theorem dX7_common_33 : decode cX7_common 33 = .ok (.iconst 0, 1) := by decide +kernel
theorem dX7_common_34 : decode cX7_common 34 = .ok (.istore_n 2, 1) := by decide +kernel
theorem dX7_common_35 : decode cX7_common 35 = .ok (.iload_n 2, 1) := by decide +kernel
theorem dX7_common_36 : decode cX7_common 36 = .ok (.aload_n 0, 1) := by decide +kernel
theorem dX7_common_37 : decode cX7_common 37 = .ok (.getfield 29, 3) := by decide +kernel
theorem dX7_common_40 : decode cX7_common 40 = .ok (.getfield 313, 3) := by decide +kernel
theorem dX7_common_43 : decode cX7_common 43 = .ok (.if_icmp .ge 61, 3) := by decide +kernel
theorem dX7_common_46 : decode cX7_common 46 = .ok (.aload_n 0, 1) := by decide +kernel
theorem dX7_common_47 : decode cX7_common 47 = .ok (.getfield 29, 3) := by decide +kernel
theorem dX7_common_50 : decode cX7_common 50 = .ok (.iload_n 2, 1) := by decide +kernel
theorem dX7_common_51 : decode cX7_common 51 = .ok (.invokevirtual 314, 3) := by decide +kernel
theorem dX7_common_54 : decode cX7_common 54 = .ok (.ifCond .eq 44, 3) := by decide +kernel
theorem dX7_common_57 : decode cX7_common 57 = .ok (.aload_n 0, 1) := by decide +kernel
theorem dX7_common_58 : decode cX7_common 58 = .ok (.getfield 29, 3) := by decide +kernel
theorem dX7_common_61 : decode cX7_common 61 = .ok (.iload_n 2, 1) := by decide +kernel
theorem dX7_common_62 : decode cX7_common 62 = .ok (.aload_n 0, 1) := by decide +kernel
theorem dX7_common_63 : decode cX7_common 63 = .ok (.getfield 64, 3) := by decide +kernel
theorem dX7_common_66 : decode cX7_common 66 = .ok (.aload_n 0, 1) := by decide +kernel
theorem dX7_common_67 : decode cX7_common 67 = .ok (.getfield 12, 3) := by decide +kernel
theorem dX7_common_70 : decode cX7_common 70 = .ok (.getfield 75, 3) := by decide +kernel
theorem dX7_common_73 : decode cX7_common 73 = .ok (.invokevirtual 317, 3) := by decide +kernel
theorem dX7_common_76 : decode cX7_common 76 = .ok (.iload_n 1, 1) := by decide +kernel
theorem dX7_common_77 : decode cX7_common 77 = .ok (.aload_n 0, 1) := by decide +kernel
theorem dX7_common_78 : decode cX7_common 78 = .ok (.getfield 43, 3) := by decide +kernel
theorem dX7_common_81 : decode cX7_common 81 = .ok (.aload_n 0, 1) := by decide +kernel
theorem dX7_common_82 : decode cX7_common 82 = .ok (.getfield 64, 3) := by decide +kernel
theorem dX7_common_85 : decode cX7_common 85 = .ok (.invokevirtual 321, 3) := by decide +kernel
theorem dX7_common_88 : decode cX7_common 88 = .ok (.ifCond .eq 7, 3) := by decide +kernel
theorem dX7_common_91 : decode cX7_common 91 = .ok (.iconst 1, 1) := by decide +kernel
theorem dX7_common_92 : decode cX7_common 92 = .ok (.goto 4, 3) := by decide +kernel
theorem dX7_common_95 : decode cX7_common 95 = .ok (.iconst 0, 1) := by decide +kernel
theorem dX7_common_96 : decode cX7_common 96 = .ok (.iadd, 1) := by decide +kernel
theorem dX7_common_97 : decode cX7_common 97 = .ok (.istore_n 1, 1) := by decide +kernel
theorem dX7_common_98 : decode cX7_common 98 = .ok (.iinc 2 1, 3) := by decide +kernel
theorem dX7_common_101 : decode cX7_common 101 = .ok (.goto (-66), 3) := by decide +kernel
theorem dX7_common_104 : decode cX7_common 104 = .ok (.iload_n 1, 1) := by decide +kernel
theorem dX7_common_105 : decode cX7_common 105 = .ok (.ireturn, 1) := by decide +kernel
theorem dX7_lies_0 : decode cX7_lies 0 = .ok (.aload_n 0, 1) := by decide +kernel
theorem dX7_lies_1 : decode cX7_lies 1 = .ok (.iload_n 1, 1) := by decide +kernel
theorem dX7_lies_2 : decode cX7_lies 2 = .ok (.invokevirtual 168, 3) := by decide +kernel
theorem dX7_lies_5 : decode cX7_lies 5 = .ok (.istore_n 2, 1) := by decide +kernel
theorem dX7_lies_6 : decode cX7_lies 6 = .ok (.iload_n 2, 1) := by decide +kernel
theorem dX7_lies_7 : decode cX7_lies 7 = .ok (.iconst (-1), 1) := by decide +kernel
theorem dX7_lies_8 : decode cX7_lies 8 = .ok (.if_icmp .eq 9, 3) := by decide +kernel
theorem dX7_lies_11 : decode cX7_lies 11 = .ok (.aload_n 0, 1) := by decide +kernel
theorem dX7_lies_12 : decode cX7_lies 12 = .ok (.iload_n 2, 1) := by decide +kernel
theorem dX7_lies_13 : decode cX7_lies 13 = .ok (.invokevirtual 68, 3) := by decide +kernel
theorem dX7_lies_16 : decode cX7_lies 16 = .ok (.ireturn, 1) := by decide +kernel
theorem dX7_lies_17 : decode cX7_lies 17 = .ok (.aload_n 0, 1) := by decide +kernel
theorem dX7_lies_18 : decode cX7_lies 18 = .ok (.getfield 43, 3) := by decide +kernel
theorem dX7_lies_21 : decode cX7_lies 21 = .ok (.aload_n 0, 1) := by decide +kernel
theorem dX7_lies_22 : decode cX7_lies 22 = .ok (.getfield 12, 3) := by decide +kernel
theorem dX7_lies_25 : decode cX7_lies 25 = .ok (.invokevirtual 297, 3) := by decide +kernel
theorem dX7_lies_28 : decode cX7_lies 28 = .ok (.ifCond .ne 9, 3) := by decide +kernel
theorem dX7_lies_31 : decode cX7_lies 31 = .ok (.aload_n 0, 1) := by decide +kernel
theorem dX7_lies_32 : decode cX7_lies 32 = .ok (.iconst 3, 1) := by decide +kernel
theorem dX7_lies_33 : decode cX7_lies 33 = .ok (.invokevirtual 68, 3) := by decide +kernel
theorem dX7_lies_36 : decode cX7_lies 36 = .ok (.ireturn, 1) := by decide +kernel
theorem dX7_lies_37 : decode cX7_lies 37 = .ok (.aload_n 0, 1) := by decide +kernel
theorem dX7_lies_38 : decode cX7_lies 38 = .ok (.aload_n 0, 1) := by decide +kernel
theorem dX7_lies_39 : decode cX7_lies 39 = .ok (.getfield 56, 3) := by decide +kernel
theorem dX7_lies_42 : decode cX7_lies 42 = .ok (.iload_n 1, 1) := by decide +kernel
theorem dX7_lies_43 : decode cX7_lies 43 = .ok (.aaload, 1) := by decide +kernel
theorem dX7_lies_44 : decode cX7_lies 44 = .ok (.invokevirtual 171, 3) := by decide +kernel
theorem dX7_lies_47 : decode cX7_lies 47 = .ok (.aload_n 0, 1) := by decide +kernel
theorem dX7_lies_48 : decode cX7_lies 48 = .ok (.getfield 43, 3) := by decide +kernel
theorem dX7_lies_51 : decode cX7_lies 51 = .ok (.aload_n 0, 1) := by decide +kernel
theorem dX7_lies_52 : decode cX7_lies 52 = .ok (.getfield 64, 3) := by decide +kernel
theorem dX7_lies_55 : decode cX7_lies 55 = .ok (.invokevirtual 321, 3) := by decide +kernel
theorem dX7_lies_58 : decode cX7_lies 58 = .ok (.ifCond .eq 7, 3) := by decide +kernel
theorem dX7_lies_61 : decode cX7_lies 61 = .ok (.iconst 1, 1) := by decide +kernel
theorem dX7_lies_62 : decode cX7_lies 62 = .ok (.goto 4, 3) := by decide +kernel
theorem dX7_lies_65 : decode cX7_lies 65 = .ok (.iconst 0, 1) := by decide +kernel
theorem dX7_lies_66 : decode cX7_lies 66 = .ok (.ireturn, 1) := by decide +kernel
theorem dX7_feed_0 : decode cX7_feed 0 = .ok (.iload_n 2, 1) := by decide +kernel
theorem dX7_feed_1 : decode cX7_feed 1 = .ok (.iconst 1, 1) := by decide +kernel
theorem dX7_feed_2 : decode cX7_feed 2 = .ok (.if_icmp .lt 8, 3) := by decide +kernel
theorem dX7_feed_5 : decode cX7_feed 5 = .ok (.iload_n 2, 1) := by decide +kernel
theorem dX7_feed_6 : decode cX7_feed 6 = .ok (.iconst 4, 1) := by decide +kernel
theorem dX7_feed_7 : decode cX7_feed 7 = .ok (.if_icmp .le 9, 3) := by decide +kernel
theorem dX7_feed_10 : decode cX7_feed 10 = .ok (.aload_n 0, 1) := by decide +kernel
theorem dX7_feed_11 : decode cX7_feed 11 = .ok (.iconst 0, 1) := by decide +kernel
theorem dX7_feed_12 : decode cX7_feed 12 = .ok (.invokevirtual 68, 3) := by decide +kernel
theorem dX7_feed_15 : decode cX7_feed 15 = .ok (.ireturn, 1) := by decide +kernel
theorem dX7_feed_16 : decode cX7_feed 16 = .ok (.aload_n 0, 1) := by decide +kernel
theorem dX7_feed_17 : decode cX7_feed 17 = .ok (.getfield 50, 3) := by decide +kernel
theorem dX7_feed_20 : decode cX7_feed 20 = .ok (.getfield 325, 3) := by decide +kernel
theorem dX7_feed_23 : decode cX7_feed 23 = .ok (.iload_n 2, 1) := by decide +kernel
theorem dX7_feed_24 : decode cX7_feed 24 = .ok (.iadd, 1) := by decide +kernel
theorem dX7_feed_25 : decode cX7_feed 25 = .ok (.bipush 120, 2) := by decide +kernel
theorem dX7_feed_27 : decode cX7_feed 27 = .ok (.if_icmp .le 9, 3) := by decide +kernel
theorem dX7_feed_30 : decode cX7_feed 30 = .ok (.aload_n 0, 1) := by decide +kernel
theorem dX7_feed_31 : decode cX7_feed 31 = .ok (.iconst 1, 1) := by decide +kernel
theorem dX7_feed_32 : decode cX7_feed 32 = .ok (.invokevirtual 68, 3) := by decide +kernel
theorem dX7_feed_35 : decode cX7_feed 35 = .ok (.ireturn, 1) := by decide +kernel
theorem dX7_feed_36 : decode cX7_feed 36 = .ok (.iload_n 2, 1) := by decide +kernel
theorem dX7_feed_37 : decode cX7_feed 37 = .ok (.iconst 1, 1) := by decide +kernel
theorem dX7_feed_38 : decode cX7_feed 38 = .ok (.isub, 1) := by decide +kernel
theorem dX7_feed_39 : decode cX7_feed 39 = .ok (.istore_n 3, 1) := by decide +kernel
theorem dX7_feed_40 : decode cX7_feed 40 = .ok (.iload_n 3, 1) := by decide +kernel
theorem dX7_feed_41 : decode cX7_feed 41 = .ok (.ifCond .lt 23, 3) := by decide +kernel
theorem dX7_feed_44 : decode cX7_feed 44 = .ok (.aload_n 0, 1) := by decide +kernel
theorem dX7_feed_45 : decode cX7_feed 45 = .ok (.getfield 50, 3) := by decide +kernel
theorem dX7_feed_48 : decode cX7_feed 48 = .ok (.iload_n 1, 1) := by decide +kernel
theorem dX7_feed_49 : decode cX7_feed 49 = .ok (.bipush 8, 2) := by decide +kernel
theorem dX7_feed_51 : decode cX7_feed 51 = .ok (.iload_n 3, 1) := by decide +kernel
theorem dX7_feed_52 : decode cX7_feed 52 = .ok (.imul, 1) := by decide +kernel
theorem dX7_feed_53 : decode cX7_feed 53 = .ok (.ishr, 1) := by decide +kernel
theorem dX7_feed_54 : decode cX7_feed 54 = .ok (.i2b, 1) := by decide +kernel
theorem dX7_feed_55 : decode cX7_feed 55 = .ok (.invokevirtual 328, 3) := by decide +kernel
theorem dX7_feed_58 : decode cX7_feed 58 = .ok (.iinc 3 (-1), 3) := by decide +kernel
theorem dX7_feed_61 : decode cX7_feed 61 = .ok (.goto (-21), 3) := by decide +kernel
theorem dX7_feed_64 : decode cX7_feed 64 = .ok (.aload_n 0, 1) := by decide +kernel
theorem dX7_feed_65 : decode cX7_feed 65 = .ok (.getfield 50, 3) := by decide +kernel
theorem dX7_feed_68 : decode cX7_feed 68 = .ok (.getfield 325, 3) := by decide +kernel
theorem dX7_feed_71 : decode cX7_feed 71 = .ok (.ireturn, 1) := by decide +kernel
theorem dX7_wipe_0 : decode cX7_wipe 0 = .ok (.aload_n 0, 1) := by decide +kernel
theorem dX7_wipe_1 : decode cX7_wipe 1 = .ok (.getfield 50, 3) := by decide +kernel
theorem dX7_wipe_4 : decode cX7_wipe 4 = .ok (.getfield 325, 3) := by decide +kernel
theorem dX7_wipe_7 : decode cX7_wipe 7 = .ok (.istore_n 1, 1) := by decide +kernel
theorem dX7_wipe_8 : decode cX7_wipe 8 = .ok (.aload_n 0, 1) := by decide +kernel
theorem dX7_wipe_9 : decode cX7_wipe 9 = .ok (.getfield 50, 3) := by decide +kernel
theorem dX7_wipe_12 : decode cX7_wipe 12 = .ok (.iconst 0, 1) := by decide +kernel
theorem dX7_wipe_13 : decode cX7_wipe 13 = .ok (.putfield 325, 3) := by decide +kernel
theorem dX7_wipe_16 : decode cX7_wipe 16 = .ok (.iload_n 1, 1) := by decide +kernel
theorem dX7_wipe_17 : decode cX7_wipe 17 = .ok (.ireturn, 1) := by decide +kernel
theorem dX7_text_0 : decode cX7_text 0 = .ok (.aload_n 0, 1) := by decide +kernel
theorem dX7_text_1 : decode cX7_text 1 = .ok (.getfield 19, 3) := by decide +kernel
theorem dX7_text_4 : decode cX7_text 4 = .ok (.aload_n 0, 1) := by decide +kernel
theorem dX7_text_5 : decode cX7_text 5 = .ok (.getfield 12, 3) := by decide +kernel
theorem dX7_text_8 : decode cX7_text 8 = .ok (.invokevirtual 332, 3) := by decide +kernel
theorem dX7_text_11 : decode cX7_text 11 = .ok (.aload_n 0, 1) := by decide +kernel
theorem dX7_text_12 : decode cX7_text 12 = .ok (.getfield 50, 3) := by decide +kernel
theorem dX7_text_15 : decode cX7_text 15 = .ok (.aload_n 0, 1) := by decide +kernel
theorem dX7_text_16 : decode cX7_text 16 = .ok (.getfield 19, 3) := by decide +kernel
theorem dX7_text_19 : decode cX7_text 19 = .ok (.invokevirtual 335, 3) := by decide +kernel
theorem dX7_text_22 : decode cX7_text 22 = .ok (.istore_n 1, 1) := by decide +kernel
theorem dX7_text_23 : decode cX7_text 23 = .ok (.aload_n 0, 1) := by decide +kernel
theorem dX7_text_24 : decode cX7_text 24 = .ok (.getfield 50, 3) := by decide +kernel
theorem dX7_text_27 : decode cX7_text 27 = .ok (.iconst 0, 1) := by decide +kernel
theorem dX7_text_28 : decode cX7_text 28 = .ok (.putfield 325, 3) := by decide +kernel
theorem dX7_text_31 : decode cX7_text 31 = .ok (.iload_n 1, 1) := by decide +kernel
theorem dX7_text_32 : decode cX7_text 32 = .ok (.ifCond .lt 18, 3) := by decide +kernel
theorem dX7_text_35 : decode cX7_text 35 = .ok (.aload_n 0, 1) := by decide +kernel
theorem dX7_text_36 : decode cX7_text 36 = .ok (.getfield 12, 3) := by decide +kernel
theorem dX7_text_39 : decode cX7_text 39 = .ok (.aload_n 0, 1) := by decide +kernel
theorem dX7_text_40 : decode cX7_text 40 = .ok (.getfield 19, 3) := by decide +kernel
theorem dX7_text_43 : decode cX7_text 43 = .ok (.invokevirtual 332, 3) := by decide +kernel
theorem dX7_text_46 : decode cX7_text 46 = .ok (.aload_n 0, 1) := by decide +kernel
theorem dX7_text_47 : decode cX7_text 47 = .ok (.invokevirtual 83, 3) := by decide +kernel
theorem dX7_text_50 : decode cX7_text 50 = .ok (.iload_n 1, 1) := by decide +kernel
theorem dX7_text_51 : decode cX7_text 51 = .ok (.ireturn, 1) := by decide +kernel
theorem dX7_sheet_0 : decode cX7_sheet 0 = .ok (.iload_n 1, 1) := by decide +kernel
theorem dX7_sheet_1 : decode cX7_sheet 1 = .ok (.invokestatic 338, 3) := by decide +kernel
theorem dX7_sheet_4 : decode cX7_sheet 4 = .ok (.ifCond .eq 25, 3) := by decide +kernel
theorem dX7_sheet_7 : decode cX7_sheet 7 = .ok (.iload_n 2, 1) := by decide +kernel
theorem dX7_sheet_8 : decode cX7_sheet 8 = .ok (.ifCond .eq 27, 3) := by decide +kernel
theorem dX7_sheet_11 : decode cX7_sheet 11 = .ok (.iload_n 2, 1) := by decide +kernel
theorem dX7_sheet_12 : decode cX7_sheet 12 = .ok (.bipush 8, 2) := by decide +kernel
theorem dX7_sheet_14 : decode cX7_sheet 14 = .ok (.if_icmp .eq 21, 3) := by decide +kernel
theorem dX7_sheet_17 : decode cX7_sheet 17 = .ok (.iload_n 2, 1) := by decide +kernel
theorem dX7_sheet_18 : decode cX7_sheet 18 = .ok (.bipush 16, 2) := by decide +kernel
theorem dX7_sheet_20 : decode cX7_sheet 20 = .ok (.if_icmp .eq 15, 3) := by decide +kernel
theorem dX7_sheet_23 : decode cX7_sheet 23 = .ok (.iload_n 2, 1) := by decide +kernel
theorem dX7_sheet_24 : decode cX7_sheet 24 = .ok (.bipush 64, 2) := by decide +kernel
theorem dX7_sheet_26 : decode cX7_sheet 26 = .ok (.if_icmp .eq 9, 3) := by decide +kernel
theorem dX7_sheet_29 : decode cX7_sheet 29 = .ok (.aload_n 0, 1) := by decide +kernel
theorem dX7_sheet_30 : decode cX7_sheet 30 = .ok (.iconst 0, 1) := by decide +kernel
theorem dX7_sheet_31 : decode cX7_sheet 31 = .ok (.invokevirtual 68, 3) := by decide +kernel
theorem dX7_sheet_34 : decode cX7_sheet 34 = .ok (.ireturn, 1) := by decide +kernel
theorem dX7_sheet_35 : decode cX7_sheet 35 = .ok (.iload_n 2, 1) := by decide +kernel
theorem dX7_sheet_36 : decode cX7_sheet 36 = .ok (.ifCond .eq 14, 3) := by decide +kernel
theorem dX7_sheet_39 : decode cX7_sheet 39 = .ok (.iload_n 3, 1) := by decide +kernel
theorem dX7_sheet_40 : decode cX7_sheet 40 = .ok (.ifCond .ge 10, 3) := by decide +kernel
theorem dX7_sheet_43 : decode cX7_sheet 43 = .ok (.aload_n 0, 1) := by decide +kernel
theorem dX7_sheet_44 : decode cX7_sheet 44 = .ok (.bipush 6, 2) := by decide +kernel
theorem dX7_sheet_46 : decode cX7_sheet 46 = .ok (.invokevirtual 68, 3) := by decide +kernel
theorem dX7_sheet_49 : decode cX7_sheet 49 = .ok (.ireturn, 1) := by decide +kernel
theorem dX7_sheet_50 : decode cX7_sheet 50 = .ok (.iload_n 2, 1) := by decide +kernel
theorem dX7_sheet_51 : decode cX7_sheet 51 = .ok (.ifCond .eq 15, 3) := by decide +kernel
theorem dX7_sheet_54 : decode cX7_sheet 54 = .ok (.iload_n 3, 1) := by decide +kernel
theorem dX7_sheet_55 : decode cX7_sheet 55 = .ok (.bipush 40, 2) := by decide +kernel
theorem dX7_sheet_57 : decode cX7_sheet 57 = .ok (.if_icmp .le 9, 3) := by decide +kernel
theorem dX7_sheet_60 : decode cX7_sheet 60 = .ok (.aload_n 0, 1) := by decide +kernel
theorem dX7_sheet_61 : decode cX7_sheet 61 = .ok (.iconst 0, 1) := by decide +kernel
theorem dX7_sheet_62 : decode cX7_sheet 62 = .ok (.invokevirtual 68, 3) := by decide +kernel
theorem dX7_sheet_65 : decode cX7_sheet 65 = .ok (.ireturn, 1) := by decide +kernel
theorem dX7_sheet_66 : decode cX7_sheet 66 = .ok (.aload_n 0, 1) := by decide +kernel
theorem dX7_sheet_67 : decode cX7_sheet 67 = .ok (.getfield 56, 3) := by decide +kernel
theorem dX7_sheet_70 : decode cX7_sheet 70 = .ok (.iload_n 1, 1) := by decide +kernel
theorem dX7_sheet_71 : decode cX7_sheet 71 = .ok (.aaload, 1) := by decide +kernel
theorem dX7_sheet_72 : decode cX7_sheet 72 = .ok (.iload_n 2, 1) := by decide +kernel
theorem dX7_sheet_73 : decode cX7_sheet 73 = .ok (.iload_n 2, 1) := by decide +kernel
theorem dX7_sheet_74 : decode cX7_sheet 74 = .ok (.ifCond .ne 7, 3) := by decide +kernel
theorem dX7_sheet_77 : decode cX7_sheet 77 = .ok (.iconst 0, 1) := by decide +kernel
theorem dX7_sheet_78 : decode cX7_sheet 78 = .ok (.goto 4, 3) := by decide +kernel
theorem dX7_sheet_81 : decode cX7_sheet 81 = .ok (.iload_n 3, 1) := by decide +kernel
theorem dX7_sheet_82 : decode cX7_sheet 82 = .ok (.invokevirtual 341, 3) := by decide +kernel
theorem dX7_sheet_85 : decode cX7_sheet 85 = .ok (.aload_n 0, 1) := by decide +kernel
theorem dX7_sheet_86 : decode cX7_sheet 86 = .ok (.getfield 56, 3) := by decide +kernel
theorem dX7_sheet_89 : decode cX7_sheet 89 = .ok (.iload_n 1, 1) := by decide +kernel
theorem dX7_sheet_90 : decode cX7_sheet 90 = .ok (.aaload, 1) := by decide +kernel
theorem dX7_sheet_91 : decode cX7_sheet 91 = .ok (.getfield 270, 3) := by decide +kernel
theorem dX7_sheet_94 : decode cX7_sheet 94 = .ok (.ireturn, 1) := by decide +kernel
theorem dX7_write_0 : decode cX7_write 0 = .ok (.aload_n 0, 1) := by decide +kernel
theorem dX7_write_1 : decode cX7_write 1 = .ok (.iload_n 1, 1) := by decide +kernel
theorem dX7_write_2 : decode cX7_write 2 = .ok (.invokevirtual 267, 3) := by decide +kernel
theorem dX7_write_5 : decode cX7_write 5 = .ok (.istore 5, 2) := by decide +kernel
theorem dX7_write_7 : decode cX7_write 7 = .ok (.iload 5, 2) := by decide +kernel
theorem dX7_write_9 : decode cX7_write 9 = .ok (.iconst (-1), 1) := by decide +kernel
theorem dX7_write_10 : decode cX7_write 10 = .ok (.if_icmp .eq 11, 3) := by decide +kernel
theorem dX7_write_13 : decode cX7_write 13 = .ok (.aload_n 0, 1) := by decide +kernel
theorem dX7_write_14 : decode cX7_write 14 = .ok (.iload 5, 2) := by decide +kernel
theorem dX7_write_16 : decode cX7_write 16 = .ok (.invokevirtual 68, 3) := by decide +kernel
theorem dX7_write_19 : decode cX7_write 19 = .ok (.i2l, 1) := by decide +kernel
theorem dX7_write_20 : decode cX7_write 20 = .ok (.lreturn, 1) := by decide +kernel
theorem dX7_write_21 : decode cX7_write 21 = .ok (.aload_n 0, 1) := by decide +kernel
theorem dX7_write_22 : decode cX7_write 22 = .ok (.getfield 56, 3) := by decide +kernel
theorem dX7_write_25 : decode cX7_write 25 = .ok (.iload_n 1, 1) := by decide +kernel
theorem dX7_write_26 : decode cX7_write 26 = .ok (.aaload, 1) := by decide +kernel
theorem dX7_write_27 : decode cX7_write 27 = .ok (.astore 6, 2) := by decide +kernel
theorem dX7_write_29 : decode cX7_write 29 = .ok (.iload_n 2, 1) := by decide +kernel
theorem dX7_write_30 : decode cX7_write 30 = .ok (.ifCond .lt 12, 3) := by decide +kernel
theorem dX7_write_33 : decode cX7_write 33 = .ok (.iload_n 2, 1) := by decide +kernel
theorem dX7_write_34 : decode cX7_write 34 = .ok (.aload 6, 2) := by decide +kernel
theorem dX7_write_36 : decode cX7_write 36 = .ok (.getfield 270, 3) := by decide +kernel
theorem dX7_write_39 : decode cX7_write 39 = .ok (.if_icmp .lt 10, 3) := by decide +kernel
theorem dX7_write_42 : decode cX7_write 42 = .ok (.aload_n 0, 1) := by decide +kernel
theorem dX7_write_43 : decode cX7_write 43 = .ok (.iconst 0, 1) := by decide +kernel
theorem dX7_write_44 : decode cX7_write 44 = .ok (.invokevirtual 68, 3) := by decide +kernel
theorem dX7_write_47 : decode cX7_write 47 = .ok (.i2l, 1) := by decide +kernel
theorem dX7_write_48 : decode cX7_write 48 = .ok (.lreturn, 1) := by decide +kernel
theorem dX7_write_49 : decode cX7_write 49 = .ok (.aload 6, 2) := by decide +kernel
theorem dX7_write_51 : decode cX7_write 51 = .ok (.getfield 259, 3) := by decide +kernel
theorem dX7_write_54 : decode cX7_write 54 = .ok (.iload_n 2, 1) := by decide +kernel
theorem dX7_write_55 : decode cX7_write 55 = .ok (.laload, 1) := by decide +kernel
theorem dX7_write_56 : decode cX7_write 56 = .ok (.lstore 7, 2) := by decide +kernel
theorem dX7_write_58 : decode cX7_write 58 = .ok (.aload 6, 2) := by decide +kernel
theorem dX7_write_60 : decode cX7_write 60 = .ok (.iload_n 2, 1) := by decide +kernel
theorem dX7_write_61 : decode cX7_write 61 = .ok (.lload_n 3, 1) := by decide +kernel
theorem dX7_write_62 : decode cX7_write 62 = .ok (.invokevirtual 344, 3) := by decide +kernel
theorem dX7_write_65 : decode cX7_write 65 = .ok (.lload 7, 2) := by decide +kernel
theorem dX7_write_67 : decode cX7_write 67 = .ok (.lreturn, 1) := by decide +kernel
theorem dX7_copy_0 : decode cX7_copy 0 = .ok (.iload_n 1, 1) := by decide +kernel
theorem dX7_copy_1 : decode cX7_copy 1 = .ok (.invokestatic 338, 3) := by decide +kernel
theorem dX7_copy_4 : decode cX7_copy 4 = .ok (.ifCond .eq 10, 3) := by decide +kernel
theorem dX7_copy_7 : decode cX7_copy 7 = .ok (.iload_n 3, 1) := by decide +kernel
theorem dX7_copy_8 : decode cX7_copy 8 = .ok (.invokestatic 338, 3) := by decide +kernel
theorem dX7_copy_11 : decode cX7_copy 11 = .ok (.ifCond .ne 9, 3) := by decide +kernel
theorem dX7_copy_14 : decode cX7_copy 14 = .ok (.aload_n 0, 1) := by decide +kernel
theorem dX7_copy_15 : decode cX7_copy 15 = .ok (.iconst 0, 1) := by decide +kernel
theorem dX7_copy_16 : decode cX7_copy 16 = .ok (.invokevirtual 68, 3) := by decide +kernel
theorem dX7_copy_19 : decode cX7_copy 19 = .ok (.ireturn, 1) := by decide +kernel
theorem dX7_copy_20 : decode cX7_copy 20 = .ok (.aload_n 0, 1) := by decide +kernel
theorem dX7_copy_21 : decode cX7_copy 21 = .ok (.getfield 56, 3) := by decide +kernel
theorem dX7_copy_24 : decode cX7_copy 24 = .ok (.iload_n 1, 1) := by decide +kernel
theorem dX7_copy_25 : decode cX7_copy 25 = .ok (.aaload, 1) := by decide +kernel
theorem dX7_copy_26 : decode cX7_copy 26 = .ok (.astore 6, 2) := by decide +kernel
theorem dX7_copy_28 : decode cX7_copy 28 = .ok (.aload_n 0, 1) := by decide +kernel
theorem dX7_copy_29 : decode cX7_copy 29 = .ok (.getfield 56, 3) := by decide +kernel
theorem dX7_copy_32 : decode cX7_copy 32 = .ok (.iload_n 3, 1) := by decide +kernel
theorem dX7_copy_33 : decode cX7_copy 33 = .ok (.aaload, 1) := by decide +kernel
theorem dX7_copy_34 : decode cX7_copy 34 = .ok (.astore 7, 2) := by decide +kernel
theorem dX7_copy_36 : decode cX7_copy 36 = .ok (.aload 6, 2) := by decide +kernel
theorem dX7_copy_38 : decode cX7_copy 38 = .ok (.getfield 348, 3) := by decide +kernel
theorem dX7_copy_41 : decode cX7_copy 41 = .ok (.ifCond .eq 11, 3) := by decide +kernel
theorem dX7_copy_44 : decode cX7_copy 44 = .ok (.aload 7, 2) := by decide +kernel
theorem dX7_copy_46 : decode cX7_copy 46 = .ok (.getfield 348, 3) := by decide +kernel
theorem dX7_copy_49 : decode cX7_copy 49 = .ok (.ifCond .ne 9, 3) := by decide +kernel
theorem dX7_copy_52 : decode cX7_copy 52 = .ok (.aload_n 0, 1) := by decide +kernel
theorem dX7_copy_53 : decode cX7_copy 53 = .ok (.iconst 5, 1) := by decide +kernel
theorem dX7_copy_54 : decode cX7_copy 54 = .ok (.invokevirtual 68, 3) := by decide +kernel
theorem dX7_copy_57 : decode cX7_copy 57 = .ok (.ireturn, 1) := by decide +kernel
theorem dX7_copy_58 : decode cX7_copy 58 = .ok (.aload 6, 2) := by decide +kernel
theorem dX7_copy_60 : decode cX7_copy 60 = .ok (.getfield 348, 3) := by decide +kernel
theorem dX7_copy_63 : decode cX7_copy 63 = .ok (.aload 7, 2) := by decide +kernel
theorem dX7_copy_65 : decode cX7_copy 65 = .ok (.getfield 348, 3) := by decide +kernel
theorem dX7_copy_68 : decode cX7_copy 68 = .ok (.if_icmp .eq 9, 3) := by decide +kernel
theorem dX7_copy_71 : decode cX7_copy 71 = .ok (.aload_n 0, 1) := by decide +kernel
theorem dX7_copy_72 : decode cX7_copy 72 = .ok (.iconst 2, 1) := by decide +kernel
theorem dX7_copy_73 : decode cX7_copy 73 = .ok (.invokevirtual 68, 3) := by decide +kernel
theorem dX7_copy_76 : decode cX7_copy 76 = .ok (.ireturn, 1) := by decide +kernel
theorem dX7_copy_77 : decode cX7_copy 77 = .ok (.aload 6, 2) := by decide +kernel
theorem dX7_copy_79 : decode cX7_copy 79 = .ok (.iload_n 2, 1) := by decide +kernel
theorem dX7_copy_80 : decode cX7_copy 80 = .ok (.iload 5, 2) := by decide +kernel
theorem dX7_copy_82 : decode cX7_copy 82 = .ok (.invokevirtual 351, 3) := by decide +kernel
theorem dX7_copy_85 : decode cX7_copy 85 = .ok (.ifCond .eq 15, 3) := by decide +kernel
theorem dX7_copy_88 : decode cX7_copy 88 = .ok (.aload 7, 2) := by decide +kernel
theorem dX7_copy_90 : decode cX7_copy 90 = .ok (.iload 4, 2) := by decide +kernel
theorem dX7_copy_92 : decode cX7_copy 92 = .ok (.iload 5, 2) := by decide +kernel
theorem dX7_copy_94 : decode cX7_copy 94 = .ok (.invokevirtual 351, 3) := by decide +kernel
theorem dX7_copy_97 : decode cX7_copy 97 = .ok (.ifCond .ne 9, 3) := by decide +kernel
theorem dX7_copy_100 : decode cX7_copy 100 = .ok (.aload_n 0, 1) := by decide +kernel
theorem dX7_copy_101 : decode cX7_copy 101 = .ok (.iconst 0, 1) := by decide +kernel
theorem dX7_copy_102 : decode cX7_copy 102 = .ok (.invokevirtual 68, 3) := by decide +kernel
theorem dX7_copy_105 : decode cX7_copy 105 = .ok (.ireturn, 1) := by decide +kernel
theorem dX7_copy_106 : decode cX7_copy 106 = .ok (.aload 6, 2) := by decide +kernel
theorem dX7_copy_108 : decode cX7_copy 108 = .ok (.getfield 259, 3) := by decide +kernel
theorem dX7_copy_111 : decode cX7_copy 111 = .ok (.iload_n 2, 1) := by decide +kernel
theorem dX7_copy_112 : decode cX7_copy 112 = .ok (.aload 7, 2) := by decide +kernel
theorem dX7_copy_114 : decode cX7_copy 114 = .ok (.getfield 259, 3) := by decide +kernel
theorem dX7_copy_117 : decode cX7_copy 117 = .ok (.iload 4, 2) := by decide +kernel
theorem dX7_copy_119 : decode cX7_copy 119 = .ok (.iload 5, 2) := by decide +kernel
theorem dX7_copy_121 : decode cX7_copy 121 = .ok (.invokestatic 354, 3) := by decide +kernel
theorem dX7_copy_124 : decode cX7_copy 124 = .ok (.iload 5, 2) := by decide +kernel
theorem dX7_copy_126 : decode cX7_copy 126 = .ok (.ireturn, 1) := by decide +kernel
theorem dX7_lays_0 : decode cX7_lays 0 = .ok (.aload_n 0, 1) := by decide +kernel
theorem dX7_lays_1 : decode cX7_lays 1 = .ok (.iload_n 1, 1) := by decide +kernel
theorem dX7_lays_2 : decode cX7_lays 2 = .ok (.invokevirtual 267, 3) := by decide +kernel
theorem dX7_lays_5 : decode cX7_lays 5 = .ok (.istore_n 3, 1) := by decide +kernel
theorem dX7_lays_6 : decode cX7_lays 6 = .ok (.iload_n 3, 1) := by decide +kernel
theorem dX7_lays_7 : decode cX7_lays 7 = .ok (.iconst (-1), 1) := by decide +kernel
theorem dX7_lays_8 : decode cX7_lays 8 = .ok (.if_icmp .eq 9, 3) := by decide +kernel
theorem dX7_lays_11 : decode cX7_lays 11 = .ok (.aload_n 0, 1) := by decide +kernel
theorem dX7_lays_12 : decode cX7_lays 12 = .ok (.iload_n 3, 1) := by decide +kernel
theorem dX7_lays_13 : decode cX7_lays 13 = .ok (.invokevirtual 68, 3) := by decide +kernel
theorem dX7_lays_16 : decode cX7_lays 16 = .ok (.ireturn, 1) := by decide +kernel
theorem dX7_lays_17 : decode cX7_lays 17 = .ok (.aload_n 0, 1) := by decide +kernel
theorem dX7_lays_18 : decode cX7_lays 18 = .ok (.getfield 29, 3) := by decide +kernel
theorem dX7_lays_21 : decode cX7_lays 21 = .ok (.aload_n 0, 1) := by decide +kernel
theorem dX7_lays_22 : decode cX7_lays 22 = .ok (.getfield 12, 3) := by decide +kernel
theorem dX7_lays_25 : decode cX7_lays 25 = .ok (.invokevirtual 154, 3) := by decide +kernel
theorem dX7_lays_28 : decode cX7_lays 28 = .ok (.aload_n 0, 1) := by decide +kernel
theorem dX7_lays_29 : decode cX7_lays 29 = .ok (.getfield 29, 3) := by decide +kernel
theorem dX7_lays_32 : decode cX7_lays 32 = .ok (.iload_n 2, 1) := by decide +kernel
theorem dX7_lays_33 : decode cX7_lays 33 = .ok (.invokevirtual 161, 3) := by decide +kernel
theorem dX7_lays_36 : decode cX7_lays 36 = .ok (.istore 4, 2) := by decide +kernel
theorem dX7_lays_38 : decode cX7_lays 38 = .ok (.iload 4, 2) := by decide +kernel
theorem dX7_lays_40 : decode cX7_lays 40 = .ok (.ifCond .ge 9, 3) := by decide +kernel
theorem dX7_lays_43 : decode cX7_lays 43 = .ok (.aload_n 0, 1) := by decide +kernel
theorem dX7_lays_44 : decode cX7_lays 44 = .ok (.iconst 3, 1) := by decide +kernel
theorem dX7_lays_45 : decode cX7_lays 45 = .ok (.invokevirtual 68, 3) := by decide +kernel
theorem dX7_lays_48 : decode cX7_lays 48 = .ok (.ireturn, 1) := by decide +kernel
theorem dX7_lays_49 : decode cX7_lays 49 = .ok (.aload_n 0, 1) := by decide +kernel
theorem dX7_lays_50 : decode cX7_lays 50 = .ok (.getfield 12, 3) := by decide +kernel
theorem dX7_lays_53 : decode cX7_lays 53 = .ok (.getfield 75, 3) := by decide +kernel
theorem dX7_lays_56 : decode cX7_lays 56 = .ok (.aload_n 0, 1) := by decide +kernel
theorem dX7_lays_57 : decode cX7_lays 57 = .ok (.getfield 56, 3) := by decide +kernel
theorem dX7_lays_60 : decode cX7_lays 60 = .ok (.iload_n 1, 1) := by decide +kernel
theorem dX7_lays_61 : decode cX7_lays 61 = .ok (.aaload, 1) := by decide +kernel
theorem dX7_lays_62 : decode cX7_lays 62 = .ok (.getfield 270, 3) := by decide +kernel
theorem dX7_lays_65 : decode cX7_lays 65 = .ok (.invokestatic 225, 3) := by decide +kernel
theorem dX7_lays_68 : decode cX7_lays 68 = .ok (.istore 5, 2) := by decide +kernel
theorem dX7_lays_70 : decode cX7_lays 70 = .ok (.iconst 0, 1) := by decide +kernel
theorem dX7_lays_71 : decode cX7_lays 71 = .ok (.istore 6, 2) := by decide +kernel
theorem dX7_lays_73 : decode cX7_lays 73 = .ok (.iload 6, 2) := by decide +kernel
theorem dX7_lays_75 : decode cX7_lays 75 = .ok (.iload 5, 2) := by decide +kernel
theorem dX7_lays_77 : decode cX7_lays 77 = .ok (.if_icmp .ge 32, 3) := by decide +kernel
theorem dX7_lays_80 : decode cX7_lays 80 = .ok (.aload_n 0, 1) := by decide +kernel
theorem dX7_lays_81 : decode cX7_lays 81 = .ok (.getfield 56, 3) := by decide +kernel
theorem dX7_lays_84 : decode cX7_lays 84 = .ok (.iload_n 1, 1) := by decide +kernel
theorem dX7_lays_85 : decode cX7_lays 85 = .ok (.aaload, 1) := by decide +kernel
theorem dX7_lays_86 : decode cX7_lays 86 = .ok (.iload 6, 2) := by decide +kernel
theorem dX7_lays_88 : decode cX7_lays 88 = .ok (.aload_n 0, 1) := by decide +kernel
theorem dX7_lays_89 : decode cX7_lays 89 = .ok (.getfield 29, 3) := by decide +kernel
theorem dX7_lays_92 : decode cX7_lays 92 = .ok (.iload 4, 2) := by decide +kernel
theorem dX7_lays_94 : decode cX7_lays 94 = .ok (.iload 6, 2) := by decide +kernel
theorem dX7_lays_96 : decode cX7_lays 96 = .ok (.invokevirtual 164, 3) := by decide +kernel
theorem dX7_lays_99 : decode cX7_lays 99 = .ok (.i2l, 1) := by decide +kernel
theorem dX7_lays_100 : decode cX7_lays 100 = .ok (.invokevirtual 344, 3) := by decide +kernel
theorem dX7_lays_103 : decode cX7_lays 103 = .ok (.iinc 6 1, 3) := by decide +kernel
theorem dX7_lays_106 : decode cX7_lays 106 = .ok (.goto (-33), 3) := by decide +kernel
theorem dX7_lays_109 : decode cX7_lays 109 = .ok (.iload 5, 2) := by decide +kernel
theorem dX7_lays_111 : decode cX7_lays 111 = .ok (.ireturn, 1) := by decide +kernel
theorem dX7_image_0 : decode cX7_image 0 = .ok (.aload_n 0, 1) := by decide +kernel
theorem dX7_image_1 : decode cX7_image 1 = .ok (.getfield 16, 3) := by decide +kernel
theorem dX7_image_4 : decode cX7_image 4 = .ok (.aload_n 0, 1) := by decide +kernel
theorem dX7_image_5 : decode cX7_image 5 = .ok (.getfield 12, 3) := by decide +kernel
theorem dX7_image_8 : decode cX7_image 8 = .ok (.invokevirtual 332, 3) := by decide +kernel
theorem dX7_image_11 : decode cX7_image 11 = .ok (.aload_n 0, 1) := by decide +kernel
theorem dX7_image_12 : decode cX7_image 12 = .ok (.iconst 1, 1) := by decide +kernel
theorem dX7_image_13 : decode cX7_image 13 = .ok (.putfield 22, 3) := by decide +kernel
theorem dX7_image_16 : decode cX7_image 16 = .ok (.iconst 1, 1) := by decide +kernel
theorem dX7_image_17 : decode cX7_image 17 = .ok (.ireturn, 1) := by decide +kernel
theorem dX7_undo_0 : decode cX7_undo 0 = .ok (.aload_n 0, 1) := by decide +kernel
theorem dX7_undo_1 : decode cX7_undo 1 = .ok (.getfield 22, 3) := by decide +kernel
theorem dX7_undo_4 : decode cX7_undo 4 = .ok (.ifCond .ne 9, 3) := by decide +kernel
theorem dX7_undo_7 : decode cX7_undo 7 = .ok (.aload_n 0, 1) := by decide +kernel
theorem dX7_undo_8 : decode cX7_undo 8 = .ok (.iconst 3, 1) := by decide +kernel
theorem dX7_undo_9 : decode cX7_undo 9 = .ok (.invokevirtual 68, 3) := by decide +kernel
theorem dX7_undo_12 : decode cX7_undo 12 = .ok (.ireturn, 1) := by decide +kernel
theorem dX7_undo_13 : decode cX7_undo 13 = .ok (.aload_n 0, 1) := by decide +kernel
theorem dX7_undo_14 : decode cX7_undo 14 = .ok (.getfield 12, 3) := by decide +kernel
theorem dX7_undo_17 : decode cX7_undo 17 = .ok (.aload_n 0, 1) := by decide +kernel
theorem dX7_undo_18 : decode cX7_undo 18 = .ok (.getfield 16, 3) := by decide +kernel
theorem dX7_undo_21 : decode cX7_undo 21 = .ok (.invokevirtual 332, 3) := by decide +kernel
theorem dX7_undo_24 : decode cX7_undo 24 = .ok (.aload_n 0, 1) := by decide +kernel
theorem dX7_undo_25 : decode cX7_undo 25 = .ok (.invokevirtual 83, 3) := by decide +kernel
theorem dX7_undo_28 : decode cX7_undo 28 = .ok (.aload_n 0, 1) := by decide +kernel
theorem dX7_undo_29 : decode cX7_undo 29 = .ok (.getfield 12, 3) := by decide +kernel
theorem dX7_undo_32 : decode cX7_undo 32 = .ok (.getfield 117, 3) := by decide +kernel
theorem dX7_undo_35 : decode cX7_undo 35 = .ok (.ireturn, 1) := by decide +kernel
theorem dX7_tear_0 : decode cX7_tear 0 = .ok (.aload_n 0, 1) := by decide +kernel
theorem dX7_tear_1 : decode cX7_tear 1 = .ok (.getfield 22, 3) := by decide +kernel
theorem dX7_tear_4 : decode cX7_tear 4 = .ok (.ifCond .eq 7, 3) := by decide +kernel
theorem dX7_tear_7 : decode cX7_tear 7 = .ok (.iconst 1, 1) := by decide +kernel
theorem dX7_tear_8 : decode cX7_tear 8 = .ok (.goto 4, 3) := by decide +kernel
theorem dX7_tear_11 : decode cX7_tear 11 = .ok (.iconst 0, 1) := by decide +kernel
theorem dX7_tear_12 : decode cX7_tear 12 = .ok (.istore_n 1, 1) := by decide +kernel
theorem dX7_tear_13 : decode cX7_tear 13 = .ok (.aload_n 0, 1) := by decide +kernel
theorem dX7_tear_14 : decode cX7_tear 14 = .ok (.iconst 0, 1) := by decide +kernel
theorem dX7_tear_15 : decode cX7_tear 15 = .ok (.putfield 22, 3) := by decide +kernel
theorem dX7_tear_18 : decode cX7_tear 18 = .ok (.iload_n 1, 1) := by decide +kernel
theorem dX7_tear_19 : decode cX7_tear 19 = .ok (.ireturn, 1) := by decide +kernel
theorem dX7_count_0 : decode cX7_count 0 = .ok (.iload_n 1, 1) := by decide +kernel
theorem dX7_count_1 : decode cX7_count 1 = .ok (.tableswitch 63 0 3 #[31, 39, 47, 55], 31) := by decide +kernel
theorem dX7_count_32 : decode cX7_count 32 = .ok (.aload_n 0, 1) := by decide +kernel
theorem dX7_count_33 : decode cX7_count 33 = .ok (.getfield 12, 3) := by decide +kernel
theorem dX7_count_36 : decode cX7_count 36 = .ok (.getfield 75, 3) := by decide +kernel
theorem dX7_count_39 : decode cX7_count 39 = .ok (.ireturn, 1) := by decide +kernel
theorem dX7_count_40 : decode cX7_count 40 = .ok (.aload_n 0, 1) := by decide +kernel
theorem dX7_count_41 : decode cX7_count 41 = .ok (.getfield 12, 3) := by decide +kernel
theorem dX7_count_44 : decode cX7_count 44 = .ok (.getfield 117, 3) := by decide +kernel
theorem dX7_count_47 : decode cX7_count 47 = .ok (.ireturn, 1) := by decide +kernel
theorem dX7_count_48 : decode cX7_count 48 = .ok (.aload_n 0, 1) := by decide +kernel
theorem dX7_count_49 : decode cX7_count 49 = .ok (.getfield 12, 3) := by decide +kernel
theorem dX7_count_52 : decode cX7_count 52 = .ok (.invokevirtual 102, 3) := by decide +kernel
theorem dX7_count_55 : decode cX7_count 55 = .ok (.ireturn, 1) := by decide +kernel
theorem dX7_count_56 : decode cX7_count 56 = .ok (.aload_n 0, 1) := by decide +kernel
theorem dX7_count_57 : decode cX7_count 57 = .ok (.getfield 50, 3) := by decide +kernel
theorem dX7_count_60 : decode cX7_count 60 = .ok (.getfield 325, 3) := by decide +kernel
theorem dX7_count_63 : decode cX7_count 63 = .ok (.ireturn, 1) := by decide +kernel
theorem dX7_count_64 : decode cX7_count 64 = .ok (.aload_n 0, 1) := by decide +kernel
theorem dX7_count_65 : decode cX7_count 65 = .ok (.iconst 0, 1) := by decide +kernel
theorem dX7_count_66 : decode cX7_count 66 = .ok (.invokevirtual 68, 3) := by decide +kernel
theorem dX7_count_69 : decode cX7_count 69 = .ok (.ireturn, 1) := by decide +kernel
theorem dX7_status_0 : decode cX7_status 0 = .ok (.iload_n 1, 1) := by decide +kernel
theorem dX7_status_1 : decode cX7_status 1 = .ok (.iconst (-1), 1) := by decide +kernel
theorem dX7_status_2 : decode cX7_status 2 = .ok (.if_icmp .lt 9, 3) := by decide +kernel
theorem dX7_status_5 : decode cX7_status 5 = .ok (.iload_n 1, 1) := by decide +kernel
theorem dX7_status_6 : decode cX7_status 6 = .ok (.bipush 7, 2) := by decide +kernel
theorem dX7_status_8 : decode cX7_status 8 = .ok (.if_icmp .lt 9, 3) := by decide +kernel
theorem dX7_status_11 : decode cX7_status 11 = .ok (.aload_n 0, 1) := by decide +kernel
theorem dX7_status_12 : decode cX7_status 12 = .ok (.iconst 0, 1) := by decide +kernel
theorem dX7_status_13 : decode cX7_status 13 = .ok (.invokevirtual 68, 3) := by decide +kernel
theorem dX7_status_16 : decode cX7_status 16 = .ok (.ireturn, 1) := by decide +kernel
theorem dX7_status_17 : decode cX7_status 17 = .ok (.iload_n 1, 1) := by decide +kernel
theorem dX7_status_18 : decode cX7_status 18 = .ok (.ifCond .lt 10, 3) := by decide +kernel
theorem dX7_status_21 : decode cX7_status 21 = .ok (.aload_n 0, 1) := by decide +kernel
theorem dX7_status_22 : decode cX7_status 22 = .ok (.getfield 60, 3) := by decide +kernel
theorem dX7_status_25 : decode cX7_status 25 = .ok (.iload_n 1, 1) := by decide +kernel
theorem dX7_status_26 : decode cX7_status 26 = .ok (.iaload, 1) := by decide +kernel
theorem dX7_status_27 : decode cX7_status 27 = .ok (.ireturn, 1) := by decide +kernel
theorem dX7_status_28 : decode cX7_status 28 = .ok (.iconst 0, 1) := by decide +kernel
theorem dX7_status_29 : decode cX7_status 29 = .ok (.istore_n 2, 1) := by decide +kernel
theorem dX7_status_30 : decode cX7_status 30 = .ok (.iconst 0, 1) := by decide +kernel
theorem dX7_status_31 : decode cX7_status 31 = .ok (.istore_n 3, 1) := by decide +kernel
theorem dX7_status_32 : decode cX7_status 32 = .ok (.iload_n 3, 1) := by decide +kernel
theorem dX7_status_33 : decode cX7_status 33 = .ok (.bipush 7, 2) := by decide +kernel
theorem dX7_status_35 : decode cX7_status 35 = .ok (.if_icmp .ge 18, 3) := by decide +kernel
theorem dX7_status_38 : decode cX7_status 38 = .ok (.iload_n 2, 1) := by decide +kernel
theorem dX7_status_39 : decode cX7_status 39 = .ok (.aload_n 0, 1) := by decide +kernel
theorem dX7_status_40 : decode cX7_status 40 = .ok (.getfield 60, 3) := by decide +kernel
theorem dX7_status_43 : decode cX7_status 43 = .ok (.iload_n 3, 1) := by decide +kernel
theorem dX7_status_44 : decode cX7_status 44 = .ok (.iaload, 1) := by decide +kernel
theorem dX7_status_45 : decode cX7_status 45 = .ok (.iadd, 1) := by decide +kernel
theorem dX7_status_46 : decode cX7_status 46 = .ok (.istore_n 2, 1) := by decide +kernel
theorem dX7_status_47 : decode cX7_status 47 = .ok (.iinc 3 1, 3) := by decide +kernel
theorem dX7_status_50 : decode cX7_status 50 = .ok (.goto (-18), 3) := by decide +kernel
theorem dX7_status_53 : decode cX7_status 53 = .ok (.iload_n 2, 1) := by decide +kernel
theorem dX7_status_54 : decode cX7_status 54 = .ok (.ireturn, 1) := by decide +kernel
theorem dX7_finding_0 : decode cX7_finding 0 = .ok (.iload_n 1, 1) := by decide +kernel
theorem dX7_finding_1 : decode cX7_finding 1 = .ok (.ifCond .lt 19, 3) := by decide +kernel
theorem dX7_finding_4 : decode cX7_finding 4 = .ok (.iload_n 1, 1) := by decide +kernel
theorem dX7_finding_5 : decode cX7_finding 5 = .ok (.bipush 7, 2) := by decide +kernel
theorem dX7_finding_7 : decode cX7_finding 7 = .ok (.if_icmp .ge 13, 3) := by decide +kernel
theorem dX7_finding_10 : decode cX7_finding 10 = .ok (.aload_n 0, 1) := by decide +kernel
theorem dX7_finding_11 : decode cX7_finding 11 = .ok (.getfield 60, 3) := by decide +kernel
theorem dX7_finding_14 : decode cX7_finding 14 = .ok (.iload_n 1, 1) := by decide +kernel
theorem dX7_finding_15 : decode cX7_finding 15 = .ok (.dup2, 1) := by decide +kernel
theorem dX7_finding_16 : decode cX7_finding 16 = .ok (.iaload, 1) := by decide +kernel
theorem dX7_finding_17 : decode cX7_finding 17 = .ok (.iconst 1, 1) := by decide +kernel
theorem dX7_finding_18 : decode cX7_finding 18 = .ok (.iadd, 1) := by decide +kernel
theorem dX7_finding_19 : decode cX7_finding 19 = .ok (.iastore, 1) := by decide +kernel
theorem dX7_finding_20 : decode cX7_finding 20 = .ok (.ldc_w 360, 3) := by decide +kernel
theorem dX7_finding_23 : decode cX7_finding 23 = .ok (.iload_n 1, 1) := by decide +kernel
theorem dX7_finding_24 : decode cX7_finding 24 = .ok (.isub, 1) := by decide +kernel
theorem dX7_finding_25 : decode cX7_finding 25 = .ok (.ireturn, 1) := by decide +kernel
