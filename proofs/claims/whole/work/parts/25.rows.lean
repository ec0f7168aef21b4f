theorem dX8_clears_11 : decode cX8_clears 11 = .ok (.getfield 55, 3) := by decide +kernel
theorem dX8_clears_14 : decode cX8_clears 14 = .ok (.iconst 4, 1) := by decide +kernel
theorem dX8_clears_15 : decode cX8_clears 15 = .ok (.iload_n 2, 1) := by decide +kernel
theorem dX8_clears_16 : decode cX8_clears 16 = .ok (.imul, 1) := by decide +kernel
theorem dX8_clears_17 : decode cX8_clears 17 = .ok (.iload_n 1, 1) := by decide +kernel
theorem dX8_clears_18 : decode cX8_clears 18 = .ok (.iadd, 1) := by decide +kernel
theorem dX8_clears_19 : decode cX8_clears 19 = .ok (.iaload, 1) := by decide +kernel
theorem dX8_clears_20 : decode cX8_clears 20 = .ok (.ifCond .eq 22, 3) := by decide +kernel
theorem dX8_clears_23 : decode cX8_clears 23 = .ok (.aload_n 0, 1) := by decide +kernel
theorem dX8_clears_24 : decode cX8_clears 24 = .ok (.getfield 55, 3) := by decide +kernel
theorem dX8_clears_27 : decode cX8_clears 27 = .ok (.iconst 4, 1) := by decide +kernel
theorem dX8_clears_28 : decode cX8_clears 28 = .ok (.iload_n 1, 1) := by decide +kernel
theorem dX8_clears_29 : decode cX8_clears 29 = .ok (.imul, 1) := by decide +kernel
theorem dX8_clears_30 : decode cX8_clears 30 = .ok (.iload_n 1, 1) := by decide +kernel
theorem dX8_clears_31 : decode cX8_clears 31 = .ok (.iadd, 1) := by decide +kernel
theorem dX8_clears_32 : decode cX8_clears 32 = .ok (.iaload, 1) := by decide +kernel
theorem dX8_clears_33 : decode cX8_clears 33 = .ok (.ifCond .ne 9, 3) := by decide +kernel
theorem dX8_clears_36 : decode cX8_clears 36 = .ok (.aload_n 0, 1) := by decide +kernel
theorem dX8_clears_37 : decode cX8_clears 37 = .ok (.iload_n 1, 1) := by decide +kernel
theorem dX8_clears_38 : decode cX8_clears 38 = .ok (.iload_n 2, 1) := by decide +kernel
theorem dX8_clears_39 : decode cX8_clears 39 = .ok (.invokevirtual 283, 3) := by decide +kernel
theorem dX8_clears_42 : decode cX8_clears 42 = .ok (.iinc 2 1, 3) := by decide +kernel
theorem dX8_clears_45 : decode cX8_clears 45 = .ok (.goto (-43), 3) := by decide +kernel
theorem dX8_clears_48 : decode cX8_clears 48 = .ok (.aload_n 0, 1) := by decide +kernel
theorem dX8_clears_49 : decode cX8_clears 49 = .ok (.getfield 55, 3) := by decide +kernel
theorem dX8_clears_52 : decode cX8_clears 52 = .ok (.iconst 5, 1) := by decide +kernel
theorem dX8_clears_53 : decode cX8_clears 53 = .ok (.iload_n 1, 1) := by decide +kernel
theorem dX8_clears_54 : decode cX8_clears 54 = .ok (.imul, 1) := by decide +kernel
theorem dX8_clears_55 : decode cX8_clears 55 = .ok (.iaload, 1) := by decide +kernel
theorem dX8_clears_56 : decode cX8_clears 56 = .ok (.ifCond .ne 5, 3) := by decide +kernel
theorem dX8_clears_59 : decode cX8_clears 59 = .ok (.iconst 0, 1) := by decide +kernel
theorem dX8_clears_60 : decode cX8_clears 60 = .ok (.ireturn, 1) := by decide +kernel
theorem dX8_clears_61 : decode cX8_clears 61 = .ok (.iload_n 1, 1) := by decide +kernel
theorem dX8_clears_62 : decode cX8_clears 62 = .ok (.iconst 1, 1) := by decide +kernel
theorem dX8_clears_63 : decode cX8_clears 63 = .ok (.iadd, 1) := by decide +kernel
theorem dX8_clears_64 : decode cX8_clears 64 = .ok (.istore_n 2, 1) := by decide +kernel
theorem dX8_clears_65 : decode cX8_clears 65 = .ok (.iload_n 2, 1) := by decide +kernel
theorem dX8_clears_66 : decode cX8_clears 66 = .ok (.aload_n 0, 1) := by decide +kernel
theorem dX8_clears_67 : decode cX8_clears 67 = .ok (.getfield 13, 3) := by decide +kernel
theorem dX8_clears_70 : decode cX8_clears 70 = .ok (.if_icmp .ge 58, 3) := by decide +kernel
theorem dX8_clears_73 : decode cX8_clears 73 = .ok (.aload_n 0, 1) := by decide +kernel
theorem dX8_clears_74 : decode cX8_clears 74 = .ok (.getfield 55, 3) := by decide +kernel
theorem dX8_clears_77 : decode cX8_clears 77 = .ok (.iconst 4, 1) := by decide +kernel
theorem dX8_clears_78 : decode cX8_clears 78 = .ok (.iload_n 2, 1) := by decide +kernel
theorem dX8_clears_79 : decode cX8_clears 79 = .ok (.imul, 1) := by decide +kernel
theorem dX8_clears_80 : decode cX8_clears 80 = .ok (.iload_n 1, 1) := by decide +kernel
theorem dX8_clears_81 : decode cX8_clears 81 = .ok (.iadd, 1) := by decide +kernel
theorem dX8_clears_82 : decode cX8_clears 82 = .ok (.iaload, 1) := by decide +kernel
theorem dX8_clears_83 : decode cX8_clears 83 = .ok (.ifCond .eq 39, 3) := by decide +kernel
theorem dX8_clears_86 : decode cX8_clears 86 = .ok (.aload_n 0, 1) := by decide +kernel
theorem dX8_clears_87 : decode cX8_clears 87 = .ok (.iload_n 1, 1) := by decide +kernel
theorem dX8_clears_88 : decode cX8_clears 88 = .ok (.iload_n 2, 1) := by decide +kernel
theorem dX8_clears_89 : decode cX8_clears 89 = .ok (.aload_n 0, 1) := by decide +kernel
theorem dX8_clears_90 : decode cX8_clears 90 = .ok (.getfield 55, 3) := by decide +kernel
theorem dX8_clears_93 : decode cX8_clears 93 = .ok (.iconst 4, 1) := by decide +kernel
theorem dX8_clears_94 : decode cX8_clears 94 = .ok (.iload_n 1, 1) := by decide +kernel
theorem dX8_clears_95 : decode cX8_clears 95 = .ok (.imul, 1) := by decide +kernel
theorem dX8_clears_96 : decode cX8_clears 96 = .ok (.iload_n 1, 1) := by decide +kernel
theorem dX8_clears_97 : decode cX8_clears 97 = .ok (.iadd, 1) := by decide +kernel
theorem dX8_clears_98 : decode cX8_clears 98 = .ok (.iaload, 1) := by decide +kernel
theorem dX8_clears_99 : decode cX8_clears 99 = .ok (.aload_n 0, 1) := by decide +kernel
theorem dX8_clears_100 : decode cX8_clears 100 = .ok (.getfield 55, 3) := by decide +kernel
theorem dX8_clears_103 : decode cX8_clears 103 = .ok (.iconst 4, 1) := by decide +kernel
theorem dX8_clears_104 : decode cX8_clears 104 = .ok (.iload_n 2, 1) := by decide +kernel
theorem dX8_clears_105 : decode cX8_clears 105 = .ok (.imul, 1) := by decide +kernel
theorem dX8_clears_106 : decode cX8_clears 106 = .ok (.iload_n 1, 1) := by decide +kernel
theorem dX8_clears_107 : decode cX8_clears 107 = .ok (.iadd, 1) := by decide +kernel
theorem dX8_clears_108 : decode cX8_clears 108 = .ok (.iaload, 1) := by decide +kernel
theorem dX8_clears_109 : decode cX8_clears 109 = .ok (.idiv, 1) := by decide +kernel
theorem dX8_clears_110 : decode cX8_clears 110 = .ok (.invokevirtual 286, 3) := by decide +kernel
theorem dX8_clears_113 : decode cX8_clears 113 = .ok (.aload_n 0, 1) := by decide +kernel
theorem dX8_clears_114 : decode cX8_clears 114 = .ok (.iload_n 1, 1) := by decide +kernel
theorem dX8_clears_115 : decode cX8_clears 115 = .ok (.iload_n 2, 1) := by decide +kernel
theorem dX8_clears_116 : decode cX8_clears 116 = .ok (.invokevirtual 283, 3) := by decide +kernel
theorem dX8_clears_119 : decode cX8_clears 119 = .ok (.goto (-46), 3) := by decide +kernel
theorem dX8_clears_122 : decode cX8_clears 122 = .ok (.iinc 2 1, 3) := by decide +kernel
theorem dX8_clears_125 : decode cX8_clears 125 = .ok (.goto (-60), 3) := by decide +kernel
theorem dX8_clears_128 : decode cX8_clears 128 = .ok (.iconst 1, 1) := by decide +kernel
theorem dX8_clears_129 : decode cX8_clears 129 = .ok (.ireturn, 1) := by decide +kernel
theorem dX8_forms_0 : decode cX8_forms 0 = .ok (.iconst 0, 1) := by decide +kernel
theorem dX8_forms_1 : decode cX8_forms 1 = .ok (.istore_n 1, 1) := by decide +kernel
theorem dX8_forms_2 : decode cX8_forms 2 = .ok (.iload_n 1, 1) := by decide +kernel
theorem dX8_forms_3 : decode cX8_forms 3 = .ok (.bipush 16, 2) := by decide +kernel
theorem dX8_forms_5 : decode cX8_forms 5 = .ok (.if_icmp .ge 21, 3) := by decide +kernel
theorem dX8_forms_8 : decode cX8_forms 8 = .ok (.aload_n 0, 1) := by decide +kernel
theorem dX8_forms_9 : decode cX8_forms 9 = .ok (.getfield 55, 3) := by decide +kernel
theorem dX8_forms_12 : decode cX8_forms 12 = .ok (.iload_n 1, 1) := by decide +kernel
theorem dX8_forms_13 : decode cX8_forms 13 = .ok (.aload_n 0, 1) := by decide +kernel
theorem dX8_forms_14 : decode cX8_forms 14 = .ok (.getfield 26, 3) := by decide +kernel
theorem dX8_forms_17 : decode cX8_forms 17 = .ok (.iload_n 1, 1) := by decide +kernel
theorem dX8_forms_18 : decode cX8_forms 18 = .ok (.iaload, 1) := by decide +kernel
theorem dX8_forms_19 : decode cX8_forms 19 = .ok (.iastore, 1) := by decide +kernel
theorem dX8_forms_20 : decode cX8_forms 20 = .ok (.iinc 1 1, 3) := by decide +kernel
theorem dX8_forms_23 : decode cX8_forms 23 = .ok (.goto (-21), 3) := by decide +kernel
theorem dX8_forms_26 : decode cX8_forms 26 = .ok (.aload_n 0, 1) := by decide +kernel
theorem dX8_forms_27 : decode cX8_forms 27 = .ok (.iconst 1, 1) := by decide +kernel
theorem dX8_forms_28 : decode cX8_forms 28 = .ok (.putfield 280, 3) := by decide +kernel
theorem dX8_forms_31 : decode cX8_forms 31 = .ok (.iconst 1, 1) := by decide +kernel
theorem dX8_forms_32 : decode cX8_forms 32 = .ok (.istore_n 1, 1) := by decide +kernel
theorem dX8_forms_33 : decode cX8_forms 33 = .ok (.iconst 0, 1) := by decide +kernel
theorem dX8_forms_34 : decode cX8_forms 34 = .ok (.istore_n 2, 1) := by decide +kernel
theorem dX8_forms_35 : decode cX8_forms 35 = .ok (.iload_n 2, 1) := by decide +kernel
theorem dX8_forms_36 : decode cX8_forms 36 = .ok (.aload_n 0, 1) := by decide +kernel
theorem dX8_forms_37 : decode cX8_forms 37 = .ok (.getfield 13, 3) := by decide +kernel
theorem dX8_forms_40 : decode cX8_forms 40 = .ok (.if_icmp .ge 128, 3) := by decide +kernel
theorem dX8_forms_43 : decode cX8_forms 43 = .ok (.aload_n 0, 1) := by decide +kernel
theorem dX8_forms_44 : decode cX8_forms 44 = .ok (.iload_n 2, 1) := by decide +kernel
theorem dX8_forms_45 : decode cX8_forms 45 = .ok (.invokevirtual 289, 3) := by decide +kernel
theorem dX8_forms_48 : decode cX8_forms 48 = .ok (.ifCond .ne 5, 3) := by decide +kernel
theorem dX8_forms_51 : decode cX8_forms 51 = .ok (.iconst 0, 1) := by decide +kernel
theorem dX8_forms_52 : decode cX8_forms 52 = .ok (.ireturn, 1) := by decide +kernel
theorem dX8_forms_53 : decode cX8_forms 53 = .ok (.aload_n 0, 1) := by decide +kernel
theorem dX8_forms_54 : decode cX8_forms 54 = .ok (.getfield 55, 3) := by decide +kernel
theorem dX8_forms_57 : decode cX8_forms 57 = .ok (.iconst 5, 1) := by decide +kernel
theorem dX8_forms_58 : decode cX8_forms 58 = .ok (.iload_n 2, 1) := by decide +kernel
theorem dX8_forms_59 : decode cX8_forms 59 = .ok (.imul, 1) := by decide +kernel
theorem dX8_forms_60 : decode cX8_forms 60 = .ok (.iaload, 1) := by decide +kernel
theorem dX8_forms_61 : decode cX8_forms 61 = .ok (.ifCond .ge 19, 3) := by decide +kernel
theorem dX8_forms_64 : decode cX8_forms 64 = .ok (.aload_n 0, 1) := by decide +kernel
theorem dX8_forms_65 : decode cX8_forms 65 = .ok (.iload_n 2, 1) := by decide +kernel
theorem dX8_forms_66 : decode cX8_forms 66 = .ok (.iload_n 2, 1) := by decide +kernel
theorem dX8_forms_67 : decode cX8_forms 67 = .ok (.iconst 2, 1) := by decide +kernel
theorem dX8_forms_68 : decode cX8_forms 68 = .ok (.invokevirtual 286, 3) := by decide +kernel
theorem dX8_forms_71 : decode cX8_forms 71 = .ok (.aload_n 0, 1) := by decide +kernel
theorem dX8_forms_72 : decode cX8_forms 72 = .ok (.aload_n 0, 1) := by decide +kernel
theorem dX8_forms_73 : decode cX8_forms 73 = .ok (.getfield 280, 3) := by decide +kernel
theorem dX8_forms_76 : decode cX8_forms 76 = .ok (.ineg, 1) := by decide +kernel
theorem dX8_forms_77 : decode cX8_forms 77 = .ok (.putfield 280, 3) := by decide +kernel
theorem dX8_forms_80 : decode cX8_forms 80 = .ok (.iload_n 1, 1) := by decide +kernel
theorem dX8_forms_81 : decode cX8_forms 81 = .ok (.aload_n 0, 1) := by decide +kernel
theorem dX8_forms_82 : decode cX8_forms 82 = .ok (.getfield 55, 3) := by decide +kernel
theorem dX8_forms_85 : decode cX8_forms 85 = .ok (.iconst 5, 1) := by decide +kernel
theorem dX8_forms_86 : decode cX8_forms 86 = .ok (.iload_n 2, 1) := by decide +kernel
theorem dX8_forms_87 : decode cX8_forms 87 = .ok (.imul, 1) := by decide +kernel
theorem dX8_forms_88 : decode cX8_forms 88 = .ok (.iaload, 1) := by decide +kernel
theorem dX8_forms_89 : decode cX8_forms 89 = .ok (.imul, 1) := by decide +kernel
theorem dX8_forms_90 : decode cX8_forms 90 = .ok (.istore_n 1, 1) := by decide +kernel
theorem dX8_forms_91 : decode cX8_forms 91 = .ok (.iconst 0, 1) := by decide +kernel
theorem dX8_forms_92 : decode cX8_forms 92 = .ok (.istore_n 3, 1) := by decide +kernel
theorem dX8_forms_93 : decode cX8_forms 93 = .ok (.iload_n 3, 1) := by decide +kernel
theorem dX8_forms_94 : decode cX8_forms 94 = .ok (.iload_n 2, 1) := by decide +kernel
theorem dX8_forms_95 : decode cX8_forms 95 = .ok (.if_icmp .ge 67, 3) := by decide +kernel
theorem dX8_forms_98 : decode cX8_forms 98 = .ok (.aload_n 0, 1) := by decide +kernel
theorem dX8_forms_99 : decode cX8_forms 99 = .ok (.getfield 55, 3) := by decide +kernel
theorem dX8_forms_102 : decode cX8_forms 102 = .ok (.iconst 4, 1) := by decide +kernel
theorem dX8_forms_103 : decode cX8_forms 103 = .ok (.iload_n 3, 1) := by decide +kernel
theorem dX8_forms_104 : decode cX8_forms 104 = .ok (.imul, 1) := by decide +kernel
theorem dX8_forms_105 : decode cX8_forms 105 = .ok (.iload_n 2, 1) := by decide +kernel
theorem dX8_forms_106 : decode cX8_forms 106 = .ok (.iadd, 1) := by decide +kernel
theorem dX8_forms_107 : decode cX8_forms 107 = .ok (.iaload, 1) := by decide +kernel
theorem dX8_forms_108 : decode cX8_forms 108 = .ok (.aload_n 0, 1) := by decide +kernel
theorem dX8_forms_109 : decode cX8_forms 109 = .ok (.getfield 55, 3) := by decide +kernel
theorem dX8_forms_112 : decode cX8_forms 112 = .ok (.iconst 5, 1) := by decide +kernel
theorem dX8_forms_113 : decode cX8_forms 113 = .ok (.iload_n 2, 1) := by decide +kernel
theorem dX8_forms_114 : decode cX8_forms 114 = .ok (.imul, 1) := by decide +kernel
theorem dX8_forms_115 : decode cX8_forms 115 = .ok (.iaload, 1) := by decide +kernel
theorem dX8_forms_116 : decode cX8_forms 116 = .ok (.idiv, 1) := by decide +kernel
theorem dX8_forms_117 : decode cX8_forms 117 = .ok (.istore 4, 2) := by decide +kernel
theorem dX8_forms_119 : decode cX8_forms 119 = .ok (.aload_n 0, 1) := by decide +kernel
theorem dX8_forms_120 : decode cX8_forms 120 = .ok (.iload_n 3, 1) := by decide +kernel
theorem dX8_forms_121 : decode cX8_forms 121 = .ok (.iload_n 2, 1) := by decide +kernel
theorem dX8_forms_122 : decode cX8_forms 122 = .ok (.aload_n 0, 1) := by decide +kernel
theorem dX8_forms_123 : decode cX8_forms 123 = .ok (.getfield 55, 3) := by decide +kernel
theorem dX8_forms_126 : decode cX8_forms 126 = .ok (.iconst 4, 1) := by decide +kernel
theorem dX8_forms_127 : decode cX8_forms 127 = .ok (.iload_n 3, 1) := by decide +kernel
theorem dX8_forms_128 : decode cX8_forms 128 = .ok (.imul, 1) := by decide +kernel
theorem dX8_forms_129 : decode cX8_forms 129 = .ok (.iload_n 2, 1) := by decide +kernel
theorem dX8_forms_130 : decode cX8_forms 130 = .ok (.iadd, 1) := by decide +kernel
theorem dX8_forms_131 : decode cX8_forms 131 = .ok (.iaload, 1) := by decide +kernel
theorem dX8_forms_132 : decode cX8_forms 132 = .ok (.aload_n 0, 1) := by decide +kernel
theorem dX8_forms_133 : decode cX8_forms 133 = .ok (.getfield 55, 3) := by decide +kernel
theorem dX8_forms_136 : decode cX8_forms 136 = .ok (.iconst 5, 1) := by decide +kernel
theorem dX8_forms_137 : decode cX8_forms 137 = .ok (.iload_n 2, 1) := by decide +kernel
theorem dX8_forms_138 : decode cX8_forms 138 = .ok (.imul, 1) := by decide +kernel
theorem dX8_forms_139 : decode cX8_forms 139 = .ok (.iaload, 1) := by decide +kernel
theorem dX8_forms_140 : decode cX8_forms 140 = .ok (.irem, 1) := by decide +kernel
theorem dX8_forms_141 : decode cX8_forms 141 = .ok (.ifCond .ge 10, 3) := by decide +kernel
theorem dX8_forms_144 : decode cX8_forms 144 = .ok (.iload 4, 2) := by decide +kernel
theorem dX8_forms_146 : decode cX8_forms 146 = .ok (.iconst 1, 1) := by decide +kernel
theorem dX8_forms_147 : decode cX8_forms 147 = .ok (.isub, 1) := by decide +kernel
theorem dX8_forms_148 : decode cX8_forms 148 = .ok (.goto 5, 3) := by decide +kernel
theorem dX8_forms_151 : decode cX8_forms 151 = .ok (.iload 4, 2) := by decide +kernel
theorem dX8_forms_153 : decode cX8_forms 153 = .ok (.invokevirtual 286, 3) := by decide +kernel
theorem dX8_forms_156 : decode cX8_forms 156 = .ok (.iinc 3 1, 3) := by decide +kernel
theorem dX8_forms_159 : decode cX8_forms 159 = .ok (.goto (-66), 3) := by decide +kernel
theorem dX8_forms_162 : decode cX8_forms 162 = .ok (.iinc 2 1, 3) := by decide +kernel
theorem dX8_forms_165 : decode cX8_forms 165 = .ok (.goto (-130), 3) := by decide +kernel
theorem dX8_forms_168 : decode cX8_forms 168 = .ok (.aload_n 0, 1) := by decide +kernel
theorem dX8_forms_169 : decode cX8_forms 169 = .ok (.getfield 280, 3) := by decide +kernel
theorem dX8_forms_172 : decode cX8_forms 172 = .ok (.iload_n 1, 1) := by decide +kernel
theorem dX8_forms_173 : decode cX8_forms 173 = .ok (.imul, 1) := by decide +kernel
theorem dX8_forms_174 : decode cX8_forms 174 = .ok (.ireturn, 1) := by decide +kernel
theorem dX8_det_0 : decode cX8_det 0 = .ok (.aload_n 0, 1) := by decide +kernel
theorem dX8_det_1 : decode cX8_det 1 = .ok (.invokevirtual 292, 3) := by decide +kernel
theorem dX8_det_4 : decode cX8_det 4 = .ok (.ireturn, 1) := by decide +kernel
theorem dX8_form_0 : decode cX8_form 0 = .ok (.aload_n 0, 1) := by decide +kernel
theorem dX8_form_1 : decode cX8_form 1 = .ok (.iload_n 1, 1) := by decide +kernel
theorem dX8_form_2 : decode cX8_form 2 = .ok (.invokevirtual 115, 3) := by decide +kernel
theorem dX8_form_5 : decode cX8_form 5 = .ok (.ifCond .eq 11, 3) := by decide +kernel
theorem dX8_form_8 : decode cX8_form 8 = .ok (.aload_n 0, 1) := by decide +kernel
theorem dX8_form_9 : decode cX8_form 9 = .ok (.iload_n 2, 1) := by decide +kernel
theorem dX8_form_10 : decode cX8_form 10 = .ok (.invokevirtual 115, 3) := by decide +kernel
theorem dX8_form_13 : decode cX8_form 13 = .ok (.ifCond .ne 10, 3) := by decide +kernel
theorem dX8_form_16 : decode cX8_form 16 = .ok (.aload_n 0, 1) := by decide +kernel
theorem dX8_form_17 : decode cX8_form 17 = .ok (.ldc 92, 2) := by decide +kernel
theorem dX8_form_19 : decode cX8_form 19 = .ok (.invokevirtual 102, 3) := by decide +kernel
theorem dX8_form_22 : decode cX8_form 22 = .ok (.ireturn, 1) := by decide +kernel
theorem dX8_form_23 : decode cX8_form 23 = .ok (.aload_n 0, 1) := by decide +kernel
theorem dX8_form_24 : decode cX8_form 24 = .ok (.invokevirtual 292, 3) := by decide +kernel
theorem dX8_form_27 : decode cX8_form 27 = .ok (.ifCond .ne 12, 3) := by decide +kernel
theorem dX8_form_30 : decode cX8_form 30 = .ok (.aload_n 0, 1) := by decide +kernel
theorem dX8_form_31 : decode cX8_form 31 = .ok (.ldc 167, 2) := by decide +kernel
theorem dX8_form_33 : decode cX8_form 33 = .ok (.invokevirtual 102, 3) := by decide +kernel
theorem dX8_form_36 : decode cX8_form 36 = .ok (.goto 13, 3) := by decide +kernel
theorem dX8_form_39 : decode cX8_form 39 = .ok (.aload_n 0, 1) := by decide +kernel
theorem dX8_form_40 : decode cX8_form 40 = .ok (.getfield 55, 3) := by decide +kernel
theorem dX8_form_43 : decode cX8_form 43 = .ok (.iconst 4, 1) := by decide +kernel
theorem dX8_form_44 : decode cX8_form 44 = .ok (.iload_n 1, 1) := by decide +kernel
theorem dX8_form_45 : decode cX8_form 45 = .ok (.imul, 1) := by decide +kernel
theorem dX8_form_46 : decode cX8_form 46 = .ok (.iload_n 2, 1) := by decide +kernel
theorem dX8_form_47 : decode cX8_form 47 = .ok (.iadd, 1) := by decide +kernel
theorem dX8_form_48 : decode cX8_form 48 = .ok (.iaload, 1) := by decide +kernel
theorem dX8_form_49 : decode cX8_form 49 = .ok (.ireturn, 1) := by decide +kernel
theorem dX8_isInLattice_0 : decode cX8_isInLattice 0 = .ok (.iconst 0, 1) := by decide +kernel
theorem dX8_isInLattice_1 : decode cX8_isInLattice 1 = .ok (.istore_n 1, 1) := by decide +kernel
theorem dX8_isInLattice_2 : decode cX8_isInLattice 2 = .ok (.iload_n 1, 1) := by decide +kernel
theorem dX8_isInLattice_3 : decode cX8_isInLattice 3 = .ok (.aload_n 0, 1) := by decide +kernel
theorem dX8_isInLattice_4 : decode cX8_isInLattice 4 = .ok (.getfield 13, 3) := by decide +kernel
theorem dX8_isInLattice_7 : decode cX8_isInLattice 7 = .ok (.if_icmp .ge 21, 3) := by decide +kernel
theorem dX8_isInLattice_10 : decode cX8_isInLattice 10 = .ok (.aload_n 0, 1) := by decide +kernel
theorem dX8_isInLattice_11 : decode cX8_isInLattice 11 = .ok (.getfield 58, 3) := by decide +kernel
theorem dX8_isInLattice_14 : decode cX8_isInLattice 14 = .ok (.iload_n 1, 1) := by decide +kernel
theorem dX8_isInLattice_15 : decode cX8_isInLattice 15 = .ok (.aload_n 0, 1) := by decide +kernel
theorem dX8_isInLattice_16 : decode cX8_isInLattice 16 = .ok (.getfield 32, 3) := by decide +kernel
theorem dX8_isInLattice_19 : decode cX8_isInLattice 19 = .ok (.iload_n 1, 1) := by decide +kernel
theorem dX8_isInLattice_20 : decode cX8_isInLattice 20 = .ok (.laload, 1) := by decide +kernel
theorem dX8_isInLattice_21 : decode cX8_isInLattice 21 = .ok (.lastore, 1) := by decide +kernel
theorem dX8_isInLattice_22 : decode cX8_isInLattice 22 = .ok (.iinc 1 1, 3) := by decide +kernel
theorem dX8_isInLattice_25 : decode cX8_isInLattice 25 = .ok (.goto (-23), 3) := by decide +kernel
theorem dX8_isInLattice_28 : decode cX8_isInLattice 28 = .ok (.iconst 0, 1) := by decide +kernel
theorem dX8_isInLattice_29 : decode cX8_isInLattice 29 = .ok (.istore_n 1, 1) := by decide +kernel
theorem dX8_isInLattice_30 : decode cX8_isInLattice 30 = .ok (.iload_n 1, 1) := by decide +kernel
theorem dX8_isInLattice_31 : decode cX8_isInLattice 31 = .ok (.aload_n 0, 1) := by decide +kernel
theorem dX8_isInLattice_32 : decode cX8_isInLattice 32 = .ok (.getfield 13, 3) := by decide +kernel
theorem dX8_isInLattice_35 : decode cX8_isInLattice 35 = .ok (.if_icmp .ge 91, 3) := by decide +kernel
theorem dX8_isInLattice_38 : decode cX8_isInLattice 38 = .ok (.aload_n 0, 1) := by decide +kernel
theorem dX8_isInLattice_39 : decode cX8_isInLattice 39 = .ok (.getfield 58, 3) := by decide +kernel
theorem dX8_isInLattice_42 : decode cX8_isInLattice 42 = .ok (.iload_n 1, 1) := by decide +kernel
theorem dX8_isInLattice_43 : decode cX8_isInLattice 43 = .ok (.laload, 1) := by decide +kernel
theorem dX8_isInLattice_44 : decode cX8_isInLattice 44 = .ok (.aload_n 0, 1) := by decide +kernel
theorem dX8_isInLattice_45 : decode cX8_isInLattice 45 = .ok (.getfield 55, 3) := by decide +kernel
theorem dX8_isInLattice_48 : decode cX8_isInLattice 48 = .ok (.iconst 5, 1) := by decide +kernel
theorem dX8_isInLattice_49 : decode cX8_isInLattice 49 = .ok (.iload_n 1, 1) := by decide +kernel
theorem dX8_isInLattice_50 : decode cX8_isInLattice 50 = .ok (.imul, 1) := by decide +kernel
theorem dX8_isInLattice_51 : decode cX8_isInLattice 51 = .ok (.iaload, 1) := by decide +kernel
theorem dX8_isInLattice_52 : decode cX8_isInLattice 52 = .ok (.i2l, 1) := by decide +kernel
theorem dX8_isInLattice_53 : decode cX8_isInLattice 53 = .ok (.lrem, 1) := by decide +kernel
theorem dX8_isInLattice_54 : decode cX8_isInLattice 54 = .ok (.lconst 0, 1) := by decide +kernel
theorem dX8_isInLattice_55 : decode cX8_isInLattice 55 = .ok (.lcmp, 1) := by decide +kernel
theorem dX8_isInLattice_56 : decode cX8_isInLattice 56 = .ok (.ifCond .eq 5, 3) := by decide +kernel
theorem dX8_isInLattice_59 : decode cX8_isInLattice 59 = .ok (.iconst 0, 1) := by decide +kernel
theorem dX8_isInLattice_60 : decode cX8_isInLattice 60 = .ok (.ireturn, 1) := by decide +kernel
theorem dX8_isInLattice_61 : decode cX8_isInLattice 61 = .ok (.aload_n 0, 1) := by decide +kernel
theorem dX8_isInLattice_62 : decode cX8_isInLattice 62 = .ok (.getfield 58, 3) := by decide +kernel
theorem dX8_isInLattice_65 : decode cX8_isInLattice 65 = .ok (.iload_n 1, 1) := by decide +kernel
theorem dX8_isInLattice_66 : decode cX8_isInLattice 66 = .ok (.laload, 1) := by decide +kernel
theorem dX8_isInLattice_67 : decode cX8_isInLattice 67 = .ok (.aload_n 0, 1) := by decide +kernel
theorem dX8_isInLattice_68 : decode cX8_isInLattice 68 = .ok (.getfield 55, 3) := by decide +kernel
theorem dX8_isInLattice_71 : decode cX8_isInLattice 71 = .ok (.iconst 5, 1) := by decide +kernel
theorem dX8_isInLattice_72 : decode cX8_isInLattice 72 = .ok (.iload_n 1, 1) := by decide +kernel
theorem dX8_isInLattice_73 : decode cX8_isInLattice 73 = .ok (.imul, 1) := by decide +kernel
theorem dX8_isInLattice_74 : decode cX8_isInLattice 74 = .ok (.iaload, 1) := by decide +kernel
theorem dX8_isInLattice_75 : decode cX8_isInLattice 75 = .ok (.i2l, 1) := by decide +kernel
theorem dX8_isInLattice_76 : decode cX8_isInLattice 76 = .ok (.ldiv, 1) := by decide +kernel
theorem dX8_isInLattice_77 : decode cX8_isInLattice 77 = .ok (.lstore_n 2, 1) := by decide +kernel
theorem dX8_isInLattice_78 : decode cX8_isInLattice 78 = .ok (.iload_n 1, 1) := by decide +kernel
theorem dX8_isInLattice_79 : decode cX8_isInLattice 79 = .ok (.istore 4, 2) := by decide +kernel
theorem dX8_isInLattice_81 : decode cX8_isInLattice 81 = .ok (.iload 4, 2) := by decide +kernel
theorem dX8_isInLattice_83 : decode cX8_isInLattice 83 = .ok (.aload_n 0, 1) := by decide +kernel
theorem dX8_isInLattice_84 : decode cX8_isInLattice 84 = .ok (.getfield 13, 3) := by decide +kernel
theorem dX8_isInLattice_87 : decode cX8_isInLattice 87 = .ok (.if_icmp .ge 33, 3) := by decide +kernel
theorem dX8_isInLattice_90 : decode cX8_isInLattice 90 = .ok (.aload_n 0, 1) := by decide +kernel
theorem dX8_isInLattice_91 : decode cX8_isInLattice 91 = .ok (.getfield 58, 3) := by decide +kernel
theorem dX8_isInLattice_94 : decode cX8_isInLattice 94 = .ok (.iload 4, 2) := by decide +kernel
theorem dX8_isInLattice_96 : decode cX8_isInLattice 96 = .ok (.dup2, 1) := by decide +kernel
theorem dX8_isInLattice_97 : decode cX8_isInLattice 97 = .ok (.laload, 1) := by decide +kernel
theorem dX8_isInLattice_98 : decode cX8_isInLattice 98 = .ok (.lload_n 2, 1) := by decide +kernel
theorem dX8_isInLattice_99 : decode cX8_isInLattice 99 = .ok (.aload_n 0, 1) := by decide +kernel
theorem dX8_isInLattice_100 : decode cX8_isInLattice 100 = .ok (.getfield 55, 3) := by decide +kernel
theorem dX8_isInLattice_103 : decode cX8_isInLattice 103 = .ok (.iconst 4, 1) := by decide +kernel
theorem dX8_isInLattice_104 : decode cX8_isInLattice 104 = .ok (.iload_n 1, 1) := by decide +kernel
theorem dX8_isInLattice_105 : decode cX8_isInLattice 105 = .ok (.imul, 1) := by decide +kernel
theorem dX8_isInLattice_106 : decode cX8_isInLattice 106 = .ok (.iload 4, 2) := by decide +kernel
theorem dX8_isInLattice_108 : decode cX8_isInLattice 108 = .ok (.iadd, 1) := by decide +kernel
theorem dX8_isInLattice_109 : decode cX8_isInLattice 109 = .ok (.iaload, 1) := by decide +kernel
theorem dX8_isInLattice_110 : decode cX8_isInLattice 110 = .ok (.i2l, 1) := by decide +kernel
theorem dX8_isInLattice_111 : decode cX8_isInLattice 111 = .ok (.lmul, 1) := by decide +kernel
theorem dX8_isInLattice_112 : decode cX8_isInLattice 112 = .ok (.lsub, 1) := by decide +kernel
theorem dX8_isInLattice_113 : decode cX8_isInLattice 113 = .ok (.lastore, 1) := by decide +kernel
theorem dX8_isInLattice_114 : decode cX8_isInLattice 114 = .ok (.iinc 4 1, 3) := by decide +kernel
theorem dX8_isInLattice_117 : decode cX8_isInLattice 117 = .ok (.goto (-36), 3) := by decide +kernel
theorem dX8_isInLattice_120 : decode cX8_isInLattice 120 = .ok (.iinc 1 1, 3) := by decide +kernel
theorem dX8_isInLattice_123 : decode cX8_isInLattice 123 = .ok (.goto (-93), 3) := by decide +kernel
theorem dX8_isInLattice_126 : decode cX8_isInLattice 126 = .ok (.iconst 1, 1) := by decide +kernel
theorem dX8_isInLattice_127 : decode cX8_isInLattice 127 = .ok (.ireturn, 1) := by decide +kernel
theorem dX8_shortSquares_0 : decode cX8_shortSquares 0 = .ok (.sipush 1000, 3) := by decide +kernel
theorem dX8_shortSquares_3 : decode cX8_shortSquares 3 = .ok (.istore_n 1, 1) := by decide +kernel
theorem dX8_shortSquares_4 : decode cX8_shortSquares 4 = .ok (.iconst 1, 1) := by decide +kernel
theorem dX8_shortSquares_5 : decode cX8_shortSquares 5 = .ok (.istore_n 2, 1) := by decide +kernel
theorem dX8_shortSquares_6 : decode cX8_shortSquares 6 = .ok (.iconst 0, 1) := by decide +kernel
theorem dX8_shortSquares_7 : decode cX8_shortSquares 7 = .ok (.istore_n 3, 1) := by decide +kernel
theorem dX8_shortSquares_8 : decode cX8_shortSquares 8 = .ok (.iload_n 3, 1) := by decide +kernel
theorem dX8_shortSquares_9 : decode cX8_shortSquares 9 = .ok (.aload_n 0, 1) := by decide +kernel
theorem dX8_shortSquares_10 : decode cX8_shortSquares 10 = .ok (.getfield 13, 3) := by decide +kernel
theorem dX8_shortSquares_13 : decode cX8_shortSquares 13 = .ok (.if_icmp .ge 14, 3) := by decide +kernel
theorem dX8_shortSquares_16 : decode cX8_shortSquares 16 = .ok (.iload_n 2, 1) := by decide +kernel
theorem dX8_shortSquares_17 : decode cX8_shortSquares 17 = .ok (.bipush 17, 2) := by decide +kernel
theorem dX8_shortSquares_19 : decode cX8_shortSquares 19 = .ok (.imul, 1) := by decide +kernel
theorem dX8_shortSquares_20 : decode cX8_shortSquares 20 = .ok (.istore_n 2, 1) := by decide +kernel
theorem dX8_shortSquares_21 : decode cX8_shortSquares 21 = .ok (.iinc 3 1, 3) := by decide +kernel
theorem dX8_shortSquares_24 : decode cX8_shortSquares 24 = .ok (.goto (-16), 3) := by decide +kernel
theorem dX8_shortSquares_27 : decode cX8_shortSquares 27 = .ok (.iconst 0, 1) := by decide +kernel
theorem dX8_shortSquares_28 : decode cX8_shortSquares 28 = .ok (.istore_n 3, 1) := by decide +kernel
theorem dX8_shortSquares_29 : decode cX8_shortSquares 29 = .ok (.iload_n 3, 1) := by decide +kernel
theorem dX8_shortSquares_30 : decode cX8_shortSquares 30 = .ok (.iload_n 2, 1) := by decide +kernel
theorem dX8_shortSquares_31 : decode cX8_shortSquares 31 = .ok (.if_icmp .ge 132, 3) := by decide +kernel
theorem dX8_shortSquares_34 : decode cX8_shortSquares 34 = .ok (.iload_n 3, 1) := by decide +kernel
theorem dX8_shortSquares_35 : decode cX8_shortSquares 35 = .ok (.istore 4, 2) := by decide +kernel
theorem dX8_shortSquares_37 : decode cX8_shortSquares 37 = .ok (.iconst 0, 1) := by decide +kernel
theorem dX8_shortSquares_38 : decode cX8_shortSquares 38 = .ok (.istore 5, 2) := by decide +kernel
theorem dX8_shortSquares_40 : decode cX8_shortSquares 40 = .ok (.aload_n 0, 1) := by decide +kernel
theorem dX8_shortSquares_41 : decode cX8_shortSquares 41 = .ok (.getfield 13, 3) := by decide +kernel
theorem dX8_shortSquares_44 : decode cX8_shortSquares 44 = .ok (.iconst 1, 1) := by decide +kernel
theorem dX8_shortSquares_45 : decode cX8_shortSquares 45 = .ok (.isub, 1) := by decide +kernel
theorem dX8_shortSquares_46 : decode cX8_shortSquares 46 = .ok (.istore 6, 2) := by decide +kernel
theorem dX8_shortSquares_48 : decode cX8_shortSquares 48 = .ok (.iload 6, 2) := by decide +kernel
theorem dX8_shortSquares_50 : decode cX8_shortSquares 50 = .ok (.ifCond .lt 53, 3) := by decide +kernel
theorem dX8_shortSquares_53 : decode cX8_shortSquares 53 = .ok (.aload_n 0, 1) := by decide +kernel
theorem dX8_shortSquares_54 : decode cX8_shortSquares 54 = .ok (.getfield 32, 3) := by decide +kernel
theorem dX8_shortSquares_57 : decode cX8_shortSquares 57 = .ok (.iload 6, 2) := by decide +kernel
theorem dX8_shortSquares_59 : decode cX8_shortSquares 59 = .ok (.bipush 8, 2) := by decide +kernel
theorem dX8_shortSquares_61 : decode cX8_shortSquares 61 = .ok (.iload 4, 2) := by decide +kernel
theorem dX8_shortSquares_63 : decode cX8_shortSquares 63 = .ok (.bipush 17, 2) := by decide +kernel
theorem dX8_shortSquares_65 : decode cX8_shortSquares 65 = .ok (.irem, 1) := by decide +kernel
theorem dX8_shortSquares_66 : decode cX8_shortSquares 66 = .ok (.isub, 1) := by decide +kernel
theorem dX8_shortSquares_67 : decode cX8_shortSquares 67 = .ok (.i2l, 1) := by decide +kernel
theorem dX8_shortSquares_68 : decode cX8_shortSquares 68 = .ok (.lastore, 1) := by decide +kernel
theorem dX8_shortSquares_69 : decode cX8_shortSquares 69 = .ok (.iload 4, 2) := by decide +kernel
theorem dX8_shortSquares_71 : decode cX8_shortSquares 71 = .ok (.bipush 17, 2) := by decide +kernel
theorem dX8_shortSquares_73 : decode cX8_shortSquares 73 = .ok (.idiv, 1) := by decide +kernel
theorem dX8_shortSquares_74 : decode cX8_shortSquares 74 = .ok (.istore 4, 2) := by decide +kernel
theorem dX8_shortSquares_76 : decode cX8_shortSquares 76 = .ok (.iload 5, 2) := by decide +kernel
theorem dX8_shortSquares_78 : decode cX8_shortSquares 78 = .ok (.aload_n 0, 1) := by decide +kernel
theorem dX8_shortSquares_79 : decode cX8_shortSquares 79 = .ok (.getfield 32, 3) := by decide +kernel
theorem dX8_shortSquares_82 : decode cX8_shortSquares 82 = .ok (.iload 6, 2) := by decide +kernel
theorem dX8_shortSquares_84 : decode cX8_shortSquares 84 = .ok (.laload, 1) := by decide +kernel
theorem dX8_shortSquares_85 : decode cX8_shortSquares 85 = .ok (.aload_n 0, 1) := by decide +kernel
theorem dX8_shortSquares_86 : decode cX8_shortSquares 86 = .ok (.getfield 32, 3) := by decide +kernel
theorem dX8_shortSquares_89 : decode cX8_shortSquares 89 = .ok (.iload 6, 2) := by decide +kernel
theorem dX8_shortSquares_91 : decode cX8_shortSquares 91 = .ok (.laload, 1) := by decide +kernel
theorem dX8_shortSquares_92 : decode cX8_shortSquares 92 = .ok (.lmul, 1) := by decide +kernel
theorem dX8_shortSquares_93 : decode cX8_shortSquares 93 = .ok (.l2i, 1) := by decide +kernel
theorem dX8_shortSquares_94 : decode cX8_shortSquares 94 = .ok (.iadd, 1) := by decide +kernel
theorem dX8_shortSquares_95 : decode cX8_shortSquares 95 = .ok (.istore 5, 2) := by decide +kernel
theorem dX8_shortSquares_97 : decode cX8_shortSquares 97 = .ok (.iinc 6 (-1), 3) := by decide +kernel
theorem dX8_shortSquares_100 : decode cX8_shortSquares 100 = .ok (.goto (-52), 3) := by decide +kernel
theorem dX8_shortSquares_103 : decode cX8_shortSquares 103 = .ok (.iload 5, 2) := by decide +kernel
theorem dX8_shortSquares_105 : decode cX8_shortSquares 105 = .ok (.ifCond .le 52, 3) := by decide +kernel
theorem dX8_shortSquares_108 : decode cX8_shortSquares 108 = .ok (.iload 5, 2) := by decide +kernel
theorem dX8_shortSquares_110 : decode cX8_shortSquares 110 = .ok (.iload_n 1, 1) := by decide +kernel
theorem dX8_shortSquares_111 : decode cX8_shortSquares 111 = .ok (.if_icmp .ge 46, 3) := by decide +kernel
theorem dX8_shortSquares_114 : decode cX8_shortSquares 114 = .ok (.aload_n 0, 1) := by decide +kernel
theorem dX8_shortSquares_115 : decode cX8_shortSquares 115 = .ok (.invokevirtual 295, 3) := by decide +kernel
theorem dX8_shortSquares_118 : decode cX8_shortSquares 118 = .ok (.ifCond .eq 39, 3) := by decide +kernel
theorem dX8_shortSquares_121 : decode cX8_shortSquares 121 = .ok (.iload 5, 2) := by decide +kernel
theorem dX8_shortSquares_123 : decode cX8_shortSquares 123 = .ok (.istore_n 1, 1) := by decide +kernel
theorem dX8_shortSquares_124 : decode cX8_shortSquares 124 = .ok (.iconst 0, 1) := by decide +kernel
theorem dX8_shortSquares_125 : decode cX8_shortSquares 125 = .ok (.istore 6, 2) := by decide +kernel
theorem dX8_shortSquares_127 : decode cX8_shortSquares 127 = .ok (.iload 6, 2) := by decide +kernel
theorem dX8_shortSquares_129 : decode cX8_shortSquares 129 = .ok (.aload_n 0, 1) := by decide +kernel
theorem dX8_shortSquares_130 : decode cX8_shortSquares 130 = .ok (.getfield 13, 3) := by decide +kernel
theorem dX8_shortSquares_133 : decode cX8_shortSquares 133 = .ok (.if_icmp .ge 24, 3) := by decide +kernel
theorem dX8_shortSquares_136 : decode cX8_shortSquares 136 = .ok (.aload_n 0, 1) := by decide +kernel
theorem dX8_shortSquares_137 : decode cX8_shortSquares 137 = .ok (.getfield 61, 3) := by decide +kernel
theorem dX8_shortSquares_140 : decode cX8_shortSquares 140 = .ok (.iload 6, 2) := by decide +kernel
theorem dX8_shortSquares_142 : decode cX8_shortSquares 142 = .ok (.aload_n 0, 1) := by decide +kernel
theorem dX8_shortSquares_143 : decode cX8_shortSquares 143 = .ok (.getfield 32, 3) := by decide +kernel
theorem dX8_shortSquares_146 : decode cX8_shortSquares 146 = .ok (.iload 6, 2) := by decide +kernel
theorem dX8_shortSquares_148 : decode cX8_shortSquares 148 = .ok (.laload, 1) := by decide +kernel
theorem dX8_shortSquares_149 : decode cX8_shortSquares 149 = .ok (.l2i, 1) := by decide +kernel
theorem dX8_shortSquares_150 : decode cX8_shortSquares 150 = .ok (.iastore, 1) := by decide +kernel
theorem dX8_shortSquares_151 : decode cX8_shortSquares 151 = .ok (.iinc 6 1, 3) := by decide +kernel
theorem dX8_shortSquares_154 : decode cX8_shortSquares 154 = .ok (.goto (-27), 3) := by decide +kernel
theorem dX8_shortSquares_157 : decode cX8_shortSquares 157 = .ok (.iinc 3 1, 3) := by decide +kernel
theorem dX8_shortSquares_160 : decode cX8_shortSquares 160 = .ok (.goto (-131), 3) := by decide +kernel
theorem dX8_shortSquares_163 : decode cX8_shortSquares 163 = .ok (.iload_n 1, 1) := by decide +kernel
theorem dX8_shortSquares_164 : decode cX8_shortSquares 164 = .ok (.ireturn, 1) := by decide +kernel
theorem dX8_shortest_0 : decode cX8_shortest 0 = .ok (.iload_n 1, 1) := by decide +kernel
theorem dX8_shortest_1 : decode cX8_shortest 1 = .ok (.iconst (-1), 1) := by decide +kernel
theorem dX8_shortest_2 : decode cX8_shortest 2 = .ok (.if_icmp .eq 18, 3) := by decide +kernel
theorem dX8_shortest_5 : decode cX8_shortest 5 = .ok (.aload_n 0, 1) := by decide +kernel
theorem dX8_shortest_6 : decode cX8_shortest 6 = .ok (.iload_n 1, 1) := by decide +kernel
theorem dX8_shortest_7 : decode cX8_shortest 7 = .ok (.invokevirtual 115, 3) := by decide +kernel
theorem dX8_shortest_10 : decode cX8_shortest 10 = .ok (.ifCond .ne 10, 3) := by decide +kernel
theorem dX8_shortest_13 : decode cX8_shortest 13 = .ok (.aload_n 0, 1) := by decide +kernel
theorem dX8_shortest_14 : decode cX8_shortest 14 = .ok (.ldc 92, 2) := by decide +kernel
theorem dX8_shortest_16 : decode cX8_shortest 16 = .ok (.invokevirtual 102, 3) := by decide +kernel
theorem dX8_shortest_19 : decode cX8_shortest 19 = .ok (.ireturn, 1) := by decide +kernel
theorem dX8_shortest_20 : decode cX8_shortest 20 = .ok (.aload_n 0, 1) := by decide +kernel
theorem dX8_shortest_21 : decode cX8_shortest 21 = .ok (.invokevirtual 292, 3) := by decide +kernel
theorem dX8_shortest_24 : decode cX8_shortest 24 = .ok (.ifCond .ne 10, 3) := by decide +kernel
theorem dX8_shortest_27 : decode cX8_shortest 27 = .ok (.aload_n 0, 1) := by decide +kernel
theorem dX8_shortest_28 : decode cX8_shortest 28 = .ok (.ldc 167, 2) := by decide +kernel
theorem dX8_shortest_30 : decode cX8_shortest 30 = .ok (.invokevirtual 102, 3) := by decide +kernel
theorem dX8_shortest_33 : decode cX8_shortest 33 = .ok (.ireturn, 1) := by decide +kernel
theorem dX8_shortest_34 : decode cX8_shortest 34 = .ok (.aload_n 0, 1) := by decide +kernel
theorem dX8_shortest_35 : decode cX8_shortest 35 = .ok (.invokevirtual 298, 3) := by decide +kernel
theorem dX8_shortest_38 : decode cX8_shortest 38 = .ok (.istore_n 2, 1) := by decide +kernel
theorem dX8_shortest_39 : decode cX8_shortest 39 = .ok (.iload_n 1, 1) := by decide +kernel
theorem dX8_shortest_40 : decode cX8_shortest 40 = .ok (.ifCond .ge 7, 3) := by decide +kernel
theorem dX8_shortest_43 : decode cX8_shortest 43 = .ok (.iload_n 2, 1) := by decide +kernel
theorem dX8_shortest_44 : decode cX8_shortest 44 = .ok (.goto 9, 3) := by decide +kernel
theorem dX8_shortest_47 : decode cX8_shortest 47 = .ok (.aload_n 0, 1) := by decide +kernel
theorem dX8_shortest_48 : decode cX8_shortest 48 = .ok (.getfield 61, 3) := by decide +kernel
theorem dX8_shortest_51 : decode cX8_shortest 51 = .ok (.iload_n 1, 1) := by decide +kernel
theorem dX8_shortest_52 : decode cX8_shortest 52 = .ok (.iaload, 1) := by decide +kernel
theorem dX8_shortest_53 : decode cX8_shortest 53 = .ok (.ireturn, 1) := by decide +kernel
theorem dX8_common__0 : decode cX8_common_ 0 = .ok (.aload_n 0, 1) := by decide +kernel
theorem dX8_common__1 : decode cX8_common_ 1 = .ok (.invokevirtual 292, 3) := by decide +kernel
theorem dX8_common__4 : decode cX8_common_ 4 = .ok (.ifCond .ne 10, 3) := by decide +kernel
theorem dX8_common__7 : decode cX8_common_ 7 = .ok (.aload_n 0, 1) := by decide +kernel
theorem dX8_common__8 : decode cX8_common_ 8 = .ok (.ldc 167, 2) := by decide +kernel
theorem dX8_common__10 : decode cX8_common_ 10 = .ok (.invokevirtual 102, 3) := by decide +kernel
theorem dX8_common__13 : decode cX8_common_ 13 = .ok (.ireturn, 1) := by decide +kernel
theorem dX8_common__14 : decode cX8_common_ 14 = .ok (.aload_n 0, 1) := by decide +kernel
theorem dX8_common__15 : decode cX8_common_ 15 = .ok (.invokevirtual 189, 3) := by decide +kernel
theorem dX8_common__18 : decode cX8_common_ 18 = .ok (.iconst 0, 1) := by decide +kernel
theorem dX8_common__19 : decode cX8_common_ 19 = .ok (.istore_n 1, 1) := by decide +kernel
theorem dX8_common__20 : decode cX8_common_ 20 = .ok (.iconst 0, 1) := by decide +kernel
theorem dX8_common__21 : decode cX8_common_ 21 = .ok (.istore_n 2, 1) := by decide +kernel
theorem dX8_common__22 : decode cX8_common_ 22 = .ok (.iload_n 2, 1) := by decide +kernel
theorem dX8_common__23 : decode cX8_common_ 23 = .ok (.aload_n 0, 1) := by decide +kernel
theorem dX8_common__24 : decode cX8_common_ 24 = .ok (.getfield 176, 3) := by decide +kernel
theorem dX8_common__27 : decode cX8_common_ 27 = .ok (.if_icmp .ge 34, 3) := by decide +kernel
theorem dX8_common__30 : decode cX8_common_ 30 = .ok (.aload_n 0, 1) := by decide +kernel
theorem dX8_common__31 : decode cX8_common_ 31 = .ok (.aload_n 0, 1) := by decide +kernel
theorem dX8_common__32 : decode cX8_common_ 32 = .ok (.getfield 39, 3) := by decide +kernel
theorem dX8_common__35 : decode cX8_common_ 35 = .ok (.iload_n 2, 1) := by decide +kernel
theorem dX8_common__36 : decode cX8_common_ 36 = .ok (.iaload, 1) := by decide +kernel
theorem dX8_common__37 : decode cX8_common_ 37 = .ok (.invokevirtual 179, 3) := by decide +kernel
theorem dX8_common__40 : decode cX8_common_ 40 = .ok (.iload_n 1, 1) := by decide +kernel
theorem dX8_common__41 : decode cX8_common_ 41 = .ok (.aload_n 0, 1) := by decide +kernel
theorem dX8_common__42 : decode cX8_common_ 42 = .ok (.invokevirtual 295, 3) := by decide +kernel
theorem dX8_common__45 : decode cX8_common_ 45 = .ok (.ifCond .eq 7, 3) := by decide +kernel
theorem dX8_common__48 : decode cX8_common_ 48 = .ok (.iconst 1, 1) := by decide +kernel
theorem dX8_common__49 : decode cX8_common_ 49 = .ok (.goto 4, 3) := by decide +kernel
theorem dX8_common__52 : decode cX8_common_ 52 = .ok (.iconst 0, 1) := by decide +kernel
theorem dX8_common__53 : decode cX8_common_ 53 = .ok (.iadd, 1) := by decide +kernel
theorem dX8_common__54 : decode cX8_common_ 54 = .ok (.istore_n 1, 1) := by decide +kernel
theorem dX8_common__55 : decode cX8_common_ 55 = .ok (.iinc 2 1, 3) := by decide +kernel
theorem dX8_common__58 : decode cX8_common_ 58 = .ok (.goto (-36), 3) := by decide +kernel
theorem dX8_common__61 : decode cX8_common_ 61 = .ok (.iload_n 1, 1) := by decide +kernel
theorem dX8_common__62 : decode cX8_common_ 62 = .ok (.ireturn, 1) := by decide +kernel
theorem dX8_lies_0 : decode cX8_lies 0 = .ok (.aload_n 0, 1) := by decide +kernel
theorem dX8_lies_1 : decode cX8_lies 1 = .ok (.iload_n 1, 1) := by decide +kernel
theorem dX8_lies_2 : decode cX8_lies 2 = .ok (.invokevirtual 200, 3) := by decide +kernel
theorem dX8_lies_5 : decode cX8_lies 5 = .ok (.istore_n 2, 1) := by decide +kernel
theorem dX8_lies_6 : decode cX8_lies 6 = .ok (.iload_n 2, 1) := by decide +kernel
theorem dX8_lies_7 : decode cX8_lies 7 = .ok (.ifCond .eq 9, 3) := by decide +kernel
theorem dX8_lies_10 : decode cX8_lies 10 = .ok (.aload_n 0, 1) := by decide +kernel
theorem dX8_lies_11 : decode cX8_lies 11 = .ok (.iload_n 2, 1) := by decide +kernel
theorem dX8_lies_12 : decode cX8_lies 12 = .ok (.invokevirtual 102, 3) := by decide +kernel
theorem dX8_lies_15 : decode cX8_lies 15 = .ok (.ireturn, 1) := by decide +kernel
theorem dX8_lies_16 : decode cX8_lies 16 = .ok (.aload_n 0, 1) := by decide +kernel
theorem dX8_lies_17 : decode cX8_lies 17 = .ok (.invokevirtual 203, 3) := by decide +kernel
theorem dX8_lies_20 : decode cX8_lies 20 = .ok (.ifCond .ne 10, 3) := by decide +kernel
theorem dX8_lies_23 : decode cX8_lies 23 = .ok (.aload_n 0, 1) := by decide +kernel
theorem dX8_lies_24 : decode cX8_lies 24 = .ok (.ldc 207, 2) := by decide +kernel
theorem dX8_lies_26 : decode cX8_lies 26 = .ok (.invokevirtual 102, 3) := by decide +kernel
theorem dX8_lies_29 : decode cX8_lies 29 = .ok (.ireturn, 1) := by decide +kernel
theorem dX8_lies_30 : decode cX8_lies 30 = .ok (.aload_n 0, 1) := by decide +kernel
theorem dX8_lies_31 : decode cX8_lies 31 = .ok (.invokevirtual 292, 3) := by decide +kernel
theorem dX8_lies_34 : decode cX8_lies 34 = .ok (.ifCond .ne 12, 3) := by decide +kernel
theorem dX8_lies_37 : decode cX8_lies 37 = .ok (.aload_n 0, 1) := by decide +kernel
theorem dX8_lies_38 : decode cX8_lies 38 = .ok (.ldc 167, 2) := by decide +kernel
theorem dX8_lies_40 : decode cX8_lies 40 = .ok (.invokevirtual 102, 3) := by decide +kernel
theorem dX8_lies_43 : decode cX8_lies 43 = .ok (.goto 15, 3) := by decide +kernel
theorem dX8_lies_46 : decode cX8_lies 46 = .ok (.aload_n 0, 1) := by decide +kernel
theorem dX8_lies_47 : decode cX8_lies 47 = .ok (.invokevirtual 295, 3) := by decide +kernel
theorem dX8_lies_50 : decode cX8_lies 50 = .ok (.ifCond .eq 7, 3) := by decide +kernel
theorem dX8_lies_53 : decode cX8_lies 53 = .ok (.iconst 1, 1) := by decide +kernel
theorem dX8_lies_54 : decode cX8_lies 54 = .ok (.goto 4, 3) := by decide +kernel
theorem dX8_lies_57 : decode cX8_lies 57 = .ok (.iconst 0, 1) := by decide +kernel
theorem dX8_lies_58 : decode cX8_lies 58 = .ok (.ireturn, 1) := by decide +kernel
theorem dX8_feed_0 : decode cX8_feed 0 = .ok (.iload_n 2, 1) := by decide +kernel
theorem dX8_feed_1 : decode cX8_feed 1 = .ok (.i2l, 1) := by decide +kernel
theorem dX8_feed_2 : decode cX8_feed 2 = .ok (.lconst 1, 1) := by decide +kernel
theorem dX8_feed_3 : decode cX8_feed 3 = .ok (.ldc2_w 100, 3) := by decide +kernel
theorem dX8_feed_6 : decode cX8_feed 6 = .ok (.invokestatic 93, 3) := by decide +kernel
theorem dX8_feed_9 : decode cX8_feed 9 = .ok (.ifCond .ne 10, 3) := by decide +kernel
theorem dX8_feed_12 : decode cX8_feed 12 = .ok (.aload_n 0, 1) := by decide +kernel
theorem dX8_feed_13 : decode cX8_feed 13 = .ok (.ldc 92, 2) := by decide +kernel
theorem dX8_feed_15 : decode cX8_feed 15 = .ok (.invokevirtual 102, 3) := by decide +kernel
theorem dX8_feed_18 : decode cX8_feed 18 = .ok (.ireturn, 1) := by decide +kernel
theorem dX8_feed_19 : decode cX8_feed 19 = .ok (.aload_n 0, 1) := by decide +kernel
theorem dX8_feed_20 : decode cX8_feed 20 = .ok (.getfield 301, 3) := by decide +kernel
theorem dX8_feed_23 : decode cX8_feed 23 = .ok (.iload_n 2, 1) := by decide +kernel
theorem dX8_feed_24 : decode cX8_feed 24 = .ok (.iadd, 1) := by decide +kernel
theorem dX8_feed_25 : decode cX8_feed 25 = .ok (.bipush 120, 2) := by decide +kernel
theorem dX8_feed_27 : decode cX8_feed 27 = .ok (.if_icmp .le 10, 3) := by decide +kernel
theorem dX8_feed_30 : decode cX8_feed 30 = .ok (.aload_n 0, 1) := by decide +kernel
theorem dX8_feed_31 : decode cX8_feed 31 = .ok (.ldc 110, 2) := by decide +kernel
theorem dX8_feed_33 : decode cX8_feed 33 = .ok (.invokevirtual 102, 3) := by decide +kernel
theorem dX8_feed_36 : decode cX8_feed 36 = .ok (.ireturn, 1) := by decide +kernel
theorem dX8_feed_37 : decode cX8_feed 37 = .ok (.iload_n 2, 1) := by decide +kernel
theorem dX8_feed_38 : decode cX8_feed 38 = .ok (.iconst 1, 1) := by decide +kernel
theorem dX8_feed_39 : decode cX8_feed 39 = .ok (.isub, 1) := by decide +kernel
theorem dX8_feed_40 : decode cX8_feed 40 = .ok (.istore_n 3, 1) := by decide +kernel
theorem dX8_feed_41 : decode cX8_feed 41 = .ok (.iload_n 3, 1) := by decide +kernel
theorem dX8_feed_42 : decode cX8_feed 42 = .ok (.ifCond .lt 38, 3) := by decide +kernel
theorem dX8_feed_45 : decode cX8_feed 45 = .ok (.aload_n 0, 1) := by decide +kernel
theorem dX8_feed_46 : decode cX8_feed 46 = .ok (.getfield 64, 3) := by decide +kernel
theorem dX8_feed_49 : decode cX8_feed 49 = .ok (.aload_n 0, 1) := by decide +kernel
theorem dX8_feed_50 : decode cX8_feed 50 = .ok (.getfield 301, 3) := by decide +kernel
theorem dX8_feed_53 : decode cX8_feed 53 = .ok (.iload_n 1, 1) := by decide +kernel
theorem dX8_feed_54 : decode cX8_feed 54 = .ok (.bipush 8, 2) := by decide +kernel
theorem dX8_feed_56 : decode cX8_feed 56 = .ok (.iload_n 3, 1) := by decide +kernel
theorem dX8_feed_57 : decode cX8_feed 57 = .ok (.imul, 1) := by decide +kernel
theorem dX8_feed_58 : decode cX8_feed 58 = .ok (.ishr, 1) := by decide +kernel
theorem dX8_feed_59 : decode cX8_feed 59 = .ok (.sipush 255, 3) := by decide +kernel
theorem dX8_feed_62 : decode cX8_feed 62 = .ok (.iand, 1) := by decide +kernel
theorem dX8_feed_63 : decode cX8_feed 63 = .ok (.iastore, 1) := by decide +kernel
theorem dX8_feed_64 : decode cX8_feed 64 = .ok (.aload_n 0, 1) := by decide +kernel
theorem dX8_feed_65 : decode cX8_feed 65 = .ok (.dup, 1) := by decide +kernel
theorem dX8_feed_66 : decode cX8_feed 66 = .ok (.getfield 301, 3) := by decide +kernel
theorem dX8_feed_69 : decode cX8_feed 69 = .ok (.iconst 1, 1) := by decide +kernel
theorem dX8_feed_70 : decode cX8_feed 70 = .ok (.iadd, 1) := by decide +kernel
theorem dX8_feed_71 : decode cX8_feed 71 = .ok (.putfield 301, 3) := by decide +kernel
theorem dX8_feed_74 : decode cX8_feed 74 = .ok (.iinc 3 (-1), 3) := by decide +kernel
theorem dX8_feed_77 : decode cX8_feed 77 = .ok (.goto (-36), 3) := by decide +kernel
theorem dX8_feed_80 : decode cX8_feed 80 = .ok (.aload_n 0, 1) := by decide +kernel
theorem dX8_feed_81 : decode cX8_feed 81 = .ok (.getfield 301, 3) := by decide +kernel
theorem dX8_feed_84 : decode cX8_feed 84 = .ok (.ireturn, 1) := by decide +kernel
theorem dX8_wipe_0 : decode cX8_wipe 0 = .ok (.aload_n 0, 1) := by decide +kernel
theorem dX8_wipe_1 : decode cX8_wipe 1 = .ok (.getfield 301, 3) := by decide +kernel
theorem dX8_wipe_4 : decode cX8_wipe 4 = .ok (.istore_n 1, 1) := by decide +kernel
theorem dX8_wipe_5 : decode cX8_wipe 5 = .ok (.aload_n 0, 1) := by decide +kernel
theorem dX8_wipe_6 : decode cX8_wipe 6 = .ok (.iconst 0, 1) := by decide +kernel
theorem dX8_wipe_7 : decode cX8_wipe 7 = .ok (.putfield 301, 3) := by decide +kernel
theorem dX8_wipe_10 : decode cX8_wipe 10 = .ok (.iload_n 1, 1) := by decide +kernel
theorem dX8_wipe_11 : decode cX8_wipe 11 = .ok (.ireturn, 1) := by decide +kernel
theorem dX8_byteAt_0 : decode cX8_byteAt 0 = .ok (.iload_n 1, 1) := by decide +kernel
theorem dX8_byteAt_1 : decode cX8_byteAt 1 = .ok (.aload_n 0, 1) := by decide +kernel
theorem dX8_byteAt_2 : decode cX8_byteAt 2 = .ok (.getfield 301, 3) := by decide +kernel
theorem dX8_byteAt_5 : decode cX8_byteAt 5 = .ok (.if_icmp .ge 12, 3) := by decide +kernel
theorem dX8_byteAt_8 : decode cX8_byteAt 8 = .ok (.aload_n 0, 1) := by decide +kernel
theorem dX8_byteAt_9 : decode cX8_byteAt 9 = .ok (.getfield 64, 3) := by decide +kernel
theorem dX8_byteAt_12 : decode cX8_byteAt 12 = .ok (.iload_n 1, 1) := by decide +kernel
theorem dX8_byteAt_13 : decode cX8_byteAt 13 = .ok (.iaload, 1) := by decide +kernel
theorem dX8_byteAt_14 : decode cX8_byteAt 14 = .ok (.goto 4, 3) := by decide +kernel
theorem dX8_byteAt_17 : decode cX8_byteAt 17 = .ok (.iconst (-1), 1) := by decide +kernel
theorem dX8_byteAt_18 : decode cX8_byteAt 18 = .ok (.ireturn, 1) := by decide +kernel
theorem dX8_isWordFrom_0 : decode cX8_isWordFrom 0 = .ok (.aload_n 0, 1) := by decide +kernel
theorem dX8_isWordFrom_1 : decode cX8_isWordFrom 1 = .ok (.getfield 304, 3) := by decide +kernel
theorem dX8_isWordFrom_4 : decode cX8_isWordFrom 4 = .ok (.aload_n 0, 1) := by decide +kernel
theorem dX8_isWordFrom_5 : decode cX8_isWordFrom 5 = .ok (.getfield 307, 3) := by decide +kernel
theorem dX8_isWordFrom_8 : decode cX8_isWordFrom 8 = .ok (.isub, 1) := by decide +kernel
theorem dX8_isWordFrom_9 : decode cX8_isWordFrom 9 = .ok (.bipush 8, 2) := by decide +kernel
theorem dX8_isWordFrom_11 : decode cX8_isWordFrom 11 = .ok (.if_icmp .gt 7, 3) := by decide +kernel
theorem dX8_isWordFrom_14 : decode cX8_isWordFrom 14 = .ok (.iconst 1, 1) := by decide +kernel
theorem dX8_isWordFrom_15 : decode cX8_isWordFrom 15 = .ok (.goto 4, 3) := by decide +kernel
theorem dX8_isWordFrom_18 : decode cX8_isWordFrom 18 = .ok (.iconst 0, 1) := by decide +kernel
theorem dX8_isWordFrom_19 : decode cX8_isWordFrom 19 = .ok (.istore_n 2, 1) := by decide +kernel
theorem dX8_isWordFrom_20 : decode cX8_isWordFrom 20 = .ok (.iconst 0, 1) := by decide +kernel
theorem dX8_isWordFrom_21 : decode cX8_isWordFrom 21 = .ok (.istore_n 3, 1) := by decide +kernel
theorem dX8_isWordFrom_22 : decode cX8_isWordFrom 22 = .ok (.iload_n 3, 1) := by decide +kernel
theorem dX8_isWordFrom_23 : decode cX8_isWordFrom 23 = .ok (.bipush 8, 2) := by decide +kernel
theorem dX8_isWordFrom_25 : decode cX8_isWordFrom 25 = .ok (.if_icmp .ge 61, 3) := by decide +kernel
theorem dX8_isWordFrom_28 : decode cX8_isWordFrom 28 = .ok (.iload_n 2, 1) := by decide +kernel
theorem dX8_isWordFrom_29 : decode cX8_isWordFrom 29 = .ok (.ifCond .eq 57, 3) := by decide +kernel
theorem dX8_isWordFrom_32 : decode cX8_isWordFrom 32 = .ok (.aload_n 0, 1) := by decide +kernel
theorem dX8_isWordFrom_33 : decode cX8_isWordFrom 33 = .ok (.getfield 67, 3) := by decide +kernel
theorem dX8_isWordFrom_36 : decode cX8_isWordFrom 36 = .ok (.bipush 8, 2) := by decide +kernel
theorem dX8_isWordFrom_38 : decode cX8_isWordFrom 38 = .ok (.iload_n 1, 1) := by decide +kernel
theorem dX8_isWordFrom_39 : decode cX8_isWordFrom 39 = .ok (.imul, 1) := by decide +kernel
theorem dX8_isWordFrom_40 : decode cX8_isWordFrom 40 = .ok (.iload_n 3, 1) := by decide +kernel
theorem dX8_isWordFrom_41 : decode cX8_isWordFrom 41 = .ok (.iadd, 1) := by decide +kernel
theorem dX8_isWordFrom_42 : decode cX8_isWordFrom 42 = .ok (.caload, 1) := by decide +kernel
theorem dX8_isWordFrom_43 : decode cX8_isWordFrom 43 = .ok (.aload_n 0, 1) := by decide +kernel
theorem dX8_isWordFrom_44 : decode cX8_isWordFrom 44 = .ok (.getfield 307, 3) := by decide +kernel
theorem dX8_isWordFrom_47 : decode cX8_isWordFrom 47 = .ok (.iload_n 3, 1) := by decide +kernel
theorem dX8_isWordFrom_48 : decode cX8_isWordFrom 48 = .ok (.iadd, 1) := by decide +kernel
theorem dX8_isWordFrom_49 : decode cX8_isWordFrom 49 = .ok (.aload_n 0, 1) := by decide +kernel
theorem dX8_isWordFrom_50 : decode cX8_isWordFrom 50 = .ok (.getfield 304, 3) := by decide +kernel
theorem dX8_isWordFrom_53 : decode cX8_isWordFrom 53 = .ok (.if_icmp .ge 16, 3) := by decide +kernel
theorem dX8_isWordFrom_56 : decode cX8_isWordFrom 56 = .ok (.aload_n 0, 1) := by decide +kernel
theorem dX8_isWordFrom_57 : decode cX8_isWordFrom 57 = .ok (.aload_n 0, 1) := by decide +kernel
theorem dX8_isWordFrom_58 : decode cX8_isWordFrom 58 = .ok (.getfield 307, 3) := by decide +kernel
theorem dX8_isWordFrom_61 : decode cX8_isWordFrom 61 = .ok (.iload_n 3, 1) := by decide +kernel
theorem dX8_isWordFrom_62 : decode cX8_isWordFrom 62 = .ok (.iadd, 1) := by decide +kernel
theorem dX8_isWordFrom_63 : decode cX8_isWordFrom 63 = .ok (.invokevirtual 310, 3) := by decide +kernel
theorem dX8_isWordFrom_66 : decode cX8_isWordFrom 66 = .ok (.goto 5, 3) := by decide +kernel
theorem dX8_isWordFrom_69 : decode cX8_isWordFrom 69 = .ok (.bipush 32, 2) := by decide +kernel
theorem dX8_isWordFrom_71 : decode cX8_isWordFrom 71 = .ok (.if_icmp .ne 7, 3) := by decide +kernel
theorem dX8_isWordFrom_74 : decode cX8_isWordFrom 74 = .ok (.iconst 1, 1) := by decide +kernel
theorem dX8_isWordFrom_75 : decode cX8_isWordFrom 75 = .ok (.goto 4, 3) := by decide +kernel
theorem dX8_isWordFrom_78 : decode cX8_isWordFrom 78 = .ok (.iconst 0, 1) := by decide +kernel
theorem dX8_isWordFrom_79 : decode cX8_isWordFrom 79 = .ok (.istore_n 2, 1) := by decide +kernel
theorem dX8_isWordFrom_80 : decode cX8_isWordFrom 80 = .ok (.iinc 3 1, 3) := by decide +kernel
theorem dX8_isWordFrom_83 : decode cX8_isWordFrom 83 = .ok (.goto (-61), 3) := by decide +kernel
theorem dX8_isWordFrom_86 : decode cX8_isWordFrom 86 = .ok (.iload_n 2, 1) := by decide +kernel
theorem dX8_isWordFrom_87 : decode cX8_isWordFrom 87 = .ok (.ireturn, 1) := by decide +kernel
theorem dX8_next_0 : decode cX8_next 0 = .ok (.aload_n 0, 1) := by decide +kernel
theorem dX8_next_1 : decode cX8_next 1 = .ok (.aload_n 0, 1) := by decide +kernel
theorem dX8_next_2 : decode cX8_next 2 = .ok (.getfield 304, 3) := by decide +kernel
theorem dX8_next_5 : decode cX8_next 5 = .ok (.invokevirtual 310, 3) := by decide +kernel
theorem dX8_next_8 : decode cX8_next 8 = .ok (.bipush 32, 2) := by decide +kernel
theorem dX8_next_10 : decode cX8_next 10 = .ok (.if_icmp .ne 16, 3) := by decide +kernel
theorem dX8_next_13 : decode cX8_next 13 = .ok (.aload_n 0, 1) := by decide +kernel
theorem dX8_next_14 : decode cX8_next 14 = .ok (.dup, 1) := by decide +kernel
theorem dX8_next_15 : decode cX8_next 15 = .ok (.getfield 304, 3) := by decide +kernel
theorem dX8_next_18 : decode cX8_next 18 = .ok (.iconst 1, 1) := by decide +kernel
theorem dX8_next_19 : decode cX8_next 19 = .ok (.iadd, 1) := by decide +kernel
theorem dX8_next_20 : decode cX8_next 20 = .ok (.putfield 304, 3) := by decide +kernel
theorem dX8_next_23 : decode cX8_next 23 = .ok (.goto (-23), 3) := by decide +kernel
theorem dX8_next_26 : decode cX8_next 26 = .ok (.aload_n 0, 1) := by decide +kernel
theorem dX8_next_27 : decode cX8_next 27 = .ok (.aload_n 0, 1) := by decide +kernel
theorem dX8_next_28 : decode cX8_next 28 = .ok (.getfield 304, 3) := by decide +kernel
theorem dX8_next_31 : decode cX8_next 31 = .ok (.putfield 307, 3) := by decide +kernel
theorem dX8_next_34 : decode cX8_next 34 = .ok (.aload_n 0, 1) := by decide +kernel
theorem dX8_next_35 : decode cX8_next 35 = .ok (.aload_n 0, 1) := by decide +kernel
theorem dX8_next_36 : decode cX8_next 36 = .ok (.getfield 304, 3) := by decide +kernel
theorem dX8_next_39 : decode cX8_next 39 = .ok (.invokevirtual 310, 3) := by decide +kernel
theorem dX8_next_42 : decode cX8_next 42 = .ok (.istore_n 1, 1) := by decide +kernel
theorem dX8_next_43 : decode cX8_next 43 = .ok (.aload_n 0, 1) := by decide +kernel
theorem dX8_next_44 : decode cX8_next 44 = .ok (.iload_n 1, 1) := by decide +kernel
theorem dX8_next_45 : decode cX8_next 45 = .ok (.ifCond .ge 7, 3) := by decide +kernel
theorem dX8_next_48 : decode cX8_next 48 = .ok (.iconst (-1), 1) := by decide +kernel
theorem dX8_next_49 : decode cX8_next 49 = .ok (.goto 25, 3) := by decide +kernel
theorem dX8_next_52 : decode cX8_next 52 = .ok (.iload_n 1, 1) := by decide +kernel
theorem dX8_next_53 : decode cX8_next 53 = .ok (.bipush 59, 2) := by decide +kernel
theorem dX8_next_55 : decode cX8_next 55 = .ok (.if_icmp .ne 7, 3) := by decide +kernel
theorem dX8_next_58 : decode cX8_next 58 = .ok (.iconst 0, 1) := by decide +kernel
theorem dX8_next_59 : decode cX8_next 59 = .ok (.goto 15, 3) := by decide +kernel
theorem dX8_next_62 : decode cX8_next 62 = .ok (.iload_n 1, 1) := by decide +kernel
theorem dX8_next_63 : decode cX8_next 63 = .ok (.bipush 45, 2) := by decide +kernel
theorem dX8_next_65 : decode cX8_next 65 = .ok (.if_icmp .ne 7, 3) := by decide +kernel
theorem dX8_next_68 : decode cX8_next 68 = .ok (.iconst 2, 1) := by decide +kernel
theorem dX8_next_69 : decode cX8_next 69 = .ok (.goto 5, 3) := by decide +kernel
theorem dX8_next_72 : decode cX8_next 72 = .ok (.bipush (-2), 2) := by decide +kernel
theorem dX8_next_74 : decode cX8_next 74 = .ok (.putfield 313, 3) := by decide +kernel
theorem dX8_next_77 : decode cX8_next 77 = .ok (.iload_n 1, 1) := by decide +kernel
theorem dX8_next_78 : decode cX8_next 78 = .ok (.i2l, 1) := by decide +kernel
theorem dX8_next_79 : decode cX8_next 79 = .ok (.ldc2_w 316, 3) := by decide +kernel
theorem dX8_next_82 : decode cX8_next 82 = .ok (.ldc2_w 318, 3) := by decide +kernel
theorem dX8_next_85 : decode cX8_next 85 = .ok (.invokestatic 93, 3) := by decide +kernel
theorem dX8_next_88 : decode cX8_next 88 = .ok (.ifCond .eq 77, 3) := by decide +kernel
theorem dX8_next_91 : decode cX8_next 91 = .ok (.aload_n 0, 1) := by decide +kernel
theorem dX8_next_92 : decode cX8_next 92 = .ok (.aload_n 0, 1) := by decide +kernel
theorem dX8_next_93 : decode cX8_next 93 = .ok (.getfield 304, 3) := by decide +kernel
theorem dX8_next_96 : decode cX8_next 96 = .ok (.invokevirtual 310, 3) := by decide +kernel
theorem dX8_next_99 : decode cX8_next 99 = .ok (.i2l, 1) := by decide +kernel
theorem dX8_next_100 : decode cX8_next 100 = .ok (.ldc2_w 316, 3) := by decide +kernel
theorem dX8_next_103 : decode cX8_next 103 = .ok (.ldc2_w 318, 3) := by decide +kernel
theorem dX8_next_106 : decode cX8_next 106 = .ok (.invokestatic 93, 3) := by decide +kernel
theorem dX8_next_109 : decode cX8_next 109 = .ok (.ifCond .eq 16, 3) := by decide +kernel
theorem dX8_next_112 : decode cX8_next 112 = .ok (.aload_n 0, 1) := by decide +kernel
theorem dX8_next_113 : decode cX8_next 113 = .ok (.dup, 1) := by decide +kernel
theorem dX8_next_114 : decode cX8_next 114 = .ok (.getfield 304, 3) := by decide +kernel
theorem dX8_next_117 : decode cX8_next 117 = .ok (.iconst 1, 1) := by decide +kernel
theorem dX8_next_118 : decode cX8_next 118 = .ok (.iadd, 1) := by decide +kernel
theorem dX8_next_119 : decode cX8_next 119 = .ok (.putfield 304, 3) := by decide +kernel
theorem dX8_next_122 : decode cX8_next 122 = .ok (.goto (-31), 3) := by decide +kernel
theorem dX8_next_125 : decode cX8_next 125 = .ok (.iconst 0, 1) := by decide +kernel
theorem dX8_next_126 : decode cX8_next 126 = .ok (.istore_n 2, 1) := by decide +kernel
theorem dX8_next_127 : decode cX8_next 127 = .ok (.iload_n 2, 1) := by decide +kernel
theorem dX8_next_128 : decode cX8_next 128 = .ok (.bipush 10, 2) := by decide +kernel
theorem dX8_next_130 : decode cX8_next 130 = .ok (.if_icmp .ge 32, 3) := by decide +kernel
theorem dX8_next_133 : decode cX8_next 133 = .ok (.aload_n 0, 1) := by decide +kernel
theorem dX8_next_134 : decode cX8_next 134 = .ok (.aload_n 0, 1) := by decide +kernel
theorem dX8_next_135 : decode cX8_next 135 = .ok (.iload_n 2, 1) := by decide +kernel
theorem dX8_next_136 : decode cX8_next 136 = .ok (.invokevirtual 320, 3) := by decide +kernel
theorem dX8_next_139 : decode cX8_next 139 = .ok (.ifCond .eq 10, 3) := by decide +kernel
theorem dX8_next_142 : decode cX8_next 142 = .ok (.bipush 10, 2) := by decide +kernel
theorem dX8_next_144 : decode cX8_next 144 = .ok (.iload_n 2, 1) := by decide +kernel
theorem dX8_next_145 : decode cX8_next 145 = .ok (.iadd, 1) := by decide +kernel
theorem dX8_next_146 : decode cX8_next 146 = .ok (.goto 7, 3) := by decide +kernel
theorem dX8_next_149 : decode cX8_next 149 = .ok (.aload_n 0, 1) := by decide +kernel
theorem dX8_next_150 : decode cX8_next 150 = .ok (.getfield 313, 3) := by decide +kernel
theorem dX8_next_153 : decode cX8_next 153 = .ok (.putfield 313, 3) := by decide +kernel
theorem dX8_next_156 : decode cX8_next 156 = .ok (.iinc 2 1, 3) := by decide +kernel
theorem dX8_next_159 : decode cX8_next 159 = .ok (.goto (-32), 3) := by decide +kernel
theorem dX8_next_162 : decode cX8_next 162 = .ok (.goto 133, 3) := by decide +kernel
theorem dX8_next_165 : decode cX8_next 165 = .ok (.iload_n 1, 1) := by decide +kernel
theorem dX8_next_166 : decode cX8_next 166 = .ok (.i2l, 1) := by decide +kernel
theorem dX8_next_167 : decode cX8_next 167 = .ok (.ldc2_w 323, 3) := by decide +kernel
theorem dX8_next_170 : decode cX8_next 170 = .ok (.ldc2_w 325, 3) := by decide +kernel
theorem dX8_next_173 : decode cX8_next 173 = .ok (.invokestatic 93, 3) := by decide +kernel
theorem dX8_next_176 : decode cX8_next 176 = .ok (.ifCond .eq 105, 3) := by decide +kernel
theorem dX8_next_179 : decode cX8_next 179 = .ok (.aload_n 0, 1) := by decide +kernel
theorem dX8_next_180 : decode cX8_next 180 = .ok (.iconst 0, 1) := by decide +kernel
theorem dX8_next_181 : decode cX8_next 181 = .ok (.putfield 327, 3) := by decide +kernel
theorem dX8_next_184 : decode cX8_next 184 = .ok (.aload_n 0, 1) := by decide +kernel
theorem dX8_next_185 : decode cX8_next 185 = .ok (.aload_n 0, 1) := by decide +kernel
theorem dX8_next_186 : decode cX8_next 186 = .ok (.getfield 304, 3) := by decide +kernel
theorem dX8_next_189 : decode cX8_next 189 = .ok (.invokevirtual 310, 3) := by decide +kernel
theorem dX8_next_192 : decode cX8_next 192 = .ok (.i2l, 1) := by decide +kernel
theorem dX8_next_193 : decode cX8_next 193 = .ok (.ldc2_w 323, 3) := by decide +kernel
theorem dX8_next_196 : decode cX8_next 196 = .ok (.ldc2_w 325, 3) := by decide +kernel
theorem dX8_next_199 : decode cX8_next 199 = .ok (.invokestatic 93, 3) := by decide +kernel
theorem dX8_next_202 : decode cX8_next 202 = .ok (.ifCond .eq 56, 3) := by decide +kernel
theorem dX8_next_205 : decode cX8_next 205 = .ok (.aload_n 0, 1) := by decide +kernel
theorem dX8_next_206 : decode cX8_next 206 = .ok (.aload_n 0, 1) := by decide +kernel
theorem dX8_next_207 : decode cX8_next 207 = .ok (.getfield 327, 3) := by decide +kernel
theorem dX8_next_210 : decode cX8_next 210 = .ok (.sipush 999, 3) := by decide +kernel
theorem dX8_next_213 : decode cX8_next 213 = .ok (.if_icmp .le 10, 3) := by decide +kernel
theorem dX8_next_216 : decode cX8_next 216 = .ok (.aload_n 0, 1) := by decide +kernel
theorem dX8_next_217 : decode cX8_next 217 = .ok (.getfield 327, 3) := by decide +kernel
theorem dX8_next_220 : decode cX8_next 220 = .ok (.goto 22, 3) := by decide +kernel
theorem dX8_next_223 : decode cX8_next 223 = .ok (.bipush 10, 2) := by decide +kernel
theorem dX8_next_225 : decode cX8_next 225 = .ok (.aload_n 0, 1) := by decide +kernel
theorem dX8_next_226 : decode cX8_next 226 = .ok (.getfield 327, 3) := by decide +kernel
theorem dX8_next_229 : decode cX8_next 229 = .ok (.imul, 1) := by decide +kernel
theorem dX8_next_230 : decode cX8_next 230 = .ok (.aload_n 0, 1) := by decide +kernel
theorem dX8_next_231 : decode cX8_next 231 = .ok (.aload_n 0, 1) := by decide +kernel
theorem dX8_next_232 : decode cX8_next 232 = .ok (.getfield 304, 3) := by decide +kernel
theorem dX8_next_235 : decode cX8_next 235 = .ok (.invokevirtual 310, 3) := by decide +kernel
theorem dX8_next_238 : decode cX8_next 238 = .ok (.iadd, 1) := by decide +kernel
theorem dX8_next_239 : decode cX8_next 239 = .ok (.bipush 48, 2) := by decide +kernel
theorem dX8_next_241 : decode cX8_next 241 = .ok (.isub, 1) := by decide +kernel
theorem dX8_next_242 : decode cX8_next 242 = .ok (.putfield 327, 3) := by decide +kernel
theorem dX8_next_245 : decode cX8_next 245 = .ok (.aload_n 0, 1) := by decide +kernel
theorem dX8_next_246 : decode cX8_next 246 = .ok (.dup, 1) := by decide +kernel
theorem dX8_next_247 : decode cX8_next 247 = .ok (.getfield 304, 3) := by decide +kernel
theorem dX8_next_250 : decode cX8_next 250 = .ok (.iconst 1, 1) := by decide +kernel
theorem dX8_next_251 : decode cX8_next 251 = .ok (.iadd, 1) := by decide +kernel
theorem dX8_next_252 : decode cX8_next 252 = .ok (.putfield 304, 3) := by decide +kernel
theorem dX8_next_255 : decode cX8_next 255 = .ok (.goto (-71), 3) := by decide +kernel
theorem dX8_next_258 : decode cX8_next 258 = .ok (.aload_n 0, 1) := by decide +kernel
theorem dX8_next_259 : decode cX8_next 259 = .ok (.aload_n 0, 1) := by decide +kernel
theorem dX8_next_260 : decode cX8_next 260 = .ok (.getfield 327, 3) := by decide +kernel
theorem dX8_next_263 : decode cX8_next 263 = .ok (.sipush 999, 3) := by decide +kernel
theorem dX8_next_266 : decode cX8_next 266 = .ok (.if_icmp .le 8, 3) := by decide +kernel
theorem dX8_next_269 : decode cX8_next 269 = .ok (.bipush (-2), 2) := by decide +kernel
theorem dX8_next_271 : decode cX8_next 271 = .ok (.goto 4, 3) := by decide +kernel
theorem dX8_next_274 : decode cX8_next 274 = .ok (.iconst 1, 1) := by decide +kernel
theorem dX8_next_275 : decode cX8_next 275 = .ok (.putfield 313, 3) := by decide +kernel
theorem dX8_next_278 : decode cX8_next 278 = .ok (.goto 17, 3) := by decide +kernel
theorem dX8_next_281 : decode cX8_next 281 = .ok (.iload_n 1, 1) := by decide +kernel
theorem dX8_next_282 : decode cX8_next 282 = .ok (.ifCond .lt 13, 3) := by decide +kernel
theorem dX8_next_285 : decode cX8_next 285 = .ok (.aload_n 0, 1) := by decide +kernel
theorem dX8_next_286 : decode cX8_next 286 = .ok (.dup, 1) := by decide +kernel
theorem dX8_next_287 : decode cX8_next 287 = .ok (.getfield 304, 3) := by decide +kernel
theorem dX8_next_290 : decode cX8_next 290 = .ok (.iconst 1, 1) := by decide +kernel
theorem dX8_next_291 : decode cX8_next 291 = .ok (.iadd, 1) := by decide +kernel
theorem dX8_next_292 : decode cX8_next 292 = .ok (.putfield 304, 3) := by decide +kernel
theorem dX8_next_295 : decode cX8_next 295 = .ok (.return_, 1) := by decide +kernel
theorem dX8_isWord_0 : decode cX8_isWord 0 = .ok (.aload_n 0, 1) := by decide +kernel
theorem dX8_isWord_1 : decode cX8_isWord 1 = .ok (.getfield 313, 3) := by decide +kernel
theorem dX8_isWord_4 : decode cX8_isWord 4 = .ok (.bipush 10, 2) := by decide +kernel
theorem dX8_isWord_6 : decode cX8_isWord 6 = .ok (.iload_n 1, 1) := by decide +kernel
theorem dX8_isWord_7 : decode cX8_isWord 7 = .ok (.iadd, 1) := by decide +kernel
theorem dX8_isWord_8 : decode cX8_isWord 8 = .ok (.if_icmp .ne 7, 3) := by decide +kernel
theorem dX8_isWord_11 : decode cX8_isWord 11 = .ok (.iconst 1, 1) := by decide +kernel
theorem dX8_isWord_12 : decode cX8_isWord 12 = .ok (.goto 4, 3) := by decide +kernel
theorem dX8_isWord_15 : decode cX8_isWord 15 = .ok (.iconst 0, 1) := by decide +kernel
theorem dX8_isWord_16 : decode cX8_isWord 16 = .ok (.ireturn, 1) := by decide +kernel
theorem dX8_seesNumber_0 : decode cX8_seesNumber 0 = .ok (.aload_n 0, 1) := by decide +kernel
theorem dX8_seesNumber_1 : decode cX8_seesNumber 1 = .ok (.iload_n 1, 1) := by decide +kernel
theorem dX8_seesNumber_2 : decode cX8_seesNumber 2 = .ok (.aload_n 0, 1) := by decide +kernel
theorem dX8_seesNumber_3 : decode cX8_seesNumber 3 = .ok (.getfield 327, 3) := by decide +kernel
theorem dX8_seesNumber_6 : decode cX8_seesNumber 6 = .ok (.imul, 1) := by decide +kernel
theorem dX8_seesNumber_7 : decode cX8_seesNumber 7 = .ok (.putfield 330, 3) := by decide +kernel
theorem dX8_seesNumber_10 : decode cX8_seesNumber 10 = .ok (.aload_n 0, 1) := by decide +kernel
theorem dX8_seesNumber_11 : decode cX8_seesNumber 11 = .ok (.getfield 313, 3) := by decide +kernel
theorem dX8_seesNumber_14 : decode cX8_seesNumber 14 = .ok (.iconst 1, 1) := by decide +kernel
theorem dX8_seesNumber_15 : decode cX8_seesNumber 15 = .ok (.if_icmp .ne 22, 3) := by decide +kernel
theorem dX8_seesNumber_18 : decode cX8_seesNumber 18 = .ok (.aload_n 0, 1) := by decide +kernel
theorem dX8_seesNumber_19 : decode cX8_seesNumber 19 = .ok (.getfield 330, 3) := by decide +kernel
theorem dX8_seesNumber_22 : decode cX8_seesNumber 22 = .ok (.i2l, 1) := by decide +kernel
theorem dX8_seesNumber_23 : decode cX8_seesNumber 23 = .ok (.iload_n 2, 1) := by decide +kernel
theorem dX8_seesNumber_24 : decode cX8_seesNumber 24 = .ok (.i2l, 1) := by decide +kernel
theorem dX8_seesNumber_25 : decode cX8_seesNumber 25 = .ok (.iload_n 3, 1) := by decide +kernel
theorem dX8_seesNumber_26 : decode cX8_seesNumber 26 = .ok (.i2l, 1) := by decide +kernel
theorem dX8_seesNumber_27 : decode cX8_seesNumber 27 = .ok (.invokestatic 93, 3) := by decide +kernel
theorem dX8_seesNumber_30 : decode cX8_seesNumber 30 = .ok (.ifCond .eq 7, 3) := by decide +kernel
theorem dX8_seesNumber_33 : decode cX8_seesNumber 33 = .ok (.iconst 1, 1) := by decide +kernel
theorem dX8_seesNumber_34 : decode cX8_seesNumber 34 = .ok (.goto 4, 3) := by decide +kernel
theorem dX8_seesNumber_37 : decode cX8_seesNumber 37 = .ok (.iconst 0, 1) := by decide +kernel
theorem dX8_seesNumber_38 : decode cX8_seesNumber 38 = .ok (.ireturn, 1) := by decide +kernel
theorem dX8_takesNumber_0 : decode cX8_takesNumber 0 = .ok (.aload_n 0, 1) := by decide +kernel
theorem dX8_takesNumber_1 : decode cX8_takesNumber 1 = .ok (.iconst 1, 1) := by decide +kernel
theorem dX8_takesNumber_2 : decode cX8_takesNumber 2 = .ok (.iload_n 1, 1) := by decide +kernel
theorem dX8_takesNumber_3 : decode cX8_takesNumber 3 = .ok (.iload_n 2, 1) := by decide +kernel
theorem dX8_takesNumber_4 : decode cX8_takesNumber 4 = .ok (.invokevirtual 333, 3) := by decide +kernel
theorem dX8_takesNumber_7 : decode cX8_takesNumber 7 = .ok (.ifCond .ne 5, 3) := by decide +kernel
theorem dX8_takesNumber_10 : decode cX8_takesNumber 10 = .ok (.iconst 0, 1) := by decide +kernel
theorem dX8_takesNumber_11 : decode cX8_takesNumber 11 = .ok (.ireturn, 1) := by decide +kernel
theorem dX8_takesNumber_12 : decode cX8_takesNumber 12 = .ok (.aload_n 0, 1) := by decide +kernel
theorem dX8_takesNumber_13 : decode cX8_takesNumber 13 = .ok (.invokevirtual 336, 3) := by decide +kernel
theorem dX8_takesNumber_16 : decode cX8_takesNumber 16 = .ok (.iconst 1, 1) := by decide +kernel
theorem dX8_takesNumber_17 : decode cX8_takesNumber 17 = .ok (.ireturn, 1) := by decide +kernel
theorem dX8_seesSigned_0 : decode cX8_seesSigned 0 = .ok (.iconst 1, 1) := by decide +kernel
theorem dX8_seesSigned_1 : decode cX8_seesSigned 1 = .ok (.istore_n 3, 1) := by decide +kernel
theorem dX8_seesSigned_2 : decode cX8_seesSigned 2 = .ok (.aload_n 0, 1) := by decide +kernel
theorem dX8_seesSigned_3 : decode cX8_seesSigned 3 = .ok (.getfield 313, 3) := by decide +kernel
theorem dX8_seesSigned_6 : decode cX8_seesSigned 6 = .ok (.iconst 2, 1) := by decide +kernel
theorem dX8_seesSigned_7 : decode cX8_seesSigned 7 = .ok (.if_icmp .ne 9, 3) := by decide +kernel
theorem dX8_seesSigned_10 : decode cX8_seesSigned 10 = .ok (.iconst (-1), 1) := by decide +kernel
theorem dX8_seesSigned_11 : decode cX8_seesSigned 11 = .ok (.istore_n 3, 1) := by decide +kernel
theorem dX8_seesSigned_12 : decode cX8_seesSigned 12 = .ok (.aload_n 0, 1) := by decide +kernel
theorem dX8_seesSigned_13 : decode cX8_seesSigned 13 = .ok (.invokevirtual 336, 3) := by decide +kernel
theorem dX8_seesSigned_16 : decode cX8_seesSigned 16 = .ok (.aload_n 0, 1) := by decide +kernel
theorem dX8_seesSigned_17 : decode cX8_seesSigned 17 = .ok (.iload_n 3, 1) := by decide +kernel
theorem dX8_seesSigned_18 : decode cX8_seesSigned 18 = .ok (.iload_n 1, 1) := by decide +kernel
theorem dX8_seesSigned_19 : decode cX8_seesSigned 19 = .ok (.iload_n 2, 1) := by decide +kernel
theorem dX8_seesSigned_20 : decode cX8_seesSigned 20 = .ok (.invokevirtual 333, 3) := by decide +kernel
theorem dX8_seesSigned_23 : decode cX8_seesSigned 23 = .ok (.ireturn, 1) := by decide +kernel
theorem dX8_takesSigned_0 : decode cX8_takesSigned 0 = .ok (.aload_n 0, 1) := by decide +kernel
theorem dX8_takesSigned_1 : decode cX8_takesSigned 1 = .ok (.iload_n 1, 1) := by decide +kernel
theorem dX8_takesSigned_2 : decode cX8_takesSigned 2 = .ok (.iload_n 2, 1) := by decide +kernel
theorem dX8_takesSigned_3 : decode cX8_takesSigned 3 = .ok (.invokevirtual 339, 3) := by decide +kernel
theorem dX8_takesSigned_6 : decode cX8_takesSigned 6 = .ok (.ifCond .ne 5, 3) := by decide +kernel
theorem dX8_takesSigned_9 : decode cX8_takesSigned 9 = .ok (.iconst 0, 1) := by decide +kernel
theorem dX8_takesSigned_10 : decode cX8_takesSigned 10 = .ok (.ireturn, 1) := by decide +kernel
theorem dX8_takesSigned_11 : decode cX8_takesSigned 11 = .ok (.aload_n 0, 1) := by decide +kernel
theorem dX8_takesSigned_12 : decode cX8_takesSigned 12 = .ok (.invokevirtual 336, 3) := by decide +kernel
theorem dX8_takesSigned_15 : decode cX8_takesSigned 15 = .ok (.iconst 1, 1) := by decide +kernel
theorem dX8_takesSigned_16 : decode cX8_takesSigned 16 = .ok (.ireturn, 1) := by decide +kernel
theorem dX8_readsLetters_0 : decode cX8_readsLetters 0 = .ok (.aload_n 0, 1) := by decide +kernel
theorem dX8_readsLetters_1 : decode cX8_readsLetters 1 = .ok (.invokevirtual 336, 3) := by decide +kernel
theorem dX8_readsLetters_4 : decode cX8_readsLetters 4 = .ok (.aload_n 0, 1) := by decide +kernel
theorem dX8_readsLetters_5 : decode cX8_readsLetters 5 = .ok (.iconst 1, 1) := by decide +kernel
theorem dX8_readsLetters_6 : decode cX8_readsLetters 6 = .ok (.iconst 1, 1) := by decide +kernel
theorem dX8_readsLetters_7 : decode cX8_readsLetters 7 = .ok (.iconst 4, 1) := by decide +kernel
theorem dX8_readsLetters_8 : decode cX8_readsLetters 8 = .ok (.invokevirtual 333, 3) := by decide +kernel
theorem dX8_readsLetters_11 : decode cX8_readsLetters 11 = .ok (.ifCond .eq 14, 3) := by decide +kernel
theorem dX8_readsLetters_14 : decode cX8_readsLetters 14 = .ok (.aload_n 0, 1) := by decide +kernel
theorem dX8_readsLetters_15 : decode cX8_readsLetters 15 = .ok (.aload_n 0, 1) := by decide +kernel
theorem dX8_readsLetters_16 : decode cX8_readsLetters 16 = .ok (.getfield 330, 3) := by decide +kernel
theorem dX8_readsLetters_19 : decode cX8_readsLetters 19 = .ok (.invokevirtual 106, 3) := by decide +kernel
theorem dX8_readsLetters_22 : decode cX8_readsLetters 22 = .ok (.ifCond .ne 5, 3) := by decide +kernel
theorem dX8_readsLetters_25 : decode cX8_readsLetters 25 = .ok (.iconst 0, 1) := by decide +kernel
theorem dX8_readsLetters_26 : decode cX8_readsLetters 26 = .ok (.ireturn, 1) := by decide +kernel
theorem dX8_readsLetters_27 : decode cX8_readsLetters 27 = .ok (.aload_n 0, 1) := by decide +kernel
theorem dX8_readsLetters_28 : decode cX8_readsLetters 28 = .ok (.invokevirtual 336, 3) := by decide +kernel
theorem dX8_readsLetters_31 : decode cX8_readsLetters 31 = .ok (.iconst 1, 1) := by decide +kernel
theorem dX8_readsLetters_32 : decode cX8_readsLetters 32 = .ok (.ireturn, 1) := by decide +kernel
theorem dX8_readsBox_0 : decode cX8_readsBox 0 = .ok (.aload_n 0, 1) := by decide +kernel
theorem dX8_readsBox_1 : decode cX8_readsBox 1 = .ok (.invokevirtual 336, 3) := by decide +kernel
theorem dX8_readsBox_4 : decode cX8_readsBox 4 = .ok (.aload_n 0, 1) := by decide +kernel
theorem dX8_readsBox_5 : decode cX8_readsBox 5 = .ok (.iconst 0, 1) := by decide +kernel
theorem dX8_readsBox_6 : decode cX8_readsBox 6 = .ok (.aload_n 0, 1) := by decide +kernel
theorem dX8_readsBox_7 : decode cX8_readsBox 7 = .ok (.getfield 13, 3) := by decide +kernel
theorem dX8_readsBox_10 : decode cX8_readsBox 10 = .ok (.iconst 1, 1) := by decide +kernel
theorem dX8_readsBox_11 : decode cX8_readsBox 11 = .ok (.isub, 1) := by decide +kernel
theorem dX8_readsBox_12 : decode cX8_readsBox 12 = .ok (.invokevirtual 342, 3) := by decide +kernel
theorem dX8_readsBox_15 : decode cX8_readsBox 15 = .ok (.ifCond .ne 5, 3) := by decide +kernel
theorem dX8_readsBox_18 : decode cX8_readsBox 18 = .ok (.iconst 0, 1) := by decide +kernel
theorem dX8_readsBox_19 : decode cX8_readsBox 19 = .ok (.ireturn, 1) := by decide +kernel
theorem dX8_readsBox_20 : decode cX8_readsBox 20 = .ok (.aload_n 0, 1) := by decide +kernel
theorem dX8_readsBox_21 : decode cX8_readsBox 21 = .ok (.getfield 330, 3) := by decide +kernel
theorem dX8_readsBox_24 : decode cX8_readsBox 24 = .ok (.istore_n 1, 1) := by decide +kernel
theorem dX8_readsBox_25 : decode cX8_readsBox 25 = .ok (.aload_n 0, 1) := by decide +kernel
theorem dX8_readsBox_26 : decode cX8_readsBox 26 = .ok (.bipush (-9), 2) := by decide +kernel
theorem dX8_readsBox_28 : decode cX8_readsBox 28 = .ok (.bipush 9, 2) := by decide +kernel
theorem dX8_readsBox_30 : decode cX8_readsBox 30 = .ok (.invokevirtual 345, 3) := by decide +kernel
theorem dX8_readsBox_33 : decode cX8_readsBox 33 = .ok (.ifCond .ne 5, 3) := by decide +kernel
theorem dX8_readsBox_36 : decode cX8_readsBox 36 = .ok (.iconst 0, 1) := by decide +kernel
theorem dX8_readsBox_37 : decode cX8_readsBox 37 = .ok (.ireturn, 1) := by decide +kernel
theorem dX8_readsBox_38 : decode cX8_readsBox 38 = .ok (.aload_n 0, 1) := by decide +kernel
theorem dX8_readsBox_39 : decode cX8_readsBox 39 = .ok (.getfield 330, 3) := by decide +kernel
theorem dX8_readsBox_42 : decode cX8_readsBox 42 = .ok (.istore_n 2, 1) := by decide +kernel
theorem dX8_readsBox_43 : decode cX8_readsBox 43 = .ok (.aload_n 0, 1) := by decide +kernel
theorem dX8_readsBox_44 : decode cX8_readsBox 44 = .ok (.iload_n 2, 1) := by decide +kernel
theorem dX8_readsBox_45 : decode cX8_readsBox 45 = .ok (.bipush 9, 2) := by decide +kernel
theorem dX8_readsBox_47 : decode cX8_readsBox 47 = .ok (.invokevirtual 339, 3) := by decide +kernel
theorem dX8_readsBox_50 : decode cX8_readsBox 50 = .ok (.ifCond .eq 16, 3) := by decide +kernel
theorem dX8_readsBox_53 : decode cX8_readsBox 53 = .ok (.aload_n 0, 1) := by decide +kernel
theorem dX8_readsBox_54 : decode cX8_readsBox 54 = .ok (.iload_n 1, 1) := by decide +kernel
theorem dX8_readsBox_55 : decode cX8_readsBox 55 = .ok (.iload_n 2, 1) := by decide +kernel
theorem dX8_readsBox_56 : decode cX8_readsBox 56 = .ok (.aload_n 0, 1) := by decide +kernel
theorem dX8_readsBox_57 : decode cX8_readsBox 57 = .ok (.getfield 330, 3) := by decide +kernel
theorem dX8_readsBox_60 : decode cX8_readsBox 60 = .ok (.invokevirtual 122, 3) := by decide +kernel
theorem dX8_readsBox_63 : decode cX8_readsBox 63 = .ok (.ifCond .ne 5, 3) := by decide +kernel
theorem dX8_readsBox_66 : decode cX8_readsBox 66 = .ok (.iconst 0, 1) := by decide +kernel
theorem dX8_readsBox_67 : decode cX8_readsBox 67 = .ok (.ireturn, 1) := by decide +kernel
theorem dX8_readsBox_68 : decode cX8_readsBox 68 = .ok (.aload_n 0, 1) := by decide +kernel
theorem dX8_readsBox_69 : decode cX8_readsBox 69 = .ok (.invokevirtual 336, 3) := by decide +kernel
theorem dX8_readsBox_72 : decode cX8_readsBox 72 = .ok (.iconst 1, 1) := by decide +kernel
theorem dX8_readsBox_73 : decode cX8_readsBox 73 = .ok (.ireturn, 1) := by decide +kernel
theorem dX8_readsRow_0 : decode cX8_readsRow 0 = .ok (.aload_n 0, 1) := by decide +kernel
theorem dX8_readsRow_1 : decode cX8_readsRow 1 = .ok (.getfield 97, 3) := by decide +kernel
theorem dX8_readsRow_4 : decode cX8_readsRow 4 = .ok (.bipush 8, 2) := by decide +kernel
theorem dX8_readsRow_6 : decode cX8_readsRow 6 = .ok (.if_icmp .ne 5, 3) := by decide +kernel
theorem dX8_readsRow_9 : decode cX8_readsRow 9 = .ok (.iconst 0, 1) := by decide +kernel
theorem dX8_readsRow_10 : decode cX8_readsRow 10 = .ok (.ireturn, 1) := by decide +kernel
theorem dX8_readsRow_11 : decode cX8_readsRow 11 = .ok (.aload_n 0, 1) := by decide +kernel
theorem dX8_readsRow_12 : decode cX8_readsRow 12 = .ok (.invokevirtual 336, 3) := by decide +kernel
theorem dX8_readsRow_15 : decode cX8_readsRow 15 = .ok (.aload_n 0, 1) := by decide +kernel
theorem dX8_readsRow_16 : decode cX8_readsRow 16 = .ok (.iload_n 1, 1) := by decide +kernel
theorem dX8_readsRow_17 : decode cX8_readsRow 17 = .ok (.iconst 0, 1) := by decide +kernel
theorem dX8_readsRow_18 : decode cX8_readsRow 18 = .ok (.iconst 1, 1) := by decide +kernel
theorem dX8_readsRow_19 : decode cX8_readsRow 19 = .ok (.invokevirtual 138, 3) := by decide +kernel
theorem dX8_readsRow_22 : decode cX8_readsRow 22 = .ok (.bipush 7, 2) := by decide +kernel
theorem dX8_readsRow_24 : decode cX8_readsRow 24 = .ok (.aload_n 0, 1) := by decide +kernel
theorem dX8_readsRow_25 : decode cX8_readsRow 25 = .ok (.getfield 97, 3) := by decide +kernel
theorem dX8_readsRow_28 : decode cX8_readsRow 28 = .ok (.iconst 1, 1) := by decide +kernel
theorem dX8_readsRow_29 : decode cX8_readsRow 29 = .ok (.isub, 1) := by decide +kernel
theorem dX8_readsRow_30 : decode cX8_readsRow 30 = .ok (.imul, 1) := by decide +kernel
theorem dX8_readsRow_31 : decode cX8_readsRow 31 = .ok (.istore_n 2, 1) := by decide +kernel
theorem dX8_readsRow_32 : decode cX8_readsRow 32 = .ok (.iconst 0, 1) := by decide +kernel
theorem dX8_readsRow_33 : decode cX8_readsRow 33 = .ok (.istore_n 3, 1) := by decide +kernel
theorem dX8_readsRow_34 : decode cX8_readsRow 34 = .ok (.iload_n 3, 1) := by decide +kernel
theorem dX8_readsRow_35 : decode cX8_readsRow 35 = .ok (.aload_n 0, 1) := by decide +kernel
theorem dX8_readsRow_36 : decode cX8_readsRow 36 = .ok (.getfield 13, 3) := by decide +kernel
theorem dX8_readsRow_39 : decode cX8_readsRow 39 = .ok (.if_icmp .ge 36, 3) := by decide +kernel
theorem dX8_readsRow_42 : decode cX8_readsRow 42 = .ok (.aload_n 0, 1) := by decide +kernel
theorem dX8_readsRow_43 : decode cX8_readsRow 43 = .ok (.bipush (-9), 2) := by decide +kernel
theorem dX8_readsRow_45 : decode cX8_readsRow 45 = .ok (.bipush 9, 2) := by decide +kernel
theorem dX8_readsRow_47 : decode cX8_readsRow 47 = .ok (.invokevirtual 345, 3) := by decide +kernel
theorem dX8_readsRow_50 : decode cX8_readsRow 50 = .ok (.ifCond .ne 5, 3) := by decide +kernel
theorem dX8_readsRow_53 : decode cX8_readsRow 53 = .ok (.iconst 0, 1) := by decide +kernel
theorem dX8_readsRow_54 : decode cX8_readsRow 54 = .ok (.ireturn, 1) := by decide +kernel
theorem dX8_readsRow_55 : decode cX8_readsRow 55 = .ok (.aload_n 0, 1) := by decide +kernel
theorem dX8_readsRow_56 : decode cX8_readsRow 56 = .ok (.getfield 23, 3) := by decide +kernel
theorem dX8_readsRow_59 : decode cX8_readsRow 59 = .ok (.iload_n 2, 1) := by decide +kernel
theorem dX8_readsRow_60 : decode cX8_readsRow 60 = .ok (.iconst 3, 1) := by decide +kernel
theorem dX8_readsRow_61 : decode cX8_readsRow 61 = .ok (.iadd, 1) := by decide +kernel
theorem dX8_readsRow_62 : decode cX8_readsRow 62 = .ok (.iload_n 3, 1) := by decide +kernel
theorem dX8_readsRow_63 : decode cX8_readsRow 63 = .ok (.iadd, 1) := by decide +kernel
theorem dX8_readsRow_64 : decode cX8_readsRow 64 = .ok (.aload_n 0, 1) := by decide +kernel
theorem dX8_readsRow_65 : decode cX8_readsRow 65 = .ok (.getfield 330, 3) := by decide +kernel
theorem dX8_readsRow_68 : decode cX8_readsRow 68 = .ok (.iastore, 1) := by decide +kernel
theorem dX8_readsRow_69 : decode cX8_readsRow 69 = .ok (.iinc 3 1, 3) := by decide +kernel
theorem dX8_readsRow_72 : decode cX8_readsRow 72 = .ok (.goto (-38), 3) := by decide +kernel
theorem dX8_readsRow_75 : decode cX8_readsRow 75 = .ok (.aload_n 0, 1) := by decide +kernel
theorem dX8_readsRow_76 : decode cX8_readsRow 76 = .ok (.bipush 8, 2) := by decide +kernel
theorem dX8_readsRow_78 : decode cX8_readsRow 78 = .ok (.invokevirtual 348, 3) := by decide +kernel
theorem dX8_readsRow_81 : decode cX8_readsRow 81 = .ok (.ifCond .eq 34, 3) := by decide +kernel
theorem dX8_readsRow_84 : decode cX8_readsRow 84 = .ok (.aload_n 0, 1) := by decide +kernel
theorem dX8_readsRow_85 : decode cX8_readsRow 85 = .ok (.invokevirtual 336, 3) := by decide +kernel
theorem dX8_readsRow_88 : decode cX8_readsRow 88 = .ok (.aload_n 0, 1) := by decide +kernel
theorem dX8_readsRow_89 : decode cX8_readsRow 89 = .ok (.sipush (-999), 3) := by decide +kernel
theorem dX8_readsRow_92 : decode cX8_readsRow 92 = .ok (.sipush 999, 3) := by decide +kernel
theorem dX8_readsRow_95 : decode cX8_readsRow 95 = .ok (.invokevirtual 345, 3) := by decide +kernel
theorem dX8_readsRow_98 : decode cX8_readsRow 98 = .ok (.ifCond .ne 5, 3) := by decide +kernel
theorem dX8_readsRow_101 : decode cX8_readsRow 101 = .ok (.iconst 0, 1) := by decide +kernel
theorem dX8_readsRow_102 : decode cX8_readsRow 102 = .ok (.ireturn, 1) := by decide +kernel
theorem dX8_readsRow_103 : decode cX8_readsRow 103 = .ok (.aload_n 0, 1) := by decide +kernel
theorem dX8_readsRow_104 : decode cX8_readsRow 104 = .ok (.getfield 23, 3) := by decide +kernel
theorem dX8_readsRow_107 : decode cX8_readsRow 107 = .ok (.iload_n 2, 1) := by decide +kernel
theorem dX8_readsRow_108 : decode cX8_readsRow 108 = .ok (.iconst 1, 1) := by decide +kernel
theorem dX8_readsRow_109 : decode cX8_readsRow 109 = .ok (.iadd, 1) := by decide +kernel
theorem dX8_readsRow_110 : decode cX8_readsRow 110 = .ok (.aload_n 0, 1) := by decide +kernel
theorem dX8_readsRow_111 : decode cX8_readsRow 111 = .ok (.getfield 330, 3) := by decide +kernel
theorem dX8_readsRow_114 : decode cX8_readsRow 114 = .ok (.iastore, 1) := by decide +kernel
theorem dX8_readsRow_115 : decode cX8_readsRow 115 = .ok (.aload_n 0, 1) := by decide +kernel
theorem dX8_readsRow_116 : decode cX8_readsRow 116 = .ok (.bipush 9, 2) := by decide +kernel
theorem dX8_readsRow_118 : decode cX8_readsRow 118 = .ok (.invokevirtual 348, 3) := by decide +kernel
theorem dX8_readsRow_121 : decode cX8_readsRow 121 = .ok (.ifCond .eq 31, 3) := by decide +kernel
theorem dX8_readsRow_124 : decode cX8_readsRow 124 = .ok (.aload_n 0, 1) := by decide +kernel
theorem dX8_readsRow_125 : decode cX8_readsRow 125 = .ok (.invokevirtual 336, 3) := by decide +kernel
theorem dX8_readsRow_128 : decode cX8_readsRow 128 = .ok (.aload_n 0, 1) := by decide +kernel
theorem dX8_readsRow_129 : decode cX8_readsRow 129 = .ok (.iconst 1, 1) := by decide +kernel
theorem dX8_readsRow_130 : decode cX8_readsRow 130 = .ok (.bipush 99, 2) := by decide +kernel
theorem dX8_readsRow_132 : decode cX8_readsRow 132 = .ok (.invokevirtual 342, 3) := by decide +kernel
theorem dX8_readsRow_135 : decode cX8_readsRow 135 = .ok (.ifCond .ne 5, 3) := by decide +kernel
theorem dX8_readsRow_138 : decode cX8_readsRow 138 = .ok (.iconst 0, 1) := by decide +kernel
theorem dX8_readsRow_139 : decode cX8_readsRow 139 = .ok (.ireturn, 1) := by decide +kernel
theorem dX8_readsRow_140 : decode cX8_readsRow 140 = .ok (.aload_n 0, 1) := by decide +kernel
theorem dX8_readsRow_141 : decode cX8_readsRow 141 = .ok (.getfield 23, 3) := by decide +kernel
theorem dX8_readsRow_144 : decode cX8_readsRow 144 = .ok (.iload_n 2, 1) := by decide +kernel
theorem dX8_readsRow_145 : decode cX8_readsRow 145 = .ok (.iconst 2, 1) := by decide +kernel
theorem dX8_readsRow_146 : decode cX8_readsRow 146 = .ok (.iadd, 1) := by decide +kernel
theorem dX8_readsRow_147 : decode cX8_readsRow 147 = .ok (.aload_n 0, 1) := by decide +kernel
theorem dX8_readsRow_148 : decode cX8_readsRow 148 = .ok (.getfield 330, 3) := by decide +kernel
theorem dX8_readsRow_151 : decode cX8_readsRow 151 = .ok (.iastore, 1) := by decide +kernel
theorem dX8_readsRow_152 : decode cX8_readsRow 152 = .ok (.iconst 1, 1) := by decide +kernel
theorem dX8_readsRow_153 : decode cX8_readsRow 153 = .ok (.ireturn, 1) := by decide +kernel
theorem dX8_readsItem_0 : decode cX8_readsItem 0 = .ok (.aload_n 0, 1) := by decide +kernel
theorem dX8_readsItem_1 : decode cX8_readsItem 1 = .ok (.getfield 313, 3) := by decide +kernel
theorem dX8_readsItem_4 : decode cX8_readsItem 4 = .ok (.bipush 10, 2) := by decide +kernel
theorem dX8_readsItem_6 : decode cX8_readsItem 6 = .ok (.isub, 1) := by decide +kernel
theorem dX8_readsItem_7 : decode cX8_readsItem 7 = .ok (.istore_n 1, 1) := by decide +kernel
theorem dX8_readsItem_8 : decode cX8_readsItem 8 = .ok (.iload_n 1, 1) := by decide +kernel
theorem dX8_readsItem_9 : decode cX8_readsItem 9 = .ok (.i2l, 1) := by decide +kernel
theorem dX8_readsItem_10 : decode cX8_readsItem 10 = .ok (.lconst 0, 1) := by decide +kernel
theorem dX8_readsItem_11 : decode cX8_readsItem 11 = .ok (.ldc2_w 126, 3) := by decide +kernel
theorem dX8_readsItem_14 : decode cX8_readsItem 14 = .ok (.invokestatic 93, 3) := by decide +kernel
theorem dX8_readsItem_17 : decode cX8_readsItem 17 = .ok (.ifCond .eq 11, 3) := by decide +kernel
theorem dX8_readsItem_20 : decode cX8_readsItem 20 = .ok (.aload_n 0, 1) := by decide +kernel
theorem dX8_readsItem_21 : decode cX8_readsItem 21 = .ok (.iload_n 1, 1) := by decide +kernel
theorem dX8_readsItem_22 : decode cX8_readsItem 22 = .ok (.invokevirtual 351, 3) := by decide +kernel
theorem dX8_readsItem_25 : decode cX8_readsItem 25 = .ok (.goto 34, 3) := by decide +kernel
theorem dX8_readsItem_28 : decode cX8_readsItem 28 = .ok (.iload_n 1, 1) := by decide +kernel
theorem dX8_readsItem_29 : decode cX8_readsItem 29 = .ok (.bipush 6, 2) := by decide +kernel
theorem dX8_readsItem_31 : decode cX8_readsItem 31 = .ok (.if_icmp .ne 10, 3) := by decide +kernel
theorem dX8_readsItem_34 : decode cX8_readsItem 34 = .ok (.aload_n 0, 1) := by decide +kernel
theorem dX8_readsItem_35 : decode cX8_readsItem 35 = .ok (.invokevirtual 354, 3) := by decide +kernel
theorem dX8_readsItem_38 : decode cX8_readsItem 38 = .ok (.goto 21, 3) := by decide +kernel
theorem dX8_readsItem_41 : decode cX8_readsItem 41 = .ok (.iload_n 1, 1) := by decide +kernel
theorem dX8_readsItem_42 : decode cX8_readsItem 42 = .ok (.bipush 7, 2) := by decide +kernel
theorem dX8_readsItem_44 : decode cX8_readsItem 44 = .ok (.if_icmp .ne 14, 3) := by decide +kernel
theorem dX8_readsItem_47 : decode cX8_readsItem 47 = .ok (.aload_n 0, 1) := by decide +kernel
theorem dX8_readsItem_48 : decode cX8_readsItem 48 = .ok (.invokevirtual 357, 3) := by decide +kernel
theorem dX8_readsItem_51 : decode cX8_readsItem 51 = .ok (.ifCond .eq 7, 3) := by decide +kernel
theorem dX8_readsItem_54 : decode cX8_readsItem 54 = .ok (.iconst 1, 1) := by decide +kernel
theorem dX8_readsItem_55 : decode cX8_readsItem 55 = .ok (.goto 4, 3) := by decide +kernel
theorem dX8_readsItem_58 : decode cX8_readsItem 58 = .ok (.iconst 0, 1) := by decide +kernel
theorem dX8_readsItem_59 : decode cX8_readsItem 59 = .ok (.ireturn, 1) := by decide +kernel
theorem dX8_text_0 : decode cX8_text 0 = .ok (.aload_n 0, 1) := by decide +kernel
theorem dX8_text_1 : decode cX8_text 1 = .ok (.aload_n 0, 1) := by decide +kernel
theorem dX8_text_2 : decode cX8_text 2 = .ok (.getfield 86, 3) := by decide +kernel
theorem dX8_text_5 : decode cX8_text 5 = .ok (.invokevirtual 360, 3) := by decide +kernel
theorem dX8_text_8 : decode cX8_text 8 = .ok (.aload_n 0, 1) := by decide +kernel
theorem dX8_text_9 : decode cX8_text 9 = .ok (.iconst 0, 1) := by decide +kernel
theorem dX8_text_10 : decode cX8_text 10 = .ok (.putfield 304, 3) := by decide +kernel
theorem dX8_text_13 : decode cX8_text 13 = .ok (.aload_n 0, 1) := by decide +kernel
theorem dX8_text_14 : decode cX8_text 14 = .ok (.invokevirtual 336, 3) := by decide +kernel
theorem dX8_text_17 : decode cX8_text 17 = .ok (.iconst 1, 1) := by decide +kernel
theorem dX8_text_18 : decode cX8_text 18 = .ok (.istore_n 1, 1) := by decide +kernel
theorem dX8_text_19 : decode cX8_text 19 = .ok (.aload_n 0, 1) := by decide +kernel
theorem dX8_text_20 : decode cX8_text 20 = .ok (.invokevirtual 364, 3) := by decide +kernel
theorem dX8_text_23 : decode cX8_text 23 = .ok (.istore_n 2, 1) := by decide +kernel
theorem dX8_text_24 : decode cX8_text 24 = .ok (.iload_n 2, 1) := by decide +kernel
theorem dX8_text_25 : decode cX8_text 25 = .ok (.ifCond .eq 25, 3) := by decide +kernel
theorem dX8_text_28 : decode cX8_text 28 = .ok (.aload_n 0, 1) := by decide +kernel
theorem dX8_text_29 : decode cX8_text 29 = .ok (.getfield 313, 3) := by decide +kernel
theorem dX8_text_32 : decode cX8_text 32 = .ok (.ifCond .ne 18, 3) := by decide +kernel
theorem dX8_text_35 : decode cX8_text 35 = .ok (.aload_n 0, 1) := by decide +kernel
theorem dX8_text_36 : decode cX8_text 36 = .ok (.invokevirtual 336, 3) := by decide +kernel
theorem dX8_text_39 : decode cX8_text 39 = .ok (.aload_n 0, 1) := by decide +kernel
theorem dX8_text_40 : decode cX8_text 40 = .ok (.invokevirtual 364, 3) := by decide +kernel
theorem dX8_text_43 : decode cX8_text 43 = .ok (.istore_n 2, 1) := by decide +kernel
theorem dX8_text_44 : decode cX8_text 44 = .ok (.iinc 1 1, 3) := by decide +kernel
theorem dX8_text_47 : decode cX8_text 47 = .ok (.goto (-23), 3) := by decide +kernel
theorem dX8_text_50 : decode cX8_text 50 = .ok (.iload_n 2, 1) := by decide +kernel
theorem dX8_text_51 : decode cX8_text 51 = .ok (.ifCond .eq 15, 3) := by decide +kernel
theorem dX8_text_54 : decode cX8_text 54 = .ok (.aload_n 0, 1) := by decide +kernel
theorem dX8_text_55 : decode cX8_text 55 = .ok (.getfield 313, 3) := by decide +kernel
theorem dX8_text_58 : decode cX8_text 58 = .ok (.iconst (-1), 1) := by decide +kernel
theorem dX8_text_59 : decode cX8_text 59 = .ok (.if_icmp .ne 7, 3) := by decide +kernel
theorem dX8_text_62 : decode cX8_text 62 = .ok (.iconst 1, 1) := by decide +kernel
theorem dX8_text_63 : decode cX8_text 63 = .ok (.goto 4, 3) := by decide +kernel
theorem dX8_text_66 : decode cX8_text 66 = .ok (.iconst 0, 1) := by decide +kernel
theorem dX8_text_67 : decode cX8_text 67 = .ok (.istore_n 2, 1) := by decide +kernel
theorem dX8_text_68 : decode cX8_text 68 = .ok (.aload_n 0, 1) := by decide +kernel
theorem dX8_text_69 : decode cX8_text 69 = .ok (.iconst 0, 1) := by decide +kernel
theorem dX8_text_70 : decode cX8_text 70 = .ok (.putfield 301, 3) := by decide +kernel
theorem dX8_text_73 : decode cX8_text 73 = .ok (.iload_n 2, 1) := by decide +kernel
theorem dX8_text_74 : decode cX8_text 74 = .ok (.ifCond .eq 5, 3) := by decide +kernel
theorem dX8_text_77 : decode cX8_text 77 = .ok (.iload_n 1, 1) := by decide +kernel
theorem dX8_text_78 : decode cX8_text 78 = .ok (.ireturn, 1) := by decide +kernel
theorem dX8_text_79 : decode cX8_text 79 = .ok (.aload_n 0, 1) := by decide +kernel
theorem dX8_text_80 : decode cX8_text 80 = .ok (.aload_n 0, 1) := by decide +kernel
theorem dX8_text_81 : decode cX8_text 81 = .ok (.getfield 86, 3) := by decide +kernel
theorem dX8_text_84 : decode cX8_text 84 = .ok (.invokevirtual 367, 3) := by decide +kernel
theorem dX8_text_87 : decode cX8_text 87 = .ok (.iconst (-1), 1) := by decide +kernel
theorem dX8_text_88 : decode cX8_text 88 = .ok (.aload_n 0, 1) := by decide +kernel
theorem dX8_text_89 : decode cX8_text 89 = .ok (.getfield 307, 3) := by decide +kernel
theorem dX8_text_92 : decode cX8_text 92 = .ok (.isub, 1) := by decide +kernel
theorem dX8_text_93 : decode cX8_text 93 = .ok (.ireturn, 1) := by decide +kernel
theorem dX8_isSheet_0 : decode cX8_isSheet 0 = .ok (.iload_n 0, 1) := by decide +kernel
theorem dX8_isSheet_1 : decode cX8_isSheet 1 = .ok (.i2l, 1) := by decide +kernel
theorem dX8_isSheet_2 : decode cX8_isSheet 2 = .ok (.lconst 0, 1) := by decide +kernel
theorem dX8_isSheet_3 : decode cX8_isSheet 3 = .ok (.ldc2_w 265, 3) := by decide +kernel
theorem dX8_isSheet_6 : decode cX8_isSheet 6 = .ok (.invokestatic 93, 3) := by decide +kernel
theorem dX8_isSheet_9 : decode cX8_isSheet 9 = .ok (.ireturn, 1) := by decide +kernel
theorem dX8_narrow_0 : decode cX8_narrow 0 = .ok (.iload_n 0, 1) := by decide +kernel
theorem dX8_narrow_1 : decode cX8_narrow 1 = .ok (.bipush 8, 2) := by decide +kernel
theorem dX8_narrow_3 : decode cX8_narrow 3 = .ok (.if_icmp .ne 10, 3) := by decide +kernel
theorem dX8_narrow_6 : decode cX8_narrow 6 = .ok (.lload_n 1, 1) := by decide +kernel
theorem dX8_narrow_7 : decode cX8_narrow 7 = .ok (.l2i, 1) := by decide +kernel
theorem dX8_narrow_8 : decode cX8_narrow 8 = .ok (.i2b, 1) := by decide +kernel
theorem dX8_narrow_9 : decode cX8_narrow 9 = .ok (.i2l, 1) := by decide +kernel
theorem dX8_narrow_10 : decode cX8_narrow 10 = .ok (.goto 17, 3) := by decide +kernel
theorem dX8_narrow_13 : decode cX8_narrow 13 = .ok (.iload_n 0, 1) := by decide +kernel
theorem dX8_narrow_14 : decode cX8_narrow 14 = .ok (.bipush 16, 2) := by decide +kernel
theorem dX8_narrow_16 : decode cX8_narrow 16 = .ok (.if_icmp .ne 10, 3) := by decide +kernel
theorem dX8_narrow_19 : decode cX8_narrow 19 = .ok (.lload_n 1, 1) := by decide +kernel
theorem dX8_narrow_20 : decode cX8_narrow 20 = .ok (.l2i, 1) := by decide +kernel
theorem dX8_narrow_21 : decode cX8_narrow 21 = .ok (.i2s, 1) := by decide +kernel
theorem dX8_narrow_22 : decode cX8_narrow 22 = .ok (.i2l, 1) := by decide +kernel
theorem dX8_narrow_23 : decode cX8_narrow 23 = .ok (.goto 4, 3) := by decide +kernel
theorem dX8_narrow_26 : decode cX8_narrow 26 = .ok (.lload_n 1, 1) := by decide +kernel
theorem dX8_narrow_27 : decode cX8_narrow 27 = .ok (.lreturn, 1) := by decide +kernel
theorem dX8_sheet_0 : decode cX8_sheet 0 = .ok (.iload_n 1, 1) := by decide +kernel
theorem dX8_sheet_1 : decode cX8_sheet 1 = .ok (.invokestatic 195, 3) := by decide +kernel
theorem dX8_sheet_4 : decode cX8_sheet 4 = .ok (.ifCond .eq 25, 3) := by decide +kernel
theorem dX8_sheet_7 : decode cX8_sheet 7 = .ok (.iload_n 2, 1) := by decide +kernel
theorem dX8_sheet_8 : decode cX8_sheet 8 = .ok (.ifCond .eq 28, 3) := by decide +kernel
theorem dX8_sheet_11 : decode cX8_sheet 11 = .ok (.iload_n 2, 1) := by decide +kernel
theorem dX8_sheet_12 : decode cX8_sheet 12 = .ok (.bipush 8, 2) := by decide +kernel
theorem dX8_sheet_14 : decode cX8_sheet 14 = .ok (.if_icmp .eq 22, 3) := by decide +kernel
theorem dX8_sheet_17 : decode cX8_sheet 17 = .ok (.iload_n 2, 1) := by decide +kernel
theorem dX8_sheet_18 : decode cX8_sheet 18 = .ok (.bipush 16, 2) := by decide +kernel
theorem dX8_sheet_20 : decode cX8_sheet 20 = .ok (.if_icmp .eq 16, 3) := by decide +kernel
theorem dX8_sheet_23 : decode cX8_sheet 23 = .ok (.iload_n 2, 1) := by decide +kernel
theorem dX8_sheet_24 : decode cX8_sheet 24 = .ok (.bipush 64, 2) := by decide +kernel
theorem dX8_sheet_26 : decode cX8_sheet 26 = .ok (.if_icmp .eq 10, 3) := by decide +kernel
theorem dX8_sheet_29 : decode cX8_sheet 29 = .ok (.aload_n 0, 1) := by decide +kernel
theorem dX8_sheet_30 : decode cX8_sheet 30 = .ok (.ldc 92, 2) := by decide +kernel
theorem dX8_sheet_32 : decode cX8_sheet 32 = .ok (.invokevirtual 102, 3) := by decide +kernel
theorem dX8_sheet_35 : decode cX8_sheet 35 = .ok (.ireturn, 1) := by decide +kernel
theorem dX8_sheet_36 : decode cX8_sheet 36 = .ok (.iload_n 2, 1) := by decide +kernel
theorem dX8_sheet_37 : decode cX8_sheet 37 = .ok (.ifCond .eq 14, 3) := by decide +kernel
theorem dX8_sheet_40 : decode cX8_sheet 40 = .ok (.iload_n 3, 1) := by decide +kernel
theorem dX8_sheet_41 : decode cX8_sheet 41 = .ok (.ifCond .ge 10, 3) := by decide +kernel
theorem dX8_sheet_44 : decode cX8_sheet 44 = .ok (.aload_n 0, 1) := by decide +kernel
theorem dX8_sheet_45 : decode cX8_sheet 45 = .ok (.ldc 199, 2) := by decide +kernel
theorem dX8_sheet_47 : decode cX8_sheet 47 = .ok (.invokevirtual 102, 3) := by decide +kernel
theorem dX8_sheet_50 : decode cX8_sheet 50 = .ok (.ireturn, 1) := by decide +kernel
theorem dX8_sheet_51 : decode cX8_sheet 51 = .ok (.iload_n 2, 1) := by decide +kernel
theorem dX8_sheet_52 : decode cX8_sheet 52 = .ok (.ifCond .eq 16, 3) := by decide +kernel
theorem dX8_sheet_55 : decode cX8_sheet 55 = .ok (.iload_n 3, 1) := by decide +kernel
theorem dX8_sheet_56 : decode cX8_sheet 56 = .ok (.bipush 40, 2) := by decide +kernel
theorem dX8_sheet_58 : decode cX8_sheet 58 = .ok (.if_icmp .le 10, 3) := by decide +kernel
theorem dX8_sheet_61 : decode cX8_sheet 61 = .ok (.aload_n 0, 1) := by decide +kernel
theorem dX8_sheet_62 : decode cX8_sheet 62 = .ok (.ldc 92, 2) := by decide +kernel
theorem dX8_sheet_64 : decode cX8_sheet 64 = .ok (.invokevirtual 102, 3) := by decide +kernel
theorem dX8_sheet_67 : decode cX8_sheet 67 = .ok (.ireturn, 1) := by decide +kernel
theorem dX8_sheet_68 : decode cX8_sheet 68 = .ok (.aload_n 0, 1) := by decide +kernel
theorem dX8_sheet_69 : decode cX8_sheet 69 = .ok (.getfield 71, 3) := by decide +kernel
theorem dX8_sheet_72 : decode cX8_sheet 72 = .ok (.iload_n 1, 1) := by decide +kernel
theorem dX8_sheet_73 : decode cX8_sheet 73 = .ok (.iload_n 2, 1) := by decide +kernel
theorem dX8_sheet_74 : decode cX8_sheet 74 = .ok (.iastore, 1) := by decide +kernel
theorem dX8_sheet_75 : decode cX8_sheet 75 = .ok (.aload_n 0, 1) := by decide +kernel
theorem dX8_sheet_76 : decode cX8_sheet 76 = .ok (.getfield 74, 3) := by decide +kernel
theorem dX8_sheet_79 : decode cX8_sheet 79 = .ok (.iload_n 1, 1) := by decide +kernel
theorem dX8_sheet_80 : decode cX8_sheet 80 = .ok (.iload_n 2, 1) := by decide +kernel
theorem dX8_sheet_81 : decode cX8_sheet 81 = .ok (.ifCond .ne 7, 3) := by decide +kernel
theorem dX8_sheet_84 : decode cX8_sheet 84 = .ok (.iconst 0, 1) := by decide +kernel
theorem dX8_sheet_85 : decode cX8_sheet 85 = .ok (.goto 4, 3) := by decide +kernel
theorem dX8_sheet_88 : decode cX8_sheet 88 = .ok (.iload_n 3, 1) := by decide +kernel
theorem dX8_sheet_89 : decode cX8_sheet 89 = .ok (.iastore, 1) := by decide +kernel
theorem dX8_sheet_90 : decode cX8_sheet 90 = .ok (.iconst 0, 1) := by decide +kernel
theorem dX8_sheet_91 : decode cX8_sheet 91 = .ok (.istore 4, 2) := by decide +kernel
theorem dX8_sheet_93 : decode cX8_sheet 93 = .ok (.iload 4, 2) := by decide +kernel
theorem dX8_sheet_95 : decode cX8_sheet 95 = .ok (.bipush 40, 2) := by decide +kernel
theorem dX8_sheet_97 : decode cX8_sheet 97 = .ok (.if_icmp .ge 22, 3) := by decide +kernel
theorem dX8_sheet_100 : decode cX8_sheet 100 = .ok (.aload_n 0, 1) := by decide +kernel
theorem dX8_sheet_101 : decode cX8_sheet 101 = .ok (.getfield 77, 3) := by decide +kernel
theorem dX8_sheet_104 : decode cX8_sheet 104 = .ok (.bipush 40, 2) := by decide +kernel
theorem dX8_sheet_106 : decode cX8_sheet 106 = .ok (.iload_n 1, 1) := by decide +kernel
theorem dX8_sheet_107 : decode cX8_sheet 107 = .ok (.imul, 1) := by decide +kernel
theorem dX8_sheet_108 : decode cX8_sheet 108 = .ok (.iload 4, 2) := by decide +kernel
theorem dX8_sheet_110 : decode cX8_sheet 110 = .ok (.iadd, 1) := by decide +kernel
theorem dX8_sheet_111 : decode cX8_sheet 111 = .ok (.lconst 0, 1) := by decide +kernel
theorem dX8_sheet_112 : decode cX8_sheet 112 = .ok (.lastore, 1) := by decide +kernel
theorem dX8_sheet_113 : decode cX8_sheet 113 = .ok (.iinc 4 1, 3) := by decide +kernel
theorem dX8_sheet_116 : decode cX8_sheet 116 = .ok (.goto (-23), 3) := by decide +kernel
theorem dX8_sheet_119 : decode cX8_sheet 119 = .ok (.aload_n 0, 1) := by decide +kernel
theorem dX8_sheet_120 : decode cX8_sheet 120 = .ok (.getfield 74, 3) := by decide +kernel
theorem dX8_sheet_123 : decode cX8_sheet 123 = .ok (.iload_n 1, 1) := by decide +kernel
theorem dX8_sheet_124 : decode cX8_sheet 124 = .ok (.iaload, 1) := by decide +kernel
theorem dX8_sheet_125 : decode cX8_sheet 125 = .ok (.ireturn, 1) := by decide +kernel
theorem dX8_write_0 : decode cX8_write 0 = .ok (.iload_n 1, 1) := by decide +kernel
theorem dX8_write_1 : decode cX8_write 1 = .ok (.invokestatic 195, 3) := by decide +kernel
theorem dX8_write_4 : decode cX8_write 4 = .ok (.ifCond .ne 11, 3) := by decide +kernel
theorem dX8_write_7 : decode cX8_write 7 = .ok (.aload_n 0, 1) := by decide +kernel
theorem dX8_write_8 : decode cX8_write 8 = .ok (.ldc 92, 2) := by decide +kernel
theorem dX8_write_10 : decode cX8_write 10 = .ok (.invokevirtual 102, 3) := by decide +kernel
theorem dX8_write_13 : decode cX8_write 13 = .ok (.i2l, 1) := by decide +kernel
theorem dX8_write_14 : decode cX8_write 14 = .ok (.lreturn, 1) := by decide +kernel
theorem dX8_write_15 : decode cX8_write 15 = .ok (.aload_n 0, 1) := by decide +kernel
theorem dX8_write_16 : decode cX8_write 16 = .ok (.getfield 71, 3) := by decide +kernel
theorem dX8_write_19 : decode cX8_write 19 = .ok (.iload_n 1, 1) := by decide +kernel
theorem dX8_write_20 : decode cX8_write 20 = .ok (.iaload, 1) := by decide +kernel
theorem dX8_write_21 : decode cX8_write 21 = .ok (.ifCond .ne 11, 3) := by decide +kernel
theorem dX8_write_24 : decode cX8_write 24 = .ok (.aload_n 0, 1) := by decide +kernel
theorem dX8_write_25 : decode cX8_write 25 = .ok (.ldc 198, 2) := by decide +kernel
theorem dX8_write_27 : decode cX8_write 27 = .ok (.invokevirtual 102, 3) := by decide +kernel
theorem dX8_write_30 : decode cX8_write 30 = .ok (.i2l, 1) := by decide +kernel
theorem dX8_write_31 : decode cX8_write 31 = .ok (.lreturn, 1) := by decide +kernel
theorem dX8_write_32 : decode cX8_write 32 = .ok (.iload_n 2, 1) := by decide +kernel
theorem dX8_write_33 : decode cX8_write 33 = .ok (.i2l, 1) := by decide +kernel
theorem dX8_write_34 : decode cX8_write 34 = .ok (.lconst 0, 1) := by decide +kernel
theorem dX8_write_35 : decode cX8_write 35 = .ok (.aload_n 0, 1) := by decide +kernel
theorem dX8_write_36 : decode cX8_write 36 = .ok (.getfield 74, 3) := by decide +kernel
theorem dX8_write_39 : decode cX8_write 39 = .ok (.iload_n 1, 1) := by decide +kernel
theorem dX8_write_40 : decode cX8_write 40 = .ok (.iaload, 1) := by decide +kernel
theorem dX8_write_41 : decode cX8_write 41 = .ok (.iconst 1, 1) := by decide +kernel
theorem dX8_write_42 : decode cX8_write 42 = .ok (.isub, 1) := by decide +kernel
theorem dX8_write_43 : decode cX8_write 43 = .ok (.i2l, 1) := by decide +kernel
theorem dX8_write_44 : decode cX8_write 44 = .ok (.invokestatic 93, 3) := by decide +kernel
theorem dX8_write_47 : decode cX8_write 47 = .ok (.ifCond .ne 11, 3) := by decide +kernel
theorem dX8_write_50 : decode cX8_write 50 = .ok (.aload_n 0, 1) := by decide +kernel
theorem dX8_write_51 : decode cX8_write 51 = .ok (.ldc 92, 2) := by decide +kernel
theorem dX8_write_53 : decode cX8_write 53 = .ok (.invokevirtual 102, 3) := by decide +kernel
theorem dX8_write_56 : decode cX8_write 56 = .ok (.i2l, 1) := by decide +kernel
theorem dX8_write_57 : decode cX8_write 57 = .ok (.lreturn, 1) := by decide +kernel
theorem dX8_write_58 : decode cX8_write 58 = .ok (.aload_n 0, 1) := by decide +kernel
theorem dX8_write_59 : decode cX8_write 59 = .ok (.getfield 77, 3) := by decide +kernel
theorem dX8_write_62 : decode cX8_write 62 = .ok (.bipush 40, 2) := by decide +kernel
theorem dX8_write_64 : decode cX8_write 64 = .ok (.iload_n 1, 1) := by decide +kernel
theorem dX8_write_65 : decode cX8_write 65 = .ok (.imul, 1) := by decide +kernel
theorem dX8_write_66 : decode cX8_write 66 = .ok (.iload_n 2, 1) := by decide +kernel
theorem dX8_write_67 : decode cX8_write 67 = .ok (.iadd, 1) := by decide +kernel
theorem dX8_write_68 : decode cX8_write 68 = .ok (.laload, 1) := by decide +kernel
theorem dX8_write_69 : decode cX8_write 69 = .ok (.lstore 5, 2) := by decide +kernel
theorem dX8_write_71 : decode cX8_write 71 = .ok (.aload_n 0, 1) := by decide +kernel
theorem dX8_write_72 : decode cX8_write 72 = .ok (.getfield 77, 3) := by decide +kernel
theorem dX8_write_75 : decode cX8_write 75 = .ok (.bipush 40, 2) := by decide +kernel
theorem dX8_write_77 : decode cX8_write 77 = .ok (.iload_n 1, 1) := by decide +kernel
theorem dX8_write_78 : decode cX8_write 78 = .ok (.imul, 1) := by decide +kernel
theorem dX8_write_79 : decode cX8_write 79 = .ok (.iload_n 2, 1) := by decide +kernel
theorem dX8_write_80 : decode cX8_write 80 = .ok (.iadd, 1) := by decide +kernel
theorem dX8_write_81 : decode cX8_write 81 = .ok (.aload_n 0, 1) := by decide +kernel
theorem dX8_write_82 : decode cX8_write 82 = .ok (.getfield 71, 3) := by decide +kernel
theorem dX8_write_85 : decode cX8_write 85 = .ok (.iload_n 1, 1) := by decide +kernel
theorem dX8_write_86 : decode cX8_write 86 = .ok (.iaload, 1) := by decide +kernel
theorem dX8_write_87 : decode cX8_write 87 = .ok (.lload_n 3, 1) := by decide +kernel
theorem dX8_write_88 : decode cX8_write 88 = .ok (.invokestatic 370, 3) := by decide +kernel
theorem dX8_write_91 : decode cX8_write 91 = .ok (.lastore, 1) := by decide +kernel
theorem dX8_write_92 : decode cX8_write 92 = .ok (.lload 5, 2) := by decide +kernel
theorem dX8_write_94 : decode cX8_write 94 = .ok (.lreturn, 1) := by decide +kernel
theorem dX8_copy_0 : decode cX8_copy 0 = .ok (.iload_n 1, 1) := by decide +kernel
theorem dX8_copy_1 : decode cX8_copy 1 = .ok (.invokestatic 195, 3) := by decide +kernel
theorem dX8_copy_4 : decode cX8_copy 4 = .ok (.ifCond .eq 10, 3) := by decide +kernel
theorem dX8_copy_7 : decode cX8_copy 7 = .ok (.iload_n 3, 1) := by decide +kernel
theorem dX8_copy_8 : decode cX8_copy 8 = .ok (.invokestatic 195, 3) := by decide +kernel
theorem dX8_copy_11 : decode cX8_copy 11 = .ok (.ifCond .ne 10, 3) := by decide +kernel
theorem dX8_copy_14 : decode cX8_copy 14 = .ok (.aload_n 0, 1) := by decide +kernel
theorem dX8_copy_15 : decode cX8_copy 15 = .ok (.ldc 92, 2) := by decide +kernel
theorem dX8_copy_17 : decode cX8_copy 17 = .ok (.invokevirtual 102, 3) := by decide +kernel
theorem dX8_copy_20 : decode cX8_copy 20 = .ok (.ireturn, 1) := by decide +kernel
theorem dX8_copy_21 : decode cX8_copy 21 = .ok (.aload_n 0, 1) := by decide +kernel
theorem dX8_copy_22 : decode cX8_copy 22 = .ok (.getfield 71, 3) := by decide +kernel
theorem dX8_copy_25 : decode cX8_copy 25 = .ok (.iload_n 1, 1) := by decide +kernel
theorem dX8_copy_26 : decode cX8_copy 26 = .ok (.iaload, 1) := by decide +kernel
theorem dX8_copy_27 : decode cX8_copy 27 = .ok (.ifCond .eq 12, 3) := by decide +kernel
theorem dX8_copy_30 : decode cX8_copy 30 = .ok (.aload_n 0, 1) := by decide +kernel
theorem dX8_copy_31 : decode cX8_copy 31 = .ok (.getfield 71, 3) := by decide +kernel
theorem dX8_copy_34 : decode cX8_copy 34 = .ok (.iload_n 3, 1) := by decide +kernel
theorem dX8_copy_35 : decode cX8_copy 35 = .ok (.iaload, 1) := by decide +kernel
theorem dX8_copy_36 : decode cX8_copy 36 = .ok (.ifCond .ne 10, 3) := by decide +kernel
theorem dX8_copy_39 : decode cX8_copy 39 = .ok (.aload_n 0, 1) := by decide +kernel
theorem dX8_copy_40 : decode cX8_copy 40 = .ok (.ldc 198, 2) := by decide +kernel
theorem dX8_copy_42 : decode cX8_copy 42 = .ok (.invokevirtual 102, 3) := by decide +kernel
theorem dX8_copy_45 : decode cX8_copy 45 = .ok (.ireturn, 1) := by decide +kernel
theorem dX8_copy_46 : decode cX8_copy 46 = .ok (.aload_n 0, 1) := by decide +kernel
theorem dX8_copy_47 : decode cX8_copy 47 = .ok (.getfield 71, 3) := by decide +kernel
theorem dX8_copy_50 : decode cX8_copy 50 = .ok (.iload_n 1, 1) := by decide +kernel
theorem dX8_copy_51 : decode cX8_copy 51 = .ok (.iaload, 1) := by decide +kernel
theorem dX8_copy_52 : decode cX8_copy 52 = .ok (.aload_n 0, 1) := by decide +kernel
theorem dX8_copy_53 : decode cX8_copy 53 = .ok (.getfield 71, 3) := by decide +kernel
theorem dX8_copy_56 : decode cX8_copy 56 = .ok (.iload_n 3, 1) := by decide +kernel
theorem dX8_copy_57 : decode cX8_copy 57 = .ok (.iaload, 1) := by decide +kernel
theorem dX8_copy_58 : decode cX8_copy 58 = .ok (.if_icmp .eq 10, 3) := by decide +kernel
theorem dX8_copy_61 : decode cX8_copy 61 = .ok (.aload_n 0, 1) := by decide +kernel
theorem dX8_copy_62 : decode cX8_copy 62 = .ok (.ldc 166, 2) := by decide +kernel
theorem dX8_copy_64 : decode cX8_copy 64 = .ok (.invokevirtual 102, 3) := by decide +kernel
theorem dX8_copy_67 : decode cX8_copy 67 = .ok (.ireturn, 1) := by decide +kernel
theorem dX8_copy_68 : decode cX8_copy 68 = .ok (.iload 5, 2) := by decide +kernel
theorem dX8_copy_70 : decode cX8_copy 70 = .ok (.ifCond .lt 39, 3) := by decide +kernel
theorem dX8_copy_73 : decode cX8_copy 73 = .ok (.iload_n 2, 1) := by decide +kernel
theorem dX8_copy_74 : decode cX8_copy 74 = .ok (.ifCond .lt 35, 3) := by decide +kernel
theorem dX8_copy_77 : decode cX8_copy 77 = .ok (.iload 4, 2) := by decide +kernel
theorem dX8_copy_79 : decode cX8_copy 79 = .ok (.ifCond .lt 30, 3) := by decide +kernel
theorem dX8_copy_82 : decode cX8_copy 82 = .ok (.iload_n 2, 1) := by decide +kernel
theorem dX8_copy_83 : decode cX8_copy 83 = .ok (.aload_n 0, 1) := by decide +kernel
theorem dX8_copy_84 : decode cX8_copy 84 = .ok (.getfield 74, 3) := by decide +kernel
theorem dX8_copy_87 : decode cX8_copy 87 = .ok (.iload_n 1, 1) := by decide +kernel
theorem dX8_copy_88 : decode cX8_copy 88 = .ok (.iaload, 1) := by decide +kernel
theorem dX8_copy_89 : decode cX8_copy 89 = .ok (.iload 5, 2) := by decide +kernel
theorem dX8_copy_91 : decode cX8_copy 91 = .ok (.isub, 1) := by decide +kernel
theorem dX8_copy_92 : decode cX8_copy 92 = .ok (.if_icmp .gt 17, 3) := by decide +kernel
theorem dX8_copy_95 : decode cX8_copy 95 = .ok (.iload 4, 2) := by decide +kernel
theorem dX8_copy_97 : decode cX8_copy 97 = .ok (.aload_n 0, 1) := by decide +kernel
theorem dX8_copy_98 : decode cX8_copy 98 = .ok (.getfield 74, 3) := by decide +kernel
theorem dX8_copy_101 : decode cX8_copy 101 = .ok (.iload_n 3, 1) := by decide +kernel
theorem dX8_copy_102 : decode cX8_copy 102 = .ok (.iaload, 1) := by decide +kernel
theorem dX8_copy_103 : decode cX8_copy 103 = .ok (.iload 5, 2) := by decide +kernel
theorem dX8_copy_105 : decode cX8_copy 105 = .ok (.isub, 1) := by decide +kernel
theorem dX8_copy_106 : decode cX8_copy 106 = .ok (.if_icmp .le 10, 3) := by decide +kernel
theorem dX8_copy_109 : decode cX8_copy 109 = .ok (.aload_n 0, 1) := by decide +kernel
theorem dX8_copy_110 : decode cX8_copy 110 = .ok (.ldc 92, 2) := by decide +kernel
theorem dX8_copy_112 : decode cX8_copy 112 = .ok (.invokevirtual 102, 3) := by decide +kernel
theorem dX8_copy_115 : decode cX8_copy 115 = .ok (.ireturn, 1) := by decide +kernel
theorem dX8_copy_116 : decode cX8_copy 116 = .ok (.iconst 0, 1) := by decide +kernel
theorem dX8_copy_117 : decode cX8_copy 117 = .ok (.istore 6, 2) := by decide +kernel
theorem dX8_copy_119 : decode cX8_copy 119 = .ok (.iload 6, 2) := by decide +kernel
theorem dX8_copy_121 : decode cX8_copy 121 = .ok (.iload 5, 2) := by decide +kernel
theorem dX8_copy_123 : decode cX8_copy 123 = .ok (.if_icmp .ge 30, 3) := by decide +kernel
theorem dX8_copy_126 : decode cX8_copy 126 = .ok (.aload_n 0, 1) := by decide +kernel
theorem dX8_copy_127 : decode cX8_copy 127 = .ok (.getfield 80, 3) := by decide +kernel
theorem dX8_copy_130 : decode cX8_copy 130 = .ok (.iload 6, 2) := by decide +kernel
theorem dX8_copy_132 : decode cX8_copy 132 = .ok (.aload_n 0, 1) := by decide +kernel
theorem dX8_copy_133 : decode cX8_copy 133 = .ok (.getfield 77, 3) := by decide +kernel
theorem dX8_copy_136 : decode cX8_copy 136 = .ok (.bipush 40, 2) := by decide +kernel
theorem dX8_copy_138 : decode cX8_copy 138 = .ok (.iload_n 1, 1) := by decide +kernel
theorem dX8_copy_139 : decode cX8_copy 139 = .ok (.imul, 1) := by decide +kernel
theorem dX8_copy_140 : decode cX8_copy 140 = .ok (.iload_n 2, 1) := by decide +kernel
theorem dX8_copy_141 : decode cX8_copy 141 = .ok (.iadd, 1) := by decide +kernel
theorem dX8_copy_142 : decode cX8_copy 142 = .ok (.iload 6, 2) := by decide +kernel
theorem dX8_copy_144 : decode cX8_copy 144 = .ok (.iadd, 1) := by decide +kernel
theorem dX8_copy_145 : decode cX8_copy 145 = .ok (.laload, 1) := by decide +kernel
theorem dX8_copy_146 : decode cX8_copy 146 = .ok (.lastore, 1) := by decide +kernel
theorem dX8_copy_147 : decode cX8_copy 147 = .ok (.iinc 6 1, 3) := by decide +kernel
theorem dX8_copy_150 : decode cX8_copy 150 = .ok (.goto (-31), 3) := by decide +kernel
theorem dX8_copy_153 : decode cX8_copy 153 = .ok (.iconst 0, 1) := by decide +kernel
theorem dX8_copy_154 : decode cX8_copy 154 = .ok (.istore 6, 2) := by decide +kernel
theorem dX8_copy_156 : decode cX8_copy 156 = .ok (.iload 6, 2) := by decide +kernel
theorem dX8_copy_158 : decode cX8_copy 158 = .ok (.iload 5, 2) := by decide +kernel
theorem dX8_copy_160 : decode cX8_copy 160 = .ok (.if_icmp .ge 31, 3) := by decide +kernel
theorem dX8_copy_163 : decode cX8_copy 163 = .ok (.aload_n 0, 1) := by decide +kernel
theorem dX8_copy_164 : decode cX8_copy 164 = .ok (.getfield 77, 3) := by decide +kernel
theorem dX8_copy_167 : decode cX8_copy 167 = .ok (.bipush 40, 2) := by decide +kernel
theorem dX8_copy_169 : decode cX8_copy 169 = .ok (.iload_n 3, 1) := by decide +kernel
theorem dX8_copy_170 : decode cX8_copy 170 = .ok (.imul, 1) := by decide +kernel
theorem dX8_copy_171 : decode cX8_copy 171 = .ok (.iload 4, 2) := by decide +kernel
theorem dX8_copy_173 : decode cX8_copy 173 = .ok (.iadd, 1) := by decide +kernel
theorem dX8_copy_174 : decode cX8_copy 174 = .ok (.iload 6, 2) := by decide +kernel
theorem dX8_copy_176 : decode cX8_copy 176 = .ok (.iadd, 1) := by decide +kernel
theorem dX8_copy_177 : decode cX8_copy 177 = .ok (.aload_n 0, 1) := by decide +kernel
theorem dX8_copy_178 : decode cX8_copy 178 = .ok (.getfield 80, 3) := by decide +kernel
theorem dX8_copy_181 : decode cX8_copy 181 = .ok (.iload 6, 2) := by decide +kernel
theorem dX8_copy_183 : decode cX8_copy 183 = .ok (.laload, 1) := by decide +kernel
theorem dX8_copy_184 : decode cX8_copy 184 = .ok (.lastore, 1) := by decide +kernel
theorem dX8_copy_185 : decode cX8_copy 185 = .ok (.iinc 6 1, 3) := by decide +kernel
theorem dX8_copy_188 : decode cX8_copy 188 = .ok (.goto (-32), 3) := by decide +kernel
theorem dX8_copy_191 : decode cX8_copy 191 = .ok (.iload 5, 2) := by decide +kernel
theorem dX8_copy_193 : decode cX8_copy 193 = .ok (.ireturn, 1) := by decide +kernel
theorem dX8_lays_0 : decode cX8_lays 0 = .ok (.iload_n 1, 1) := by decide +kernel
theorem dX8_lays_1 : decode cX8_lays 1 = .ok (.invokestatic 195, 3) := by decide +kernel
theorem dX8_lays_4 : decode cX8_lays 4 = .ok (.ifCond .ne 10, 3) := by decide +kernel
theorem dX8_lays_7 : decode cX8_lays 7 = .ok (.aload_n 0, 1) := by decide +kernel
theorem dX8_lays_8 : decode cX8_lays 8 = .ok (.ldc 92, 2) := by decide +kernel
theorem dX8_lays_10 : decode cX8_lays 10 = .ok (.invokevirtual 102, 3) := by decide +kernel
theorem dX8_lays_13 : decode cX8_lays 13 = .ok (.ireturn, 1) := by decide +kernel
theorem dX8_lays_14 : decode cX8_lays 14 = .ok (.aload_n 0, 1) := by decide +kernel
theorem dX8_lays_15 : decode cX8_lays 15 = .ok (.getfield 71, 3) := by decide +kernel
theorem dX8_lays_18 : decode cX8_lays 18 = .ok (.iload_n 1, 1) := by decide +kernel
theorem dX8_lays_19 : decode cX8_lays 19 = .ok (.iaload, 1) := by decide +kernel
theorem dX8_lays_20 : decode cX8_lays 20 = .ok (.ifCond .ne 10, 3) := by decide +kernel
theorem dX8_lays_23 : decode cX8_lays 23 = .ok (.aload_n 0, 1) := by decide +kernel
theorem dX8_lays_24 : decode cX8_lays 24 = .ok (.ldc 198, 2) := by decide +kernel
theorem dX8_lays_26 : decode cX8_lays 26 = .ok (.invokevirtual 102, 3) := by decide +kernel
theorem dX8_lays_29 : decode cX8_lays 29 = .ok (.ireturn, 1) := by decide +kernel
theorem dX8_lays_30 : decode cX8_lays 30 = .ok (.aload_n 0, 1) := by decide +kernel
theorem dX8_lays_31 : decode cX8_lays 31 = .ok (.iload_n 2, 1) := by decide +kernel
theorem dX8_lays_32 : decode cX8_lays 32 = .ok (.invokevirtual 192, 3) := by decide +kernel
theorem dX8_lays_35 : decode cX8_lays 35 = .ok (.ifCond .ne 10, 3) := by decide +kernel
theorem dX8_lays_38 : decode cX8_lays 38 = .ok (.aload_n 0, 1) := by decide +kernel
theorem dX8_lays_39 : decode cX8_lays 39 = .ok (.ldc 167, 2) := by decide +kernel
theorem dX8_lays_41 : decode cX8_lays 41 = .ok (.invokevirtual 102, 3) := by decide +kernel
theorem dX8_lays_44 : decode cX8_lays 44 = .ok (.ireturn, 1) := by decide +kernel
theorem dX8_lays_45 : decode cX8_lays 45 = .ok (.iconst 0, 1) := by decide +kernel
theorem dX8_lays_46 : decode cX8_lays 46 = .ok (.istore_n 3, 1) := by decide +kernel
theorem dX8_lays_47 : decode cX8_lays 47 = .ok (.iload_n 3, 1) := by decide +kernel
theorem dX8_lays_48 : decode cX8_lays 48 = .ok (.aload_n 0, 1) := by decide +kernel
theorem dX8_lays_49 : decode cX8_lays 49 = .ok (.getfield 13, 3) := by decide +kernel
theorem dX8_lays_52 : decode cX8_lays 52 = .ok (.if_icmp .ge 45, 3) := by decide +kernel
theorem dX8_lays_55 : decode cX8_lays 55 = .ok (.iload_n 3, 1) := by decide +kernel
theorem dX8_lays_56 : decode cX8_lays 56 = .ok (.aload_n 0, 1) := by decide +kernel
theorem dX8_lays_57 : decode cX8_lays 57 = .ok (.getfield 74, 3) := by decide +kernel
theorem dX8_lays_60 : decode cX8_lays 60 = .ok (.iload_n 1, 1) := by decide +kernel
theorem dX8_lays_61 : decode cX8_lays 61 = .ok (.iaload, 1) := by decide +kernel
theorem dX8_lays_62 : decode cX8_lays 62 = .ok (.if_icmp .ge 35, 3) := by decide +kernel
theorem dX8_lays_65 : decode cX8_lays 65 = .ok (.aload_n 0, 1) := by decide +kernel
theorem dX8_lays_66 : decode cX8_lays 66 = .ok (.getfield 77, 3) := by decide +kernel
theorem dX8_lays_69 : decode cX8_lays 69 = .ok (.bipush 40, 2) := by decide +kernel
theorem dX8_lays_71 : decode cX8_lays 71 = .ok (.iload_n 1, 1) := by decide +kernel
theorem dX8_lays_72 : decode cX8_lays 72 = .ok (.imul, 1) := by decide +kernel
theorem dX8_lays_73 : decode cX8_lays 73 = .ok (.iload_n 3, 1) := by decide +kernel
theorem dX8_lays_74 : decode cX8_lays 74 = .ok (.iadd, 1) := by decide +kernel
theorem dX8_lays_75 : decode cX8_lays 75 = .ok (.aload_n 0, 1) := by decide +kernel
theorem dX8_lays_76 : decode cX8_lays 76 = .ok (.getfield 71, 3) := by decide +kernel
theorem dX8_lays_79 : decode cX8_lays 79 = .ok (.iload_n 1, 1) := by decide +kernel
theorem dX8_lays_80 : decode cX8_lays 80 = .ok (.iaload, 1) := by decide +kernel
theorem dX8_lays_81 : decode cX8_lays 81 = .ok (.aload_n 0, 1) := by decide +kernel
theorem dX8_lays_82 : decode cX8_lays 82 = .ok (.getfield 32, 3) := by decide +kernel
theorem dX8_lays_85 : decode cX8_lays 85 = .ok (.iload_n 3, 1) := by decide +kernel
theorem dX8_lays_86 : decode cX8_lays 86 = .ok (.laload, 1) := by decide +kernel
theorem dX8_lays_87 : decode cX8_lays 87 = .ok (.invokestatic 370, 3) := by decide +kernel
theorem dX8_lays_90 : decode cX8_lays 90 = .ok (.lastore, 1) := by decide +kernel
theorem dX8_lays_91 : decode cX8_lays 91 = .ok (.iinc 3 1, 3) := by decide +kernel
theorem dX8_lays_94 : decode cX8_lays 94 = .ok (.goto (-47), 3) := by decide +kernel
theorem dX8_lays_97 : decode cX8_lays 97 = .ok (.iload_n 3, 1) := by decide +kernel
theorem dX8_lays_98 : decode cX8_lays 98 = .ok (.ireturn, 1) := by decide +kernel
theorem dX8_keeps_0 : decode cX8_keeps 0 = .ok (.aload_n 1, 1) := by decide +kernel
theorem dX8_keeps_1 : decode cX8_keeps 1 = .ok (.iconst 0, 1) := by decide +kernel
theorem dX8_keeps_2 : decode cX8_keeps 2 = .ok (.aload_n 0, 1) := by decide +kernel
theorem dX8_keeps_3 : decode cX8_keeps 3 = .ok (.getfield 13, 3) := by decide +kernel
theorem dX8_keeps_6 : decode cX8_keeps 6 = .ok (.iastore, 1) := by decide +kernel
theorem dX8_keeps_7 : decode cX8_keeps 7 = .ok (.aload_n 1, 1) := by decide +kernel
theorem dX8_keeps_8 : decode cX8_keeps 8 = .ok (.iconst 1, 1) := by decide +kernel
theorem dX8_keeps_9 : decode cX8_keeps 9 = .ok (.aload_n 0, 1) := by decide +kernel
theorem dX8_keeps_10 : decode cX8_keeps 10 = .ok (.getfield 97, 3) := by decide +kernel
theorem dX8_keeps_13 : decode cX8_keeps 13 = .ok (.iastore, 1) := by decide +kernel
theorem dX8_keeps_14 : decode cX8_keeps 14 = .ok (.iconst 0, 1) := by decide +kernel
theorem dX8_keeps_15 : decode cX8_keeps 15 = .ok (.istore_n 2, 1) := by decide +kernel
theorem dX8_keeps_16 : decode cX8_keeps 16 = .ok (.iload_n 2, 1) := by decide +kernel
theorem dX8_keeps_17 : decode cX8_keeps 17 = .ok (.iconst 4, 1) := by decide +kernel
theorem dX8_keeps_18 : decode cX8_keeps 18 = .ok (.if_icmp .ge 32, 3) := by decide +kernel
theorem dX8_keeps_21 : decode cX8_keeps 21 = .ok (.aload_n 1, 1) := by decide +kernel
theorem dX8_keeps_22 : decode cX8_keeps 22 = .ok (.iconst 2, 1) := by decide +kernel
theorem dX8_keeps_23 : decode cX8_keeps 23 = .ok (.iload_n 2, 1) := by decide +kernel
theorem dX8_keeps_24 : decode cX8_keeps 24 = .ok (.iadd, 1) := by decide +kernel
theorem dX8_keeps_25 : decode cX8_keeps 25 = .ok (.aload_n 0, 1) := by decide +kernel
theorem dX8_keeps_26 : decode cX8_keeps 26 = .ok (.getfield 17, 3) := by decide +kernel
theorem dX8_keeps_29 : decode cX8_keeps 29 = .ok (.iload_n 2, 1) := by decide +kernel
theorem dX8_keeps_30 : decode cX8_keeps 30 = .ok (.iaload, 1) := by decide +kernel
theorem dX8_keeps_31 : decode cX8_keeps 31 = .ok (.iastore, 1) := by decide +kernel
theorem dX8_keeps_32 : decode cX8_keeps 32 = .ok (.aload_n 1, 1) := by decide +kernel
theorem dX8_keeps_33 : decode cX8_keeps 33 = .ok (.bipush 6, 2) := by decide +kernel
theorem dX8_keeps_35 : decode cX8_keeps 35 = .ok (.iload_n 2, 1) := by decide +kernel
theorem dX8_keeps_36 : decode cX8_keeps 36 = .ok (.iadd, 1) := by decide +kernel
theorem dX8_keeps_37 : decode cX8_keeps 37 = .ok (.aload_n 0, 1) := by decide +kernel
theorem dX8_keeps_38 : decode cX8_keeps 38 = .ok (.getfield 20, 3) := by decide +kernel
theorem dX8_keeps_41 : decode cX8_keeps 41 = .ok (.iload_n 2, 1) := by decide +kernel
theorem dX8_keeps_42 : decode cX8_keeps 42 = .ok (.iaload, 1) := by decide +kernel
theorem dX8_keeps_43 : decode cX8_keeps 43 = .ok (.iastore, 1) := by decide +kernel
theorem dX8_keeps_44 : decode cX8_keeps 44 = .ok (.iinc 2 1, 3) := by decide +kernel
theorem dX8_keeps_47 : decode cX8_keeps 47 = .ok (.goto (-31), 3) := by decide +kernel
theorem dX8_keeps_50 : decode cX8_keeps 50 = .ok (.iconst 0, 1) := by decide +kernel
theorem dX8_keeps_51 : decode cX8_keeps 51 = .ok (.istore_n 2, 1) := by decide +kernel
theorem dX8_keeps_52 : decode cX8_keeps 52 = .ok (.iload_n 2, 1) := by decide +kernel
theorem dX8_keeps_53 : decode cX8_keeps 53 = .ok (.bipush 56, 2) := by decide +kernel
theorem dX8_keeps_55 : decode cX8_keeps 55 = .ok (.if_icmp .ge 21, 3) := by decide +kernel
theorem dX8_keeps_58 : decode cX8_keeps 58 = .ok (.aload_n 1, 1) := by decide +kernel
theorem dX8_keeps_59 : decode cX8_keeps 59 = .ok (.bipush 10, 2) := by decide +kernel
theorem dX8_keeps_61 : decode cX8_keeps 61 = .ok (.iload_n 2, 1) := by decide +kernel
theorem dX8_keeps_62 : decode cX8_keeps 62 = .ok (.iadd, 1) := by decide +kernel
theorem dX8_keeps_63 : decode cX8_keeps 63 = .ok (.aload_n 0, 1) := by decide +kernel
theorem dX8_keeps_64 : decode cX8_keeps 64 = .ok (.getfield 23, 3) := by decide +kernel
theorem dX8_keeps_67 : decode cX8_keeps 67 = .ok (.iload_n 2, 1) := by decide +kernel
theorem dX8_keeps_68 : decode cX8_keeps 68 = .ok (.iaload, 1) := by decide +kernel
theorem dX8_keeps_69 : decode cX8_keeps 69 = .ok (.iastore, 1) := by decide +kernel
theorem dX8_keeps_70 : decode cX8_keeps 70 = .ok (.iinc 2 1, 3) := by decide +kernel
theorem dX8_keeps_73 : decode cX8_keeps 73 = .ok (.goto (-21), 3) := by decide +kernel
theorem dX8_keeps_76 : decode cX8_keeps 76 = .ok (.iconst 0, 1) := by decide +kernel
theorem dX8_keeps_77 : decode cX8_keeps 77 = .ok (.istore_n 2, 1) := by decide +kernel
theorem dX8_keeps_78 : decode cX8_keeps 78 = .ok (.iload_n 2, 1) := by decide +kernel
theorem dX8_keeps_79 : decode cX8_keeps 79 = .ok (.bipush 16, 2) := by decide +kernel
theorem dX8_keeps_81 : decode cX8_keeps 81 = .ok (.if_icmp .ge 21, 3) := by decide +kernel
theorem dX8_keeps_84 : decode cX8_keeps 84 = .ok (.aload_n 1, 1) := by decide +kernel
theorem dX8_keeps_85 : decode cX8_keeps 85 = .ok (.bipush 66, 2) := by decide +kernel
theorem dX8_keeps_87 : decode cX8_keeps 87 = .ok (.iload_n 2, 1) := by decide +kernel
theorem dX8_keeps_88 : decode cX8_keeps 88 = .ok (.iadd, 1) := by decide +kernel
theorem dX8_keeps_89 : decode cX8_keeps 89 = .ok (.aload_n 0, 1) := by decide +kernel
theorem dX8_keeps_90 : decode cX8_keeps 90 = .ok (.getfield 26, 3) := by decide +kernel
theorem dX8_keeps_93 : decode cX8_keeps 93 = .ok (.iload_n 2, 1) := by decide +kernel
theorem dX8_keeps_94 : decode cX8_keeps 94 = .ok (.iaload, 1) := by decide +kernel
theorem dX8_keeps_95 : decode cX8_keeps 95 = .ok (.iastore, 1) := by decide +kernel
theorem dX8_keeps_96 : decode cX8_keeps 96 = .ok (.iinc 2 1, 3) := by decide +kernel
theorem dX8_keeps_99 : decode cX8_keeps 99 = .ok (.goto (-21), 3) := by decide +kernel
theorem dX8_keeps_102 : decode cX8_keeps 102 = .ok (.return_, 1) := by decide +kernel
theorem dX8_comesBack_0 : decode cX8_comesBack 0 = .ok (.aload_n 0, 1) := by decide +kernel
theorem dX8_comesBack_1 : decode cX8_comesBack 1 = .ok (.aload_n 1, 1) := by decide +kernel
theorem dX8_comesBack_2 : decode cX8_comesBack 2 = .ok (.iconst 0, 1) := by decide +kernel
theorem dX8_comesBack_3 : decode cX8_comesBack 3 = .ok (.iaload, 1) := by decide +kernel
theorem dX8_comesBack_4 : decode cX8_comesBack 4 = .ok (.putfield 13, 3) := by decide +kernel
theorem dX8_comesBack_7 : decode cX8_comesBack 7 = .ok (.aload_n 0, 1) := by decide +kernel
theorem dX8_comesBack_8 : decode cX8_comesBack 8 = .ok (.aload_n 1, 1) := by decide +kernel
theorem dX8_comesBack_9 : decode cX8_comesBack 9 = .ok (.iconst 1, 1) := by decide +kernel
theorem dX8_comesBack_10 : decode cX8_comesBack 10 = .ok (.iaload, 1) := by decide +kernel
theorem dX8_comesBack_11 : decode cX8_comesBack 11 = .ok (.putfield 97, 3) := by decide +kernel
theorem dX8_comesBack_14 : decode cX8_comesBack 14 = .ok (.iconst 0, 1) := by decide +kernel
theorem dX8_comesBack_15 : decode cX8_comesBack 15 = .ok (.istore_n 2, 1) := by decide +kernel
theorem dX8_comesBack_16 : decode cX8_comesBack 16 = .ok (.iload_n 2, 1) := by decide +kernel
theorem dX8_comesBack_17 : decode cX8_comesBack 17 = .ok (.iconst 4, 1) := by decide +kernel
theorem dX8_comesBack_18 : decode cX8_comesBack 18 = .ok (.if_icmp .ge 32, 3) := by decide +kernel
theorem dX8_comesBack_21 : decode cX8_comesBack 21 = .ok (.aload_n 0, 1) := by decide +kernel
theorem dX8_comesBack_22 : decode cX8_comesBack 22 = .ok (.getfield 17, 3) := by decide +kernel
theorem dX8_comesBack_25 : decode cX8_comesBack 25 = .ok (.iload_n 2, 1) := by decide +kernel
theorem dX8_comesBack_26 : decode cX8_comesBack 26 = .ok (.aload_n 1, 1) := by decide +kernel
theorem dX8_comesBack_27 : decode cX8_comesBack 27 = .ok (.iconst 2, 1) := by decide +kernel
theorem dX8_comesBack_28 : decode cX8_comesBack 28 = .ok (.iload_n 2, 1) := by decide +kernel
theorem dX8_comesBack_29 : decode cX8_comesBack 29 = .ok (.iadd, 1) := by decide +kernel
theorem dX8_comesBack_30 : decode cX8_comesBack 30 = .ok (.iaload, 1) := by decide +kernel
theorem dX8_comesBack_31 : decode cX8_comesBack 31 = .ok (.iastore, 1) := by decide +kernel
theorem dX8_comesBack_32 : decode cX8_comesBack 32 = .ok (.aload_n 0, 1) := by decide +kernel
theorem dX8_comesBack_33 : decode cX8_comesBack 33 = .ok (.getfield 20, 3) := by decide +kernel
theorem dX8_comesBack_36 : decode cX8_comesBack 36 = .ok (.iload_n 2, 1) := by decide +kernel
theorem dX8_comesBack_37 : decode cX8_comesBack 37 = .ok (.aload_n 1, 1) := by decide +kernel
theorem dX8_comesBack_38 : decode cX8_comesBack 38 = .ok (.bipush 6, 2) := by decide +kernel
theorem dX8_comesBack_40 : decode cX8_comesBack 40 = .ok (.iload_n 2, 1) := by decide +kernel
theorem dX8_comesBack_41 : decode cX8_comesBack 41 = .ok (.iadd, 1) := by decide +kernel
theorem dX8_comesBack_42 : decode cX8_comesBack 42 = .ok (.iaload, 1) := by decide +kernel
theorem dX8_comesBack_43 : decode cX8_comesBack 43 = .ok (.iastore, 1) := by decide +kernel
theorem dX8_comesBack_44 : decode cX8_comesBack 44 = .ok (.iinc 2 1, 3) := by decide +kernel
theorem dX8_comesBack_47 : decode cX8_comesBack 47 = .ok (.goto (-31), 3) := by decide +kernel
theorem dX8_comesBack_50 : decode cX8_comesBack 50 = .ok (.iconst 0, 1) := by decide +kernel
theorem dX8_comesBack_51 : decode cX8_comesBack 51 = .ok (.istore_n 2, 1) := by decide +kernel
theorem dX8_comesBack_52 : decode cX8_comesBack 52 = .ok (.iload_n 2, 1) := by decide +kernel
theorem dX8_comesBack_53 : decode cX8_comesBack 53 = .ok (.bipush 56, 2) := by decide +kernel
theorem dX8_comesBack_55 : decode cX8_comesBack 55 = .ok (.if_icmp .ge 21, 3) := by decide +kernel
theorem dX8_comesBack_58 : decode cX8_comesBack 58 = .ok (.aload_n 0, 1) := by decide +kernel
theorem dX8_comesBack_59 : decode cX8_comesBack 59 = .ok (.getfield 23, 3) := by decide +kernel
theorem dX8_comesBack_62 : decode cX8_comesBack 62 = .ok (.iload_n 2, 1) := by decide +kernel
theorem dX8_comesBack_63 : decode cX8_comesBack 63 = .ok (.aload_n 1, 1) := by decide +kernel
theorem dX8_comesBack_64 : decode cX8_comesBack 64 = .ok (.bipush 10, 2) := by decide +kernel
theorem dX8_comesBack_66 : decode cX8_comesBack 66 = .ok (.iload_n 2, 1) := by decide +kernel
theorem dX8_comesBack_67 : decode cX8_comesBack 67 = .ok (.iadd, 1) := by decide +kernel
theorem dX8_comesBack_68 : decode cX8_comesBack 68 = .ok (.iaload, 1) := by decide +kernel
theorem dX8_comesBack_69 : decode cX8_comesBack 69 = .ok (.iastore, 1) := by decide +kernel
theorem dX8_comesBack_70 : decode cX8_comesBack 70 = .ok (.iinc 2 1, 3) := by decide +kernel
theorem dX8_comesBack_73 : decode cX8_comesBack 73 = .ok (.goto (-21), 3) := by decide +kernel
