theorem dX8_round_21 : decode cX8_round 21 = .ok (.iload_n 3, 1) := by decide +kernel
theorem dX8_round_22 : decode cX8_round 22 = .ok (.aload_n 0, 1) := by decide +kernel
theorem dX8_round_23 : decode cX8_round 23 = .ok (.getfield 13, 3) := by decide +kernel
theorem dX8_round_26 : decode cX8_round 26 = .ok (.if_icmp .ge 91, 3) := by decide +kernel
theorem dX8_round_29 : decode cX8_round 29 = .ok (.aload_n 0, 1) := by decide +kernel
theorem dX8_round_30 : decode cX8_round 30 = .ok (.getfield 45, 3) := by decide +kernel
theorem dX8_round_33 : decode cX8_round 33 = .ok (.iload_n 3, 1) := by decide +kernel
theorem dX8_round_34 : decode cX8_round 34 = .ok (.aload_n 0, 1) := by decide +kernel
theorem dX8_round_35 : decode cX8_round 35 = .ok (.getfield 32, 3) := by decide +kernel
theorem dX8_round_38 : decode cX8_round 38 = .ok (.iload_n 3, 1) := by decide +kernel
theorem dX8_round_39 : decode cX8_round 39 = .ok (.laload, 1) := by decide +kernel
theorem dX8_round_40 : decode cX8_round 40 = .ok (.l2i, 1) := by decide +kernel
theorem dX8_round_41 : decode cX8_round 41 = .ok (.iastore, 1) := by decide +kernel
theorem dX8_round_42 : decode cX8_round 42 = .ok (.aload_n 0, 1) := by decide +kernel
theorem dX8_round_43 : decode cX8_round 43 = .ok (.getfield 45, 3) := by decide +kernel
theorem dX8_round_46 : decode cX8_round 46 = .ok (.iload_n 3, 1) := by decide +kernel
theorem dX8_round_47 : decode cX8_round 47 = .ok (.iaload, 1) := by decide +kernel
theorem dX8_round_48 : decode cX8_round 48 = .ok (.aload_n 0, 1) := by decide +kernel
theorem dX8_round_49 : decode cX8_round 49 = .ok (.getfield 17, 3) := by decide +kernel
theorem dX8_round_52 : decode cX8_round 52 = .ok (.iload_n 3, 1) := by decide +kernel
theorem dX8_round_53 : decode cX8_round 53 = .ok (.iaload, 1) := by decide +kernel
theorem dX8_round_54 : decode cX8_round 54 = .ok (.isub, 1) := by decide +kernel
theorem dX8_round_55 : decode cX8_round 55 = .ok (.iconst 1, 1) := by decide +kernel
theorem dX8_round_56 : decode cX8_round 56 = .ok (.iadd, 1) := by decide +kernel
theorem dX8_round_57 : decode cX8_round 57 = .ok (.istore 4, 2) := by decide +kernel
theorem dX8_round_59 : decode cX8_round 59 = .ok (.aload_n 0, 1) := by decide +kernel
theorem dX8_round_60 : decode cX8_round 60 = .ok (.getfield 20, 3) := by decide +kernel
theorem dX8_round_63 : decode cX8_round 63 = .ok (.iload_n 3, 1) := by decide +kernel
theorem dX8_round_64 : decode cX8_round 64 = .ok (.iaload, 1) := by decide +kernel
theorem dX8_round_65 : decode cX8_round 65 = .ok (.aload_n 0, 1) := by decide +kernel
theorem dX8_round_66 : decode cX8_round 66 = .ok (.getfield 45, 3) := by decide +kernel
theorem dX8_round_69 : decode cX8_round 69 = .ok (.iload_n 3, 1) := by decide +kernel
theorem dX8_round_70 : decode cX8_round 70 = .ok (.iaload, 1) := by decide +kernel
theorem dX8_round_71 : decode cX8_round 71 = .ok (.isub, 1) := by decide +kernel
theorem dX8_round_72 : decode cX8_round 72 = .ok (.iconst 1, 1) := by decide +kernel
theorem dX8_round_73 : decode cX8_round 73 = .ok (.iadd, 1) := by decide +kernel
theorem dX8_round_74 : decode cX8_round 74 = .ok (.istore 5, 2) := by decide +kernel
theorem dX8_round_76 : decode cX8_round 76 = .ok (.iload 4, 2) := by decide +kernel
theorem dX8_round_78 : decode cX8_round 78 = .ok (.iload 5, 2) := by decide +kernel
theorem dX8_round_80 : decode cX8_round 80 = .ok (.if_icmp .ge 8, 3) := by decide +kernel
theorem dX8_round_83 : decode cX8_round 83 = .ok (.iload 4, 2) := by decide +kernel
theorem dX8_round_85 : decode cX8_round 85 = .ok (.goto 5, 3) := by decide +kernel
theorem dX8_round_88 : decode cX8_round 88 = .ok (.iload 5, 2) := by decide +kernel
theorem dX8_round_90 : decode cX8_round 90 = .ok (.istore 6, 2) := by decide +kernel
theorem dX8_round_92 : decode cX8_round 92 = .ok (.iload 6, 2) := by decide +kernel
theorem dX8_round_94 : decode cX8_round 94 = .ok (.iload 6, 2) := by decide +kernel
theorem dX8_round_96 : decode cX8_round 96 = .ok (.imul, 1) := by decide +kernel
theorem dX8_round_97 : decode cX8_round 97 = .ok (.iload_n 2, 1) := by decide +kernel
theorem dX8_round_98 : decode cX8_round 98 = .ok (.if_icmp .ge 11, 3) := by decide +kernel
theorem dX8_round_101 : decode cX8_round 101 = .ok (.iload 6, 2) := by decide +kernel
theorem dX8_round_103 : decode cX8_round 103 = .ok (.iload 6, 2) := by decide +kernel
theorem dX8_round_105 : decode cX8_round 105 = .ok (.imul, 1) := by decide +kernel
theorem dX8_round_106 : decode cX8_round 106 = .ok (.goto 4, 3) := by decide +kernel
theorem dX8_round_109 : decode cX8_round 109 = .ok (.iload_n 2, 1) := by decide +kernel
theorem dX8_round_110 : decode cX8_round 110 = .ok (.istore_n 2, 1) := by decide +kernel
theorem dX8_round_111 : decode cX8_round 111 = .ok (.iinc 3 1, 3) := by decide +kernel
theorem dX8_round_114 : decode cX8_round 114 = .ok (.goto (-93), 3) := by decide +kernel
theorem dX8_round_117 : decode cX8_round 117 = .ok (.aload_n 0, 1) := by decide +kernel
theorem dX8_round_118 : decode cX8_round 118 = .ok (.invokevirtual 111, 3) := by decide +kernel
theorem dX8_round_121 : decode cX8_round 121 = .ok (.istore_n 3, 1) := by decide +kernel
theorem dX8_round_122 : decode cX8_round 122 = .ok (.iconst 0, 1) := by decide +kernel
theorem dX8_round_123 : decode cX8_round 123 = .ok (.istore 4, 2) := by decide +kernel
theorem dX8_round_125 : decode cX8_round 125 = .ok (.iload 4, 2) := by decide +kernel
theorem dX8_round_127 : decode cX8_round 127 = .ok (.iload_n 3, 1) := by decide +kernel
theorem dX8_round_128 : decode cX8_round 128 = .ok (.if_icmp .ge 91, 3) := by decide +kernel
theorem dX8_round_131 : decode cX8_round 131 = .ok (.aload_n 0, 1) := by decide +kernel
theorem dX8_round_132 : decode cX8_round 132 = .ok (.getfield 36, 3) := by decide +kernel
theorem dX8_round_135 : decode cX8_round 135 = .ok (.iload 4, 2) := by decide +kernel
theorem dX8_round_137 : decode cX8_round 137 = .ok (.iaload, 1) := by decide +kernel
theorem dX8_round_138 : decode cX8_round 138 = .ok (.aload_n 0, 1) := by decide +kernel
theorem dX8_round_139 : decode cX8_round 139 = .ok (.invokevirtual 186, 3) := by decide +kernel
theorem dX8_round_142 : decode cX8_round 142 = .ok (.if_icmp .eq 71, 3) := by decide +kernel
theorem dX8_round_145 : decode cX8_round 145 = .ok (.aload_n 0, 1) := by decide +kernel
theorem dX8_round_146 : decode cX8_round 146 = .ok (.iload 4, 2) := by decide +kernel
theorem dX8_round_148 : decode cX8_round 148 = .ok (.invokevirtual 179, 3) := by decide +kernel
theorem dX8_round_151 : decode cX8_round 151 = .ok (.iconst 0, 1) := by decide +kernel
theorem dX8_round_152 : decode cX8_round 152 = .ok (.istore 5, 2) := by decide +kernel
theorem dX8_round_154 : decode cX8_round 154 = .ok (.iconst 0, 1) := by decide +kernel
theorem dX8_round_155 : decode cX8_round 155 = .ok (.istore 6, 2) := by decide +kernel
theorem dX8_round_157 : decode cX8_round 157 = .ok (.iload 6, 2) := by decide +kernel
theorem dX8_round_159 : decode cX8_round 159 = .ok (.aload_n 0, 1) := by decide +kernel
theorem dX8_round_160 : decode cX8_round 160 = .ok (.getfield 13, 3) := by decide +kernel
theorem dX8_round_163 : decode cX8_round 163 = .ok (.if_icmp .ge 37, 3) := by decide +kernel
theorem dX8_round_166 : decode cX8_round 166 = .ok (.aload_n 0, 1) := by decide +kernel
theorem dX8_round_167 : decode cX8_round 167 = .ok (.getfield 32, 3) := by decide +kernel
theorem dX8_round_170 : decode cX8_round 170 = .ok (.iload 6, 2) := by decide +kernel
theorem dX8_round_172 : decode cX8_round 172 = .ok (.laload, 1) := by decide +kernel
theorem dX8_round_173 : decode cX8_round 173 = .ok (.l2i, 1) := by decide +kernel
theorem dX8_round_174 : decode cX8_round 174 = .ok (.aload_n 0, 1) := by decide +kernel
theorem dX8_round_175 : decode cX8_round 175 = .ok (.getfield 45, 3) := by decide +kernel
theorem dX8_round_178 : decode cX8_round 178 = .ok (.iload 6, 2) := by decide +kernel
theorem dX8_round_180 : decode cX8_round 180 = .ok (.iaload, 1) := by decide +kernel
theorem dX8_round_181 : decode cX8_round 181 = .ok (.isub, 1) := by decide +kernel
theorem dX8_round_182 : decode cX8_round 182 = .ok (.istore 7, 2) := by decide +kernel
theorem dX8_round_184 : decode cX8_round 184 = .ok (.iload 5, 2) := by decide +kernel
theorem dX8_round_186 : decode cX8_round 186 = .ok (.iload 7, 2) := by decide +kernel
theorem dX8_round_188 : decode cX8_round 188 = .ok (.iload 7, 2) := by decide +kernel
theorem dX8_round_190 : decode cX8_round 190 = .ok (.imul, 1) := by decide +kernel
theorem dX8_round_191 : decode cX8_round 191 = .ok (.iadd, 1) := by decide +kernel
theorem dX8_round_192 : decode cX8_round 192 = .ok (.istore 5, 2) := by decide +kernel
theorem dX8_round_194 : decode cX8_round 194 = .ok (.iinc 6 1, 3) := by decide +kernel
theorem dX8_round_197 : decode cX8_round 197 = .ok (.goto (-40), 3) := by decide +kernel
theorem dX8_round_200 : decode cX8_round 200 = .ok (.iload 5, 2) := by decide +kernel
theorem dX8_round_202 : decode cX8_round 202 = .ok (.iload_n 2, 1) := by decide +kernel
theorem dX8_round_203 : decode cX8_round 203 = .ok (.if_icmp .ge 8, 3) := by decide +kernel
theorem dX8_round_206 : decode cX8_round 206 = .ok (.iload 5, 2) := by decide +kernel
theorem dX8_round_208 : decode cX8_round 208 = .ok (.goto 4, 3) := by decide +kernel
theorem dX8_round_211 : decode cX8_round 211 = .ok (.iload_n 2, 1) := by decide +kernel
theorem dX8_round_212 : decode cX8_round 212 = .ok (.istore_n 2, 1) := by decide +kernel
theorem dX8_round_213 : decode cX8_round 213 = .ok (.iinc 4 1, 3) := by decide +kernel
theorem dX8_round_216 : decode cX8_round 216 = .ok (.goto (-91), 3) := by decide +kernel
theorem dX8_round_219 : decode cX8_round 219 = .ok (.iload_n 2, 1) := by decide +kernel
theorem dX8_round_220 : decode cX8_round 220 = .ok (.ireturn, 1) := by decide +kernel
theorem dX8_mayHold_0 : decode cX8_mayHold 0 = .ok (.aload_n 0, 1) := by decide +kernel
theorem dX8_mayHold_1 : decode cX8_mayHold 1 = .ok (.iload_n 1, 1) := by decide +kernel
theorem dX8_mayHold_2 : decode cX8_mayHold 2 = .ok (.iconst 1, 1) := by decide +kernel
theorem dX8_mayHold_3 : decode cX8_mayHold 3 = .ok (.invokevirtual 142, 3) := by decide +kernel
theorem dX8_mayHold_6 : decode cX8_mayHold 6 = .ok (.istore 4, 2) := by decide +kernel
theorem dX8_mayHold_8 : decode cX8_mayHold 8 = .ok (.aload_n 0, 1) := by decide +kernel
theorem dX8_mayHold_9 : decode cX8_mayHold 9 = .ok (.iload_n 1, 1) := by decide +kernel
theorem dX8_mayHold_10 : decode cX8_mayHold 10 = .ok (.iconst 2, 1) := by decide +kernel
theorem dX8_mayHold_11 : decode cX8_mayHold 11 = .ok (.invokevirtual 142, 3) := by decide +kernel
theorem dX8_mayHold_14 : decode cX8_mayHold 14 = .ok (.istore 5, 2) := by decide +kernel
theorem dX8_mayHold_16 : decode cX8_mayHold 16 = .ok (.aload_n 0, 1) := by decide +kernel
theorem dX8_mayHold_17 : decode cX8_mayHold 17 = .ok (.iload_n 1, 1) := by decide +kernel
theorem dX8_mayHold_18 : decode cX8_mayHold 18 = .ok (.iconst 0, 1) := by decide +kernel
theorem dX8_mayHold_19 : decode cX8_mayHold 19 = .ok (.invokevirtual 142, 3) := by decide +kernel
theorem dX8_mayHold_22 : decode cX8_mayHold 22 = .ok (.tableswitch 131 1 5 #[34, 45, 69, 95, 119], 34) := by decide +kernel
theorem dX8_mayHold_56 : decode cX8_mayHold 56 = .ok (.iload 4, 2) := by decide +kernel
theorem dX8_mayHold_58 : decode cX8_mayHold 58 = .ok (.i2l, 1) := by decide +kernel
theorem dX8_mayHold_59 : decode cX8_mayHold 59 = .ok (.iload_n 2, 1) := by decide +kernel
theorem dX8_mayHold_60 : decode cX8_mayHold 60 = .ok (.i2l, 1) := by decide +kernel
theorem dX8_mayHold_61 : decode cX8_mayHold 61 = .ok (.iload_n 3, 1) := by decide +kernel
theorem dX8_mayHold_62 : decode cX8_mayHold 62 = .ok (.i2l, 1) := by decide +kernel
theorem dX8_mayHold_63 : decode cX8_mayHold 63 = .ok (.invokestatic 93, 3) := by decide +kernel
theorem dX8_mayHold_66 : decode cX8_mayHold 66 = .ok (.ireturn, 1) := by decide +kernel
theorem dX8_mayHold_67 : decode cX8_mayHold 67 = .ok (.iload_n 3, 1) := by decide +kernel
theorem dX8_mayHold_68 : decode cX8_mayHold 68 = .ok (.iload 4, 2) := by decide +kernel
theorem dX8_mayHold_70 : decode cX8_mayHold 70 = .ok (.iload 5, 2) := by decide +kernel
theorem dX8_mayHold_72 : decode cX8_mayHold 72 = .ok (.isub, 1) := by decide +kernel
theorem dX8_mayHold_73 : decode cX8_mayHold 73 = .ok (.if_icmp .lt 16, 3) := by decide +kernel
theorem dX8_mayHold_76 : decode cX8_mayHold 76 = .ok (.iload_n 2, 1) := by decide +kernel
theorem dX8_mayHold_77 : decode cX8_mayHold 77 = .ok (.iload 4, 2) := by decide +kernel
theorem dX8_mayHold_79 : decode cX8_mayHold 79 = .ok (.iload 5, 2) := by decide +kernel
theorem dX8_mayHold_81 : decode cX8_mayHold 81 = .ok (.iadd, 1) := by decide +kernel
theorem dX8_mayHold_82 : decode cX8_mayHold 82 = .ok (.if_icmp .gt 7, 3) := by decide +kernel
theorem dX8_mayHold_85 : decode cX8_mayHold 85 = .ok (.iconst 1, 1) := by decide +kernel
theorem dX8_mayHold_86 : decode cX8_mayHold 86 = .ok (.goto 4, 3) := by decide +kernel
theorem dX8_mayHold_89 : decode cX8_mayHold 89 = .ok (.iconst 0, 1) := by decide +kernel
theorem dX8_mayHold_90 : decode cX8_mayHold 90 = .ok (.ireturn, 1) := by decide +kernel
theorem dX8_mayHold_91 : decode cX8_mayHold 91 = .ok (.iload_n 3, 1) := by decide +kernel
theorem dX8_mayHold_92 : decode cX8_mayHold 92 = .ok (.iload_n 2, 1) := by decide +kernel
theorem dX8_mayHold_93 : decode cX8_mayHold 93 = .ok (.isub, 1) := by decide +kernel
theorem dX8_mayHold_94 : decode cX8_mayHold 94 = .ok (.iconst 1, 1) := by decide +kernel
theorem dX8_mayHold_95 : decode cX8_mayHold 95 = .ok (.iadd, 1) := by decide +kernel
theorem dX8_mayHold_96 : decode cX8_mayHold 96 = .ok (.iload 5, 2) := by decide +kernel
theorem dX8_mayHold_98 : decode cX8_mayHold 98 = .ok (.if_icmp .ge 13, 3) := by decide +kernel
theorem dX8_mayHold_101 : decode cX8_mayHold 101 = .ok (.aload_n 0, 1) := by decide +kernel
theorem dX8_mayHold_102 : decode cX8_mayHold 102 = .ok (.iload_n 1, 1) := by decide +kernel
theorem dX8_mayHold_103 : decode cX8_mayHold 103 = .ok (.iload_n 2, 1) := by decide +kernel
theorem dX8_mayHold_104 : decode cX8_mayHold 104 = .ok (.iload_n 3, 1) := by decide +kernel
theorem dX8_mayHold_105 : decode cX8_mayHold 105 = .ok (.invokevirtual 228, 3) := by decide +kernel
theorem dX8_mayHold_108 : decode cX8_mayHold 108 = .ok (.ifCond .eq 7, 3) := by decide +kernel
theorem dX8_mayHold_111 : decode cX8_mayHold 111 = .ok (.iconst 1, 1) := by decide +kernel
theorem dX8_mayHold_112 : decode cX8_mayHold 112 = .ok (.goto 4, 3) := by decide +kernel
theorem dX8_mayHold_115 : decode cX8_mayHold 115 = .ok (.iconst 0, 1) := by decide +kernel
theorem dX8_mayHold_116 : decode cX8_mayHold 116 = .ok (.ireturn, 1) := by decide +kernel
theorem dX8_mayHold_117 : decode cX8_mayHold 117 = .ok (.iload_n 2, 1) := by decide +kernel
theorem dX8_mayHold_118 : decode cX8_mayHold 118 = .ok (.iload 4, 2) := by decide +kernel
theorem dX8_mayHold_120 : decode cX8_mayHold 120 = .ok (.iload 5, 2) := by decide +kernel
theorem dX8_mayHold_122 : decode cX8_mayHold 122 = .ok (.isub, 1) := by decide +kernel
theorem dX8_mayHold_123 : decode cX8_mayHold 123 = .ok (.if_icmp .lt 12, 3) := by decide +kernel
theorem dX8_mayHold_126 : decode cX8_mayHold 126 = .ok (.iload_n 3, 1) := by decide +kernel
theorem dX8_mayHold_127 : decode cX8_mayHold 127 = .ok (.iload 4, 2) := by decide +kernel
theorem dX8_mayHold_129 : decode cX8_mayHold 129 = .ok (.iload 5, 2) := by decide +kernel
theorem dX8_mayHold_131 : decode cX8_mayHold 131 = .ok (.iadd, 1) := by decide +kernel
theorem dX8_mayHold_132 : decode cX8_mayHold 132 = .ok (.if_icmp .le 7, 3) := by decide +kernel
theorem dX8_mayHold_135 : decode cX8_mayHold 135 = .ok (.iconst 1, 1) := by decide +kernel
theorem dX8_mayHold_136 : decode cX8_mayHold 136 = .ok (.goto 4, 3) := by decide +kernel
theorem dX8_mayHold_139 : decode cX8_mayHold 139 = .ok (.iconst 0, 1) := by decide +kernel
theorem dX8_mayHold_140 : decode cX8_mayHold 140 = .ok (.ireturn, 1) := by decide +kernel
theorem dX8_mayHold_141 : decode cX8_mayHold 141 = .ok (.iload_n 3, 1) := by decide +kernel
theorem dX8_mayHold_142 : decode cX8_mayHold 142 = .ok (.iload 4, 2) := by decide +kernel
theorem dX8_mayHold_144 : decode cX8_mayHold 144 = .ok (.if_icmp .lt 7, 3) := by decide +kernel
theorem dX8_mayHold_147 : decode cX8_mayHold 147 = .ok (.iconst 1, 1) := by decide +kernel
theorem dX8_mayHold_148 : decode cX8_mayHold 148 = .ok (.goto 4, 3) := by decide +kernel
theorem dX8_mayHold_151 : decode cX8_mayHold 151 = .ok (.iconst 0, 1) := by decide +kernel
theorem dX8_mayHold_152 : decode cX8_mayHold 152 = .ok (.ireturn, 1) := by decide +kernel
theorem dX8_mayHold_153 : decode cX8_mayHold 153 = .ok (.iload_n 2, 1) := by decide +kernel
theorem dX8_mayHold_154 : decode cX8_mayHold 154 = .ok (.iload 4, 2) := by decide +kernel
theorem dX8_mayHold_156 : decode cX8_mayHold 156 = .ok (.if_icmp .gt 7, 3) := by decide +kernel
theorem dX8_mayHold_159 : decode cX8_mayHold 159 = .ok (.iconst 1, 1) := by decide +kernel
theorem dX8_mayHold_160 : decode cX8_mayHold 160 = .ok (.goto 4, 3) := by decide +kernel
theorem dX8_mayHold_163 : decode cX8_mayHold 163 = .ok (.iconst 0, 1) := by decide +kernel
theorem dX8_mayHold_164 : decode cX8_mayHold 164 = .ok (.ireturn, 1) := by decide +kernel
theorem dX8_anyOf_0 : decode cX8_anyOf 0 = .ok (.iconst 0, 1) := by decide +kernel
theorem dX8_anyOf_1 : decode cX8_anyOf 1 = .ok (.istore 4, 2) := by decide +kernel
theorem dX8_anyOf_3 : decode cX8_anyOf 3 = .ok (.iload_n 2, 1) := by decide +kernel
theorem dX8_anyOf_4 : decode cX8_anyOf 4 = .ok (.istore 5, 2) := by decide +kernel
theorem dX8_anyOf_6 : decode cX8_anyOf 6 = .ok (.iload 5, 2) := by decide +kernel
theorem dX8_anyOf_8 : decode cX8_anyOf 8 = .ok (.iload_n 3, 1) := by decide +kernel
theorem dX8_anyOf_9 : decode cX8_anyOf 9 = .ok (.if_icmp .gt 40, 3) := by decide +kernel
theorem dX8_anyOf_12 : decode cX8_anyOf 12 = .ok (.iload 4, 2) := by decide +kernel
theorem dX8_anyOf_14 : decode cX8_anyOf 14 = .ok (.ifCond .ne 22, 3) := by decide +kernel
theorem dX8_anyOf_17 : decode cX8_anyOf 17 = .ok (.iload 5, 2) := by decide +kernel
theorem dX8_anyOf_19 : decode cX8_anyOf 19 = .ok (.aload_n 0, 1) := by decide +kernel
theorem dX8_anyOf_20 : decode cX8_anyOf 20 = .ok (.iload_n 1, 1) := by decide +kernel
theorem dX8_anyOf_21 : decode cX8_anyOf 21 = .ok (.iconst 1, 1) := by decide +kernel
theorem dX8_anyOf_22 : decode cX8_anyOf 22 = .ok (.invokevirtual 142, 3) := by decide +kernel
theorem dX8_anyOf_25 : decode cX8_anyOf 25 = .ok (.isub, 1) := by decide +kernel
theorem dX8_anyOf_26 : decode cX8_anyOf 26 = .ok (.aload_n 0, 1) := by decide +kernel
theorem dX8_anyOf_27 : decode cX8_anyOf 27 = .ok (.iload_n 1, 1) := by decide +kernel
theorem dX8_anyOf_28 : decode cX8_anyOf 28 = .ok (.iconst 2, 1) := by decide +kernel
theorem dX8_anyOf_29 : decode cX8_anyOf 29 = .ok (.invokevirtual 142, 3) := by decide +kernel
theorem dX8_anyOf_32 : decode cX8_anyOf 32 = .ok (.irem, 1) := by decide +kernel
theorem dX8_anyOf_33 : decode cX8_anyOf 33 = .ok (.ifCond .ne 7, 3) := by decide +kernel
theorem dX8_anyOf_36 : decode cX8_anyOf 36 = .ok (.iconst 1, 1) := by decide +kernel
theorem dX8_anyOf_37 : decode cX8_anyOf 37 = .ok (.goto 4, 3) := by decide +kernel
theorem dX8_anyOf_40 : decode cX8_anyOf 40 = .ok (.iconst 0, 1) := by decide +kernel
theorem dX8_anyOf_41 : decode cX8_anyOf 41 = .ok (.istore 4, 2) := by decide +kernel
theorem dX8_anyOf_43 : decode cX8_anyOf 43 = .ok (.iinc 5 1, 3) := by decide +kernel
theorem dX8_anyOf_46 : decode cX8_anyOf 46 = .ok (.goto (-40), 3) := by decide +kernel
theorem dX8_anyOf_49 : decode cX8_anyOf 49 = .ok (.iload 4, 2) := by decide +kernel
theorem dX8_anyOf_51 : decode cX8_anyOf 51 = .ok (.ireturn, 1) := by decide +kernel
theorem dX8_mustHold_0 : decode cX8_mustHold 0 = .ok (.aload_n 0, 1) := by decide +kernel
theorem dX8_mustHold_1 : decode cX8_mustHold 1 = .ok (.iload_n 1, 1) := by decide +kernel
theorem dX8_mustHold_2 : decode cX8_mustHold 2 = .ok (.iconst 1, 1) := by decide +kernel
theorem dX8_mustHold_3 : decode cX8_mustHold 3 = .ok (.invokevirtual 142, 3) := by decide +kernel
theorem dX8_mustHold_6 : decode cX8_mustHold 6 = .ok (.istore 4, 2) := by decide +kernel
theorem dX8_mustHold_8 : decode cX8_mustHold 8 = .ok (.aload_n 0, 1) := by decide +kernel
theorem dX8_mustHold_9 : decode cX8_mustHold 9 = .ok (.iload_n 1, 1) := by decide +kernel
theorem dX8_mustHold_10 : decode cX8_mustHold 10 = .ok (.iconst 2, 1) := by decide +kernel
theorem dX8_mustHold_11 : decode cX8_mustHold 11 = .ok (.invokevirtual 142, 3) := by decide +kernel
theorem dX8_mustHold_14 : decode cX8_mustHold 14 = .ok (.istore 5, 2) := by decide +kernel
theorem dX8_mustHold_16 : decode cX8_mustHold 16 = .ok (.aload_n 0, 1) := by decide +kernel
theorem dX8_mustHold_17 : decode cX8_mustHold 17 = .ok (.iload_n 1, 1) := by decide +kernel
theorem dX8_mustHold_18 : decode cX8_mustHold 18 = .ok (.iconst 0, 1) := by decide +kernel
theorem dX8_mustHold_19 : decode cX8_mustHold 19 = .ok (.invokevirtual 142, 3) := by decide +kernel
theorem dX8_mustHold_22 : decode cX8_mustHold 22 = .ok (.tableswitch 139 1 5 #[34, 52, 76, 103, 127], 34) := by decide +kernel
theorem dX8_mustHold_56 : decode cX8_mustHold 56 = .ok (.iload_n 2, 1) := by decide +kernel
theorem dX8_mustHold_57 : decode cX8_mustHold 57 = .ok (.iload 4, 2) := by decide +kernel
theorem dX8_mustHold_59 : decode cX8_mustHold 59 = .ok (.if_icmp .ne 13, 3) := by decide +kernel
theorem dX8_mustHold_62 : decode cX8_mustHold 62 = .ok (.iload_n 3, 1) := by decide +kernel
theorem dX8_mustHold_63 : decode cX8_mustHold 63 = .ok (.iload 4, 2) := by decide +kernel
theorem dX8_mustHold_65 : decode cX8_mustHold 65 = .ok (.if_icmp .ne 7, 3) := by decide +kernel
theorem dX8_mustHold_68 : decode cX8_mustHold 68 = .ok (.iconst 1, 1) := by decide +kernel
theorem dX8_mustHold_69 : decode cX8_mustHold 69 = .ok (.goto 4, 3) := by decide +kernel
theorem dX8_mustHold_72 : decode cX8_mustHold 72 = .ok (.iconst 0, 1) := by decide +kernel
theorem dX8_mustHold_73 : decode cX8_mustHold 73 = .ok (.ireturn, 1) := by decide +kernel
theorem dX8_mustHold_74 : decode cX8_mustHold 74 = .ok (.iload_n 2, 1) := by decide +kernel
theorem dX8_mustHold_75 : decode cX8_mustHold 75 = .ok (.iload 4, 2) := by decide +kernel
theorem dX8_mustHold_77 : decode cX8_mustHold 77 = .ok (.iload 5, 2) := by decide +kernel
theorem dX8_mustHold_79 : decode cX8_mustHold 79 = .ok (.isub, 1) := by decide +kernel
theorem dX8_mustHold_80 : decode cX8_mustHold 80 = .ok (.if_icmp .lt 16, 3) := by decide +kernel
theorem dX8_mustHold_83 : decode cX8_mustHold 83 = .ok (.iload_n 3, 1) := by decide +kernel
theorem dX8_mustHold_84 : decode cX8_mustHold 84 = .ok (.iload 4, 2) := by decide +kernel
theorem dX8_mustHold_86 : decode cX8_mustHold 86 = .ok (.iload 5, 2) := by decide +kernel
theorem dX8_mustHold_88 : decode cX8_mustHold 88 = .ok (.iadd, 1) := by decide +kernel
theorem dX8_mustHold_89 : decode cX8_mustHold 89 = .ok (.if_icmp .gt 7, 3) := by decide +kernel
theorem dX8_mustHold_92 : decode cX8_mustHold 92 = .ok (.iconst 1, 1) := by decide +kernel
theorem dX8_mustHold_93 : decode cX8_mustHold 93 = .ok (.goto 4, 3) := by decide +kernel
theorem dX8_mustHold_96 : decode cX8_mustHold 96 = .ok (.iconst 0, 1) := by decide +kernel
theorem dX8_mustHold_97 : decode cX8_mustHold 97 = .ok (.ireturn, 1) := by decide +kernel
theorem dX8_mustHold_98 : decode cX8_mustHold 98 = .ok (.iload 5, 2) := by decide +kernel
theorem dX8_mustHold_100 : decode cX8_mustHold 100 = .ok (.iconst 1, 1) := by decide +kernel
theorem dX8_mustHold_101 : decode cX8_mustHold 101 = .ok (.if_icmp .eq 18, 3) := by decide +kernel
theorem dX8_mustHold_104 : decode cX8_mustHold 104 = .ok (.iload_n 2, 1) := by decide +kernel
theorem dX8_mustHold_105 : decode cX8_mustHold 105 = .ok (.iload_n 3, 1) := by decide +kernel
theorem dX8_mustHold_106 : decode cX8_mustHold 106 = .ok (.if_icmp .ne 17, 3) := by decide +kernel
theorem dX8_mustHold_109 : decode cX8_mustHold 109 = .ok (.iload_n 2, 1) := by decide +kernel
theorem dX8_mustHold_110 : decode cX8_mustHold 110 = .ok (.iload 4, 2) := by decide +kernel
theorem dX8_mustHold_112 : decode cX8_mustHold 112 = .ok (.isub, 1) := by decide +kernel
theorem dX8_mustHold_113 : decode cX8_mustHold 113 = .ok (.iload 5, 2) := by decide +kernel
theorem dX8_mustHold_115 : decode cX8_mustHold 115 = .ok (.irem, 1) := by decide +kernel
theorem dX8_mustHold_116 : decode cX8_mustHold 116 = .ok (.ifCond .ne 7, 3) := by decide +kernel
theorem dX8_mustHold_119 : decode cX8_mustHold 119 = .ok (.iconst 1, 1) := by decide +kernel
theorem dX8_mustHold_120 : decode cX8_mustHold 120 = .ok (.goto 4, 3) := by decide +kernel
theorem dX8_mustHold_123 : decode cX8_mustHold 123 = .ok (.iconst 0, 1) := by decide +kernel
theorem dX8_mustHold_124 : decode cX8_mustHold 124 = .ok (.ireturn, 1) := by decide +kernel
theorem dX8_mustHold_125 : decode cX8_mustHold 125 = .ok (.iload_n 3, 1) := by decide +kernel
theorem dX8_mustHold_126 : decode cX8_mustHold 126 = .ok (.iload 4, 2) := by decide +kernel
theorem dX8_mustHold_128 : decode cX8_mustHold 128 = .ok (.iload 5, 2) := by decide +kernel
theorem dX8_mustHold_130 : decode cX8_mustHold 130 = .ok (.isub, 1) := by decide +kernel
theorem dX8_mustHold_131 : decode cX8_mustHold 131 = .ok (.if_icmp .lt 12, 3) := by decide +kernel
theorem dX8_mustHold_134 : decode cX8_mustHold 134 = .ok (.iload_n 2, 1) := by decide +kernel
theorem dX8_mustHold_135 : decode cX8_mustHold 135 = .ok (.iload 4, 2) := by decide +kernel
theorem dX8_mustHold_137 : decode cX8_mustHold 137 = .ok (.iload 5, 2) := by decide +kernel
theorem dX8_mustHold_139 : decode cX8_mustHold 139 = .ok (.iadd, 1) := by decide +kernel
theorem dX8_mustHold_140 : decode cX8_mustHold 140 = .ok (.if_icmp .le 7, 3) := by decide +kernel
theorem dX8_mustHold_143 : decode cX8_mustHold 143 = .ok (.iconst 1, 1) := by decide +kernel
theorem dX8_mustHold_144 : decode cX8_mustHold 144 = .ok (.goto 4, 3) := by decide +kernel
theorem dX8_mustHold_147 : decode cX8_mustHold 147 = .ok (.iconst 0, 1) := by decide +kernel
theorem dX8_mustHold_148 : decode cX8_mustHold 148 = .ok (.ireturn, 1) := by decide +kernel
theorem dX8_mustHold_149 : decode cX8_mustHold 149 = .ok (.iload_n 2, 1) := by decide +kernel
theorem dX8_mustHold_150 : decode cX8_mustHold 150 = .ok (.iload 4, 2) := by decide +kernel
theorem dX8_mustHold_152 : decode cX8_mustHold 152 = .ok (.if_icmp .lt 7, 3) := by decide +kernel
theorem dX8_mustHold_155 : decode cX8_mustHold 155 = .ok (.iconst 1, 1) := by decide +kernel
theorem dX8_mustHold_156 : decode cX8_mustHold 156 = .ok (.goto 4, 3) := by decide +kernel
theorem dX8_mustHold_159 : decode cX8_mustHold 159 = .ok (.iconst 0, 1) := by decide +kernel
theorem dX8_mustHold_160 : decode cX8_mustHold 160 = .ok (.ireturn, 1) := by decide +kernel
theorem dX8_mustHold_161 : decode cX8_mustHold 161 = .ok (.iload_n 3, 1) := by decide +kernel
theorem dX8_mustHold_162 : decode cX8_mustHold 162 = .ok (.iload 4, 2) := by decide +kernel
theorem dX8_mustHold_164 : decode cX8_mustHold 164 = .ok (.if_icmp .gt 7, 3) := by decide +kernel
theorem dX8_mustHold_167 : decode cX8_mustHold 167 = .ok (.iconst 1, 1) := by decide +kernel
theorem dX8_mustHold_168 : decode cX8_mustHold 168 = .ok (.goto 4, 3) := by decide +kernel
theorem dX8_mustHold_171 : decode cX8_mustHold 171 = .ok (.iconst 0, 1) := by decide +kernel
theorem dX8_mustHold_172 : decode cX8_mustHold 172 = .ok (.ireturn, 1) := by decide +kernel
theorem dX8_deadRow_0 : decode cX8_deadRow 0 = .ok (.iconst 0, 1) := by decide +kernel
theorem dX8_deadRow_1 : decode cX8_deadRow 1 = .ok (.istore_n 2, 1) := by decide +kernel
theorem dX8_deadRow_2 : decode cX8_deadRow 2 = .ok (.iload_n 2, 1) := by decide +kernel
theorem dX8_deadRow_3 : decode cX8_deadRow 3 = .ok (.aload_n 0, 1) := by decide +kernel
theorem dX8_deadRow_4 : decode cX8_deadRow 4 = .ok (.getfield 97, 3) := by decide +kernel
theorem dX8_deadRow_7 : decode cX8_deadRow 7 = .ok (.if_icmp .ge 31, 3) := by decide +kernel
theorem dX8_deadRow_10 : decode cX8_deadRow 10 = .ok (.aload_n 0, 1) := by decide +kernel
theorem dX8_deadRow_11 : decode cX8_deadRow 11 = .ok (.iload_n 2, 1) := by decide +kernel
theorem dX8_deadRow_12 : decode cX8_deadRow 12 = .ok (.aload_n 0, 1) := by decide +kernel
theorem dX8_deadRow_13 : decode cX8_deadRow 13 = .ok (.iload_n 2, 1) := by decide +kernel
theorem dX8_deadRow_14 : decode cX8_deadRow 14 = .ok (.iload_n 1, 1) := by decide +kernel
theorem dX8_deadRow_15 : decode cX8_deadRow 15 = .ok (.invokevirtual 158, 3) := by decide +kernel
theorem dX8_deadRow_18 : decode cX8_deadRow 18 = .ok (.aload_n 0, 1) := by decide +kernel
theorem dX8_deadRow_19 : decode cX8_deadRow 19 = .ok (.iload_n 2, 1) := by decide +kernel
theorem dX8_deadRow_20 : decode cX8_deadRow 20 = .ok (.iload_n 1, 1) := by decide +kernel
theorem dX8_deadRow_21 : decode cX8_deadRow 21 = .ok (.invokevirtual 161, 3) := by decide +kernel
theorem dX8_deadRow_24 : decode cX8_deadRow 24 = .ok (.invokevirtual 231, 3) := by decide +kernel
theorem dX8_deadRow_27 : decode cX8_deadRow 27 = .ok (.ifCond .ne 5, 3) := by decide +kernel
theorem dX8_deadRow_30 : decode cX8_deadRow 30 = .ok (.iload_n 2, 1) := by decide +kernel
theorem dX8_deadRow_31 : decode cX8_deadRow 31 = .ok (.ireturn, 1) := by decide +kernel
theorem dX8_deadRow_32 : decode cX8_deadRow 32 = .ok (.iinc 2 1, 3) := by decide +kernel
theorem dX8_deadRow_35 : decode cX8_deadRow 35 = .ok (.goto (-33), 3) := by decide +kernel
theorem dX8_deadRow_38 : decode cX8_deadRow 38 = .ok (.iconst (-1), 1) := by decide +kernel
theorem dX8_deadRow_39 : decode cX8_deadRow 39 = .ok (.ireturn, 1) := by decide +kernel
theorem dX8_isWhole_0 : decode cX8_isWhole 0 = .ok (.iconst 1, 1) := by decide +kernel
theorem dX8_isWhole_1 : decode cX8_isWhole 1 = .ok (.istore_n 2, 1) := by decide +kernel
theorem dX8_isWhole_2 : decode cX8_isWhole 2 = .ok (.iconst 0, 1) := by decide +kernel
theorem dX8_isWhole_3 : decode cX8_isWhole 3 = .ok (.istore_n 3, 1) := by decide +kernel
theorem dX8_isWhole_4 : decode cX8_isWhole 4 = .ok (.iload_n 3, 1) := by decide +kernel
theorem dX8_isWhole_5 : decode cX8_isWhole 5 = .ok (.aload_n 0, 1) := by decide +kernel
theorem dX8_isWhole_6 : decode cX8_isWhole 6 = .ok (.getfield 97, 3) := by decide +kernel
theorem dX8_isWhole_9 : decode cX8_isWhole 9 = .ok (.if_icmp .ge 39, 3) := by decide +kernel
theorem dX8_isWhole_12 : decode cX8_isWhole 12 = .ok (.iload_n 2, 1) := by decide +kernel
theorem dX8_isWhole_13 : decode cX8_isWhole 13 = .ok (.ifCond .eq 27, 3) := by decide +kernel
theorem dX8_isWhole_16 : decode cX8_isWhole 16 = .ok (.aload_n 0, 1) := by decide +kernel
theorem dX8_isWhole_17 : decode cX8_isWhole 17 = .ok (.iload_n 3, 1) := by decide +kernel
theorem dX8_isWhole_18 : decode cX8_isWhole 18 = .ok (.aload_n 0, 1) := by decide +kernel
theorem dX8_isWhole_19 : decode cX8_isWhole 19 = .ok (.iload_n 3, 1) := by decide +kernel
theorem dX8_isWhole_20 : decode cX8_isWhole 20 = .ok (.iload_n 1, 1) := by decide +kernel
theorem dX8_isWhole_21 : decode cX8_isWhole 21 = .ok (.invokevirtual 158, 3) := by decide +kernel
theorem dX8_isWhole_24 : decode cX8_isWhole 24 = .ok (.aload_n 0, 1) := by decide +kernel
theorem dX8_isWhole_25 : decode cX8_isWhole 25 = .ok (.iload_n 3, 1) := by decide +kernel
theorem dX8_isWhole_26 : decode cX8_isWhole 26 = .ok (.iload_n 1, 1) := by decide +kernel
theorem dX8_isWhole_27 : decode cX8_isWhole 27 = .ok (.invokevirtual 161, 3) := by decide +kernel
theorem dX8_isWhole_30 : decode cX8_isWhole 30 = .ok (.invokevirtual 234, 3) := by decide +kernel
theorem dX8_isWhole_33 : decode cX8_isWhole 33 = .ok (.ifCond .eq 7, 3) := by decide +kernel
theorem dX8_isWhole_36 : decode cX8_isWhole 36 = .ok (.iconst 1, 1) := by decide +kernel
theorem dX8_isWhole_37 : decode cX8_isWhole 37 = .ok (.goto 4, 3) := by decide +kernel
theorem dX8_isWhole_40 : decode cX8_isWhole 40 = .ok (.iconst 0, 1) := by decide +kernel
theorem dX8_isWhole_41 : decode cX8_isWhole 41 = .ok (.istore_n 2, 1) := by decide +kernel
theorem dX8_isWhole_42 : decode cX8_isWhole 42 = .ok (.iinc 3 1, 3) := by decide +kernel
theorem dX8_isWhole_45 : decode cX8_isWhole 45 = .ok (.goto (-41), 3) := by decide +kernel
theorem dX8_isWhole_48 : decode cX8_isWhole 48 = .ok (.iload_n 2, 1) := by decide +kernel
theorem dX8_isWhole_49 : decode cX8_isWhole 49 = .ok (.ireturn, 1) := by decide +kernel
theorem dX8_leafAt_0 : decode cX8_leafAt 0 = .ok (.bipush 11, 2) := by decide +kernel
theorem dX8_leafAt_2 : decode cX8_leafAt 2 = .ok (.aload_n 0, 1) := by decide +kernel
theorem dX8_leafAt_3 : decode cX8_leafAt 3 = .ok (.getfield 237, 3) := by decide +kernel
theorem dX8_leafAt_6 : decode cX8_leafAt 6 = .ok (.imul, 1) := by decide +kernel
theorem dX8_leafAt_7 : decode cX8_leafAt 7 = .ok (.istore_n 3, 1) := by decide +kernel
theorem dX8_leafAt_8 : decode cX8_leafAt 8 = .ok (.iconst 1, 1) := by decide +kernel
theorem dX8_leafAt_9 : decode cX8_leafAt 9 = .ok (.istore 4, 2) := by decide +kernel
theorem dX8_leafAt_11 : decode cX8_leafAt 11 = .ok (.iconst 0, 1) := by decide +kernel
theorem dX8_leafAt_12 : decode cX8_leafAt 12 = .ok (.istore 5, 2) := by decide +kernel
theorem dX8_leafAt_14 : decode cX8_leafAt 14 = .ok (.iload 5, 2) := by decide +kernel
theorem dX8_leafAt_16 : decode cX8_leafAt 16 = .ok (.iconst 4, 1) := by decide +kernel
theorem dX8_leafAt_17 : decode cX8_leafAt 17 = .ok (.if_icmp .ge 88, 3) := by decide +kernel
theorem dX8_leafAt_20 : decode cX8_leafAt 20 = .ok (.aload_n 0, 1) := by decide +kernel
theorem dX8_leafAt_21 : decode cX8_leafAt 21 = .ok (.getfield 49, 3) := by decide +kernel
theorem dX8_leafAt_24 : decode cX8_leafAt 24 = .ok (.iload_n 3, 1) := by decide +kernel
theorem dX8_leafAt_25 : decode cX8_leafAt 25 = .ok (.iconst 3, 1) := by decide +kernel
theorem dX8_leafAt_26 : decode cX8_leafAt 26 = .ok (.iadd, 1) := by decide +kernel
theorem dX8_leafAt_27 : decode cX8_leafAt 27 = .ok (.iconst 2, 1) := by decide +kernel
theorem dX8_leafAt_28 : decode cX8_leafAt 28 = .ok (.iload 5, 2) := by decide +kernel
theorem dX8_leafAt_30 : decode cX8_leafAt 30 = .ok (.imul, 1) := by decide +kernel
theorem dX8_leafAt_31 : decode cX8_leafAt 31 = .ok (.iadd, 1) := by decide +kernel
theorem dX8_leafAt_32 : decode cX8_leafAt 32 = .ok (.aload_n 0, 1) := by decide +kernel
theorem dX8_leafAt_33 : decode cX8_leafAt 33 = .ok (.iload_n 1, 1) := by decide +kernel
theorem dX8_leafAt_34 : decode cX8_leafAt 34 = .ok (.iload 5, 2) := by decide +kernel
theorem dX8_leafAt_36 : decode cX8_leafAt 36 = .ok (.iconst 0, 1) := by decide +kernel
theorem dX8_leafAt_37 : decode cX8_leafAt 37 = .ok (.invokevirtual 146, 3) := by decide +kernel
theorem dX8_leafAt_40 : decode cX8_leafAt 40 = .ok (.iastore, 1) := by decide +kernel
theorem dX8_leafAt_41 : decode cX8_leafAt 41 = .ok (.aload_n 0, 1) := by decide +kernel
theorem dX8_leafAt_42 : decode cX8_leafAt 42 = .ok (.getfield 49, 3) := by decide +kernel
theorem dX8_leafAt_45 : decode cX8_leafAt 45 = .ok (.iload_n 3, 1) := by decide +kernel
theorem dX8_leafAt_46 : decode cX8_leafAt 46 = .ok (.iconst 4, 1) := by decide +kernel
theorem dX8_leafAt_47 : decode cX8_leafAt 47 = .ok (.iadd, 1) := by decide +kernel
theorem dX8_leafAt_48 : decode cX8_leafAt 48 = .ok (.iconst 2, 1) := by decide +kernel
theorem dX8_leafAt_49 : decode cX8_leafAt 49 = .ok (.iload 5, 2) := by decide +kernel
theorem dX8_leafAt_51 : decode cX8_leafAt 51 = .ok (.imul, 1) := by decide +kernel
theorem dX8_leafAt_52 : decode cX8_leafAt 52 = .ok (.iadd, 1) := by decide +kernel
theorem dX8_leafAt_53 : decode cX8_leafAt 53 = .ok (.aload_n 0, 1) := by decide +kernel
theorem dX8_leafAt_54 : decode cX8_leafAt 54 = .ok (.iload_n 1, 1) := by decide +kernel
theorem dX8_leafAt_55 : decode cX8_leafAt 55 = .ok (.iload 5, 2) := by decide +kernel
theorem dX8_leafAt_57 : decode cX8_leafAt 57 = .ok (.iconst 1, 1) := by decide +kernel
theorem dX8_leafAt_58 : decode cX8_leafAt 58 = .ok (.invokevirtual 146, 3) := by decide +kernel
theorem dX8_leafAt_61 : decode cX8_leafAt 61 = .ok (.iastore, 1) := by decide +kernel
theorem dX8_leafAt_62 : decode cX8_leafAt 62 = .ok (.iload 4, 2) := by decide +kernel
theorem dX8_leafAt_64 : decode cX8_leafAt 64 = .ok (.iload 5, 2) := by decide +kernel
theorem dX8_leafAt_66 : decode cX8_leafAt 66 = .ok (.aload_n 0, 1) := by decide +kernel
theorem dX8_leafAt_67 : decode cX8_leafAt 67 = .ok (.getfield 13, 3) := by decide +kernel
theorem dX8_leafAt_70 : decode cX8_leafAt 70 = .ok (.if_icmp .ge 25, 3) := by decide +kernel
theorem dX8_leafAt_73 : decode cX8_leafAt 73 = .ok (.aload_n 0, 1) := by decide +kernel
theorem dX8_leafAt_74 : decode cX8_leafAt 74 = .ok (.iload_n 1, 1) := by decide +kernel
theorem dX8_leafAt_75 : decode cX8_leafAt 75 = .ok (.iload 5, 2) := by decide +kernel
theorem dX8_leafAt_77 : decode cX8_leafAt 77 = .ok (.iconst 1, 1) := by decide +kernel
theorem dX8_leafAt_78 : decode cX8_leafAt 78 = .ok (.invokevirtual 146, 3) := by decide +kernel
theorem dX8_leafAt_81 : decode cX8_leafAt 81 = .ok (.aload_n 0, 1) := by decide +kernel
theorem dX8_leafAt_82 : decode cX8_leafAt 82 = .ok (.iload_n 1, 1) := by decide +kernel
theorem dX8_leafAt_83 : decode cX8_leafAt 83 = .ok (.iload 5, 2) := by decide +kernel
theorem dX8_leafAt_85 : decode cX8_leafAt 85 = .ok (.iconst 0, 1) := by decide +kernel
theorem dX8_leafAt_86 : decode cX8_leafAt 86 = .ok (.invokevirtual 146, 3) := by decide +kernel
theorem dX8_leafAt_89 : decode cX8_leafAt 89 = .ok (.isub, 1) := by decide +kernel
theorem dX8_leafAt_90 : decode cX8_leafAt 90 = .ok (.iconst 1, 1) := by decide +kernel
theorem dX8_leafAt_91 : decode cX8_leafAt 91 = .ok (.iadd, 1) := by decide +kernel
theorem dX8_leafAt_92 : decode cX8_leafAt 92 = .ok (.goto 4, 3) := by decide +kernel
theorem dX8_leafAt_95 : decode cX8_leafAt 95 = .ok (.iconst 1, 1) := by decide +kernel
theorem dX8_leafAt_96 : decode cX8_leafAt 96 = .ok (.imul, 1) := by decide +kernel
theorem dX8_leafAt_97 : decode cX8_leafAt 97 = .ok (.istore 4, 2) := by decide +kernel
theorem dX8_leafAt_99 : decode cX8_leafAt 99 = .ok (.iinc 5 1, 3) := by decide +kernel
theorem dX8_leafAt_102 : decode cX8_leafAt 102 = .ok (.goto (-88), 3) := by decide +kernel
theorem dX8_leafAt_105 : decode cX8_leafAt 105 = .ok (.aload_n 0, 1) := by decide +kernel
theorem dX8_leafAt_106 : decode cX8_leafAt 106 = .ok (.getfield 49, 3) := by decide +kernel
theorem dX8_leafAt_109 : decode cX8_leafAt 109 = .ok (.iload_n 3, 1) := by decide +kernel
theorem dX8_leafAt_110 : decode cX8_leafAt 110 = .ok (.iload_n 2, 1) := by decide +kernel
theorem dX8_leafAt_111 : decode cX8_leafAt 111 = .ok (.ifCond .ge 7, 3) := by decide +kernel
theorem dX8_leafAt_114 : decode cX8_leafAt 114 = .ok (.iconst 1, 1) := by decide +kernel
theorem dX8_leafAt_115 : decode cX8_leafAt 115 = .ok (.goto 4, 3) := by decide +kernel
theorem dX8_leafAt_118 : decode cX8_leafAt 118 = .ok (.iconst 0, 1) := by decide +kernel
theorem dX8_leafAt_119 : decode cX8_leafAt 119 = .ok (.iastore, 1) := by decide +kernel
theorem dX8_leafAt_120 : decode cX8_leafAt 120 = .ok (.aload_n 0, 1) := by decide +kernel
theorem dX8_leafAt_121 : decode cX8_leafAt 121 = .ok (.getfield 49, 3) := by decide +kernel
theorem dX8_leafAt_124 : decode cX8_leafAt 124 = .ok (.iload_n 3, 1) := by decide +kernel
theorem dX8_leafAt_125 : decode cX8_leafAt 125 = .ok (.iconst 1, 1) := by decide +kernel
theorem dX8_leafAt_126 : decode cX8_leafAt 126 = .ok (.iadd, 1) := by decide +kernel
theorem dX8_leafAt_127 : decode cX8_leafAt 127 = .ok (.iload 4, 2) := by decide +kernel
theorem dX8_leafAt_129 : decode cX8_leafAt 129 = .ok (.iastore, 1) := by decide +kernel
theorem dX8_leafAt_130 : decode cX8_leafAt 130 = .ok (.aload_n 0, 1) := by decide +kernel
theorem dX8_leafAt_131 : decode cX8_leafAt 131 = .ok (.getfield 49, 3) := by decide +kernel
theorem dX8_leafAt_134 : decode cX8_leafAt 134 = .ok (.iload_n 3, 1) := by decide +kernel
theorem dX8_leafAt_135 : decode cX8_leafAt 135 = .ok (.iconst 2, 1) := by decide +kernel
theorem dX8_leafAt_136 : decode cX8_leafAt 136 = .ok (.iadd, 1) := by decide +kernel
theorem dX8_leafAt_137 : decode cX8_leafAt 137 = .ok (.iload_n 2, 1) := by decide +kernel
theorem dX8_leafAt_138 : decode cX8_leafAt 138 = .ok (.iastore, 1) := by decide +kernel
theorem dX8_leafAt_139 : decode cX8_leafAt 139 = .ok (.aload_n 0, 1) := by decide +kernel
theorem dX8_leafAt_140 : decode cX8_leafAt 140 = .ok (.dup, 1) := by decide +kernel
theorem dX8_leafAt_141 : decode cX8_leafAt 141 = .ok (.getfield 237, 3) := by decide +kernel
theorem dX8_leafAt_144 : decode cX8_leafAt 144 = .ok (.iconst 1, 1) := by decide +kernel
theorem dX8_leafAt_145 : decode cX8_leafAt 145 = .ok (.iadd, 1) := by decide +kernel
theorem dX8_leafAt_146 : decode cX8_leafAt 146 = .ok (.putfield 237, 3) := by decide +kernel
theorem dX8_leafAt_149 : decode cX8_leafAt 149 = .ok (.aload_n 0, 1) := by decide +kernel
theorem dX8_leafAt_150 : decode cX8_leafAt 150 = .ok (.dup, 1) := by decide +kernel
theorem dX8_leafAt_151 : decode cX8_leafAt 151 = .ok (.getfield 240, 3) := by decide +kernel
theorem dX8_leafAt_154 : decode cX8_leafAt 154 = .ok (.iload_n 2, 1) := by decide +kernel
theorem dX8_leafAt_155 : decode cX8_leafAt 155 = .ok (.ifCond .ge 7, 3) := by decide +kernel
theorem dX8_leafAt_158 : decode cX8_leafAt 158 = .ok (.iconst 0, 1) := by decide +kernel
theorem dX8_leafAt_159 : decode cX8_leafAt 159 = .ok (.goto 4, 3) := by decide +kernel
theorem dX8_leafAt_162 : decode cX8_leafAt 162 = .ok (.iconst 1, 1) := by decide +kernel
theorem dX8_leafAt_163 : decode cX8_leafAt 163 = .ok (.iadd, 1) := by decide +kernel
theorem dX8_leafAt_164 : decode cX8_leafAt 164 = .ok (.putfield 240, 3) := by decide +kernel
theorem dX8_leafAt_167 : decode cX8_leafAt 167 = .ok (.return_, 1) := by decide +kernel
theorem dX8_middle_0 : decode cX8_middle 0 = .ok (.iload_n 0, 1) := by decide +kernel
theorem dX8_middle_1 : decode cX8_middle 1 = .ok (.iload_n 1, 1) := by decide +kernel
theorem dX8_middle_2 : decode cX8_middle 2 = .ok (.iadd, 1) := by decide +kernel
theorem dX8_middle_3 : decode cX8_middle 3 = .ok (.bipush 36, 2) := by decide +kernel
theorem dX8_middle_5 : decode cX8_middle 5 = .ok (.iadd, 1) := by decide +kernel
theorem dX8_middle_6 : decode cX8_middle 6 = .ok (.iconst 2, 1) := by decide +kernel
theorem dX8_middle_7 : decode cX8_middle 7 = .ok (.idiv, 1) := by decide +kernel
theorem dX8_middle_8 : decode cX8_middle 8 = .ok (.bipush 18, 2) := by decide +kernel
theorem dX8_middle_10 : decode cX8_middle 10 = .ok (.isub, 1) := by decide +kernel
theorem dX8_middle_11 : decode cX8_middle 11 = .ok (.ireturn, 1) := by decide +kernel
theorem dX8_parts_0 : decode cX8_parts 0 = .ok (.aload_n 0, 1) := by decide +kernel
theorem dX8_parts_1 : decode cX8_parts 1 = .ok (.dup, 1) := by decide +kernel
theorem dX8_parts_2 : decode cX8_parts 2 = .ok (.getfield 243, 3) := by decide +kernel
theorem dX8_parts_5 : decode cX8_parts 5 = .ok (.iconst 1, 1) := by decide +kernel
theorem dX8_parts_6 : decode cX8_parts 6 = .ok (.iadd, 1) := by decide +kernel
theorem dX8_parts_7 : decode cX8_parts 7 = .ok (.putfield 243, 3) := by decide +kernel
theorem dX8_parts_10 : decode cX8_parts 10 = .ok (.aload_n 0, 1) := by decide +kernel
theorem dX8_parts_11 : decode cX8_parts 11 = .ok (.iload_n 1, 1) := by decide +kernel
theorem dX8_parts_12 : decode cX8_parts 12 = .ok (.aload_n 0, 1) := by decide +kernel
theorem dX8_parts_13 : decode cX8_parts 13 = .ok (.getfield 246, 3) := by decide +kernel
theorem dX8_parts_16 : decode cX8_parts 16 = .ok (.if_icmp .le 7, 3) := by decide +kernel
theorem dX8_parts_19 : decode cX8_parts 19 = .ok (.iload_n 1, 1) := by decide +kernel
theorem dX8_parts_20 : decode cX8_parts 20 = .ok (.goto 7, 3) := by decide +kernel
theorem dX8_parts_23 : decode cX8_parts 23 = .ok (.aload_n 0, 1) := by decide +kernel
theorem dX8_parts_24 : decode cX8_parts 24 = .ok (.getfield 246, 3) := by decide +kernel
theorem dX8_parts_27 : decode cX8_parts 27 = .ok (.putfield 246, 3) := by decide +kernel
theorem dX8_parts_30 : decode cX8_parts 30 = .ok (.aload_n 0, 1) := by decide +kernel
theorem dX8_parts_31 : decode cX8_parts 31 = .ok (.iload_n 1, 1) := by decide +kernel
theorem dX8_parts_32 : decode cX8_parts 32 = .ok (.invokevirtual 249, 3) := by decide +kernel
theorem dX8_parts_35 : decode cX8_parts 35 = .ok (.istore_n 2, 1) := by decide +kernel
theorem dX8_parts_36 : decode cX8_parts 36 = .ok (.iload_n 2, 1) := by decide +kernel
theorem dX8_parts_37 : decode cX8_parts 37 = .ok (.ifCond .ge 11, 3) := by decide +kernel
theorem dX8_parts_40 : decode cX8_parts 40 = .ok (.aload_n 0, 1) := by decide +kernel
theorem dX8_parts_41 : decode cX8_parts 41 = .ok (.iload_n 1, 1) := by decide +kernel
theorem dX8_parts_42 : decode cX8_parts 42 = .ok (.invokevirtual 252, 3) := by decide +kernel
theorem dX8_parts_45 : decode cX8_parts 45 = .ok (.ifCond .eq 10, 3) := by decide +kernel
theorem dX8_parts_48 : decode cX8_parts 48 = .ok (.aload_n 0, 1) := by decide +kernel
theorem dX8_parts_49 : decode cX8_parts 49 = .ok (.iload_n 1, 1) := by decide +kernel
theorem dX8_parts_50 : decode cX8_parts 50 = .ok (.iload_n 2, 1) := by decide +kernel
theorem dX8_parts_51 : decode cX8_parts 51 = .ok (.invokevirtual 255, 3) := by decide +kernel
theorem dX8_parts_54 : decode cX8_parts 54 = .ok (.return_, 1) := by decide +kernel
theorem dX8_parts_55 : decode cX8_parts 55 = .ok (.iconst 0, 1) := by decide +kernel
theorem dX8_parts_56 : decode cX8_parts 56 = .ok (.istore_n 3, 1) := by decide +kernel
theorem dX8_parts_57 : decode cX8_parts 57 = .ok (.iconst 1, 1) := by decide +kernel
theorem dX8_parts_58 : decode cX8_parts 58 = .ok (.istore 4, 2) := by decide +kernel
theorem dX8_parts_60 : decode cX8_parts 60 = .ok (.iload 4, 2) := by decide +kernel
theorem dX8_parts_62 : decode cX8_parts 62 = .ok (.aload_n 0, 1) := by decide +kernel
theorem dX8_parts_63 : decode cX8_parts 63 = .ok (.getfield 13, 3) := by decide +kernel
theorem dX8_parts_66 : decode cX8_parts 66 = .ok (.if_icmp .ge 51, 3) := by decide +kernel
theorem dX8_parts_69 : decode cX8_parts 69 = .ok (.aload_n 0, 1) := by decide +kernel
theorem dX8_parts_70 : decode cX8_parts 70 = .ok (.iload_n 1, 1) := by decide +kernel
theorem dX8_parts_71 : decode cX8_parts 71 = .ok (.iload 4, 2) := by decide +kernel
theorem dX8_parts_73 : decode cX8_parts 73 = .ok (.iconst 1, 1) := by decide +kernel
theorem dX8_parts_74 : decode cX8_parts 74 = .ok (.invokevirtual 146, 3) := by decide +kernel
theorem dX8_parts_77 : decode cX8_parts 77 = .ok (.aload_n 0, 1) := by decide +kernel
theorem dX8_parts_78 : decode cX8_parts 78 = .ok (.iload_n 1, 1) := by decide +kernel
theorem dX8_parts_79 : decode cX8_parts 79 = .ok (.iload 4, 2) := by decide +kernel
theorem dX8_parts_81 : decode cX8_parts 81 = .ok (.iconst 0, 1) := by decide +kernel
theorem dX8_parts_82 : decode cX8_parts 82 = .ok (.invokevirtual 146, 3) := by decide +kernel
theorem dX8_parts_85 : decode cX8_parts 85 = .ok (.isub, 1) := by decide +kernel
theorem dX8_parts_86 : decode cX8_parts 86 = .ok (.aload_n 0, 1) := by decide +kernel
theorem dX8_parts_87 : decode cX8_parts 87 = .ok (.iload_n 1, 1) := by decide +kernel
theorem dX8_parts_88 : decode cX8_parts 88 = .ok (.iload_n 3, 1) := by decide +kernel
theorem dX8_parts_89 : decode cX8_parts 89 = .ok (.iconst 1, 1) := by decide +kernel
theorem dX8_parts_90 : decode cX8_parts 90 = .ok (.invokevirtual 146, 3) := by decide +kernel
theorem dX8_parts_93 : decode cX8_parts 93 = .ok (.aload_n 0, 1) := by decide +kernel
theorem dX8_parts_94 : decode cX8_parts 94 = .ok (.iload_n 1, 1) := by decide +kernel
theorem dX8_parts_95 : decode cX8_parts 95 = .ok (.iload_n 3, 1) := by decide +kernel
theorem dX8_parts_96 : decode cX8_parts 96 = .ok (.iconst 0, 1) := by decide +kernel
theorem dX8_parts_97 : decode cX8_parts 97 = .ok (.invokevirtual 146, 3) := by decide +kernel
theorem dX8_parts_100 : decode cX8_parts 100 = .ok (.isub, 1) := by decide +kernel
theorem dX8_parts_101 : decode cX8_parts 101 = .ok (.if_icmp .le 8, 3) := by decide +kernel
theorem dX8_parts_104 : decode cX8_parts 104 = .ok (.iload 4, 2) := by decide +kernel
theorem dX8_parts_106 : decode cX8_parts 106 = .ok (.goto 4, 3) := by decide +kernel
theorem dX8_parts_109 : decode cX8_parts 109 = .ok (.iload_n 3, 1) := by decide +kernel
theorem dX8_parts_110 : decode cX8_parts 110 = .ok (.istore_n 3, 1) := by decide +kernel
theorem dX8_parts_111 : decode cX8_parts 111 = .ok (.iinc 4 1, 3) := by decide +kernel
theorem dX8_parts_114 : decode cX8_parts 114 = .ok (.goto (-54), 3) := by decide +kernel
theorem dX8_parts_117 : decode cX8_parts 117 = .ok (.aload_n 0, 1) := by decide +kernel
theorem dX8_parts_118 : decode cX8_parts 118 = .ok (.iload_n 1, 1) := by decide +kernel
theorem dX8_parts_119 : decode cX8_parts 119 = .ok (.iload_n 3, 1) := by decide +kernel
theorem dX8_parts_120 : decode cX8_parts 120 = .ok (.iconst 0, 1) := by decide +kernel
theorem dX8_parts_121 : decode cX8_parts 121 = .ok (.invokevirtual 146, 3) := by decide +kernel
theorem dX8_parts_124 : decode cX8_parts 124 = .ok (.aload_n 0, 1) := by decide +kernel
theorem dX8_parts_125 : decode cX8_parts 125 = .ok (.iload_n 1, 1) := by decide +kernel
theorem dX8_parts_126 : decode cX8_parts 126 = .ok (.iload_n 3, 1) := by decide +kernel
theorem dX8_parts_127 : decode cX8_parts 127 = .ok (.iconst 1, 1) := by decide +kernel
theorem dX8_parts_128 : decode cX8_parts 128 = .ok (.invokevirtual 146, 3) := by decide +kernel
theorem dX8_parts_131 : decode cX8_parts 131 = .ok (.invokestatic 259, 3) := by decide +kernel
theorem dX8_parts_134 : decode cX8_parts 134 = .ok (.istore 4, 2) := by decide +kernel
theorem dX8_parts_136 : decode cX8_parts 136 = .ok (.iconst 0, 1) := by decide +kernel
theorem dX8_parts_137 : decode cX8_parts 137 = .ok (.istore 5, 2) := by decide +kernel
theorem dX8_parts_139 : decode cX8_parts 139 = .ok (.iload 5, 2) := by decide +kernel
theorem dX8_parts_141 : decode cX8_parts 141 = .ok (.iconst 2, 1) := by decide +kernel
theorem dX8_parts_142 : decode cX8_parts 142 = .ok (.if_icmp .ge 94, 3) := by decide +kernel
theorem dX8_parts_145 : decode cX8_parts 145 = .ok (.iconst 0, 1) := by decide +kernel
theorem dX8_parts_146 : decode cX8_parts 146 = .ok (.istore 6, 2) := by decide +kernel
theorem dX8_parts_148 : decode cX8_parts 148 = .ok (.iload 6, 2) := by decide +kernel
theorem dX8_parts_150 : decode cX8_parts 150 = .ok (.bipush 8, 2) := by decide +kernel
theorem dX8_parts_152 : decode cX8_parts 152 = .ok (.if_icmp .ge 36, 3) := by decide +kernel
theorem dX8_parts_155 : decode cX8_parts 155 = .ok (.aload_n 0, 1) := by decide +kernel
theorem dX8_parts_156 : decode cX8_parts 156 = .ok (.getfield 29, 3) := by decide +kernel
theorem dX8_parts_159 : decode cX8_parts 159 = .ok (.bipush 8, 2) := by decide +kernel
theorem dX8_parts_161 : decode cX8_parts 161 = .ok (.iload_n 1, 1) := by decide +kernel
theorem dX8_parts_162 : decode cX8_parts 162 = .ok (.imul, 1) := by decide +kernel
theorem dX8_parts_163 : decode cX8_parts 163 = .ok (.bipush 8, 2) := by decide +kernel
theorem dX8_parts_165 : decode cX8_parts 165 = .ok (.iadd, 1) := by decide +kernel
theorem dX8_parts_166 : decode cX8_parts 166 = .ok (.iload 6, 2) := by decide +kernel
theorem dX8_parts_168 : decode cX8_parts 168 = .ok (.iadd, 1) := by decide +kernel
theorem dX8_parts_169 : decode cX8_parts 169 = .ok (.aload_n 0, 1) := by decide +kernel
theorem dX8_parts_170 : decode cX8_parts 170 = .ok (.getfield 29, 3) := by decide +kernel
theorem dX8_parts_173 : decode cX8_parts 173 = .ok (.bipush 8, 2) := by decide +kernel
theorem dX8_parts_175 : decode cX8_parts 175 = .ok (.iload_n 1, 1) := by decide +kernel
theorem dX8_parts_176 : decode cX8_parts 176 = .ok (.imul, 1) := by decide +kernel
theorem dX8_parts_177 : decode cX8_parts 177 = .ok (.iload 6, 2) := by decide +kernel
theorem dX8_parts_179 : decode cX8_parts 179 = .ok (.iadd, 1) := by decide +kernel
theorem dX8_parts_180 : decode cX8_parts 180 = .ok (.iaload, 1) := by decide +kernel
theorem dX8_parts_181 : decode cX8_parts 181 = .ok (.iastore, 1) := by decide +kernel
theorem dX8_parts_182 : decode cX8_parts 182 = .ok (.iinc 6 1, 3) := by decide +kernel
theorem dX8_parts_185 : decode cX8_parts 185 = .ok (.goto (-37), 3) := by decide +kernel
theorem dX8_parts_188 : decode cX8_parts 188 = .ok (.aload_n 0, 1) := by decide +kernel
theorem dX8_parts_189 : decode cX8_parts 189 = .ok (.getfield 29, 3) := by decide +kernel
theorem dX8_parts_192 : decode cX8_parts 192 = .ok (.bipush 8, 2) := by decide +kernel
theorem dX8_parts_194 : decode cX8_parts 194 = .ok (.iload_n 1, 1) := by decide +kernel
theorem dX8_parts_195 : decode cX8_parts 195 = .ok (.imul, 1) := by decide +kernel
theorem dX8_parts_196 : decode cX8_parts 196 = .ok (.bipush 8, 2) := by decide +kernel
theorem dX8_parts_198 : decode cX8_parts 198 = .ok (.iadd, 1) := by decide +kernel
theorem dX8_parts_199 : decode cX8_parts 199 = .ok (.iconst 2, 1) := by decide +kernel
theorem dX8_parts_200 : decode cX8_parts 200 = .ok (.iload_n 3, 1) := by decide +kernel
theorem dX8_parts_201 : decode cX8_parts 201 = .ok (.imul, 1) := by decide +kernel
theorem dX8_parts_202 : decode cX8_parts 202 = .ok (.iadd, 1) := by decide +kernel
theorem dX8_parts_203 : decode cX8_parts 203 = .ok (.iconst 1, 1) := by decide +kernel
theorem dX8_parts_204 : decode cX8_parts 204 = .ok (.iadd, 1) := by decide +kernel
theorem dX8_parts_205 : decode cX8_parts 205 = .ok (.iload 5, 2) := by decide +kernel
theorem dX8_parts_207 : decode cX8_parts 207 = .ok (.isub, 1) := by decide +kernel
theorem dX8_parts_208 : decode cX8_parts 208 = .ok (.iload 5, 2) := by decide +kernel
theorem dX8_parts_210 : decode cX8_parts 210 = .ok (.ifCond .ne 8, 3) := by decide +kernel
theorem dX8_parts_213 : decode cX8_parts 213 = .ok (.iload 4, 2) := by decide +kernel
theorem dX8_parts_215 : decode cX8_parts 215 = .ok (.goto 7, 3) := by decide +kernel
theorem dX8_parts_218 : decode cX8_parts 218 = .ok (.iload 4, 2) := by decide +kernel
theorem dX8_parts_220 : decode cX8_parts 220 = .ok (.iconst 1, 1) := by decide +kernel
theorem dX8_parts_221 : decode cX8_parts 221 = .ok (.iadd, 1) := by decide +kernel
theorem dX8_parts_222 : decode cX8_parts 222 = .ok (.iastore, 1) := by decide +kernel
theorem dX8_parts_223 : decode cX8_parts 223 = .ok (.aload_n 0, 1) := by decide +kernel
theorem dX8_parts_224 : decode cX8_parts 224 = .ok (.iload_n 1, 1) := by decide +kernel
theorem dX8_parts_225 : decode cX8_parts 225 = .ok (.iconst 1, 1) := by decide +kernel
theorem dX8_parts_226 : decode cX8_parts 226 = .ok (.iadd, 1) := by decide +kernel
theorem dX8_parts_227 : decode cX8_parts 227 = .ok (.invokevirtual 262, 3) := by decide +kernel
theorem dX8_parts_230 : decode cX8_parts 230 = .ok (.iinc 5 1, 3) := by decide +kernel
theorem dX8_parts_233 : decode cX8_parts 233 = .ok (.goto (-94), 3) := by decide +kernel
theorem dX8_parts_236 : decode cX8_parts 236 = .ok (.return_, 1) := by decide +kernel
theorem dX8_grows_0 : decode cX8_grows 0 = .ok (.aload_n 0, 1) := by decide +kernel
theorem dX8_grows_1 : decode cX8_grows 1 = .ok (.iconst 0, 1) := by decide +kernel
theorem dX8_grows_2 : decode cX8_grows 2 = .ok (.putfield 237, 3) := by decide +kernel
theorem dX8_grows_5 : decode cX8_grows 5 = .ok (.aload_n 0, 1) := by decide +kernel
theorem dX8_grows_6 : decode cX8_grows 6 = .ok (.iconst 0, 1) := by decide +kernel
theorem dX8_grows_7 : decode cX8_grows 7 = .ok (.putfield 243, 3) := by decide +kernel
theorem dX8_grows_10 : decode cX8_grows 10 = .ok (.aload_n 0, 1) := by decide +kernel
theorem dX8_grows_11 : decode cX8_grows 11 = .ok (.iconst 0, 1) := by decide +kernel
theorem dX8_grows_12 : decode cX8_grows 12 = .ok (.putfield 246, 3) := by decide +kernel
theorem dX8_grows_15 : decode cX8_grows 15 = .ok (.aload_n 0, 1) := by decide +kernel
theorem dX8_grows_16 : decode cX8_grows 16 = .ok (.iconst 0, 1) := by decide +kernel
theorem dX8_grows_17 : decode cX8_grows 17 = .ok (.putfield 240, 3) := by decide +kernel
theorem dX8_grows_20 : decode cX8_grows 20 = .ok (.aload_n 0, 1) := by decide +kernel
theorem dX8_grows_21 : decode cX8_grows 21 = .ok (.invokevirtual 155, 3) := by decide +kernel
theorem dX8_grows_24 : decode cX8_grows 24 = .ok (.aload_n 0, 1) := by decide +kernel
theorem dX8_grows_25 : decode cX8_grows 25 = .ok (.iconst 0, 1) := by decide +kernel
theorem dX8_grows_26 : decode cX8_grows 26 = .ok (.invokevirtual 262, 3) := by decide +kernel
theorem dX8_grows_29 : decode cX8_grows 29 = .ok (.return_, 1) := by decide +kernel
theorem dX8_tree_0 : decode cX8_tree 0 = .ok (.iload_n 1, 1) := by decide +kernel
theorem dX8_tree_1 : decode cX8_tree 1 = .ok (.i2l, 1) := by decide +kernel
theorem dX8_tree_2 : decode cX8_tree 2 = .ok (.lconst 0, 1) := by decide +kernel
theorem dX8_tree_3 : decode cX8_tree 3 = .ok (.ldc2_w 265, 3) := by decide +kernel
theorem dX8_tree_6 : decode cX8_tree 6 = .ok (.invokestatic 93, 3) := by decide +kernel
theorem dX8_tree_9 : decode cX8_tree 9 = .ok (.ifCond .ne 10, 3) := by decide +kernel
theorem dX8_tree_12 : decode cX8_tree 12 = .ok (.aload_n 0, 1) := by decide +kernel
theorem dX8_tree_13 : decode cX8_tree 13 = .ok (.ldc 92, 2) := by decide +kernel
theorem dX8_tree_15 : decode cX8_tree 15 = .ok (.invokevirtual 102, 3) := by decide +kernel
theorem dX8_tree_18 : decode cX8_tree 18 = .ok (.ireturn, 1) := by decide +kernel
theorem dX8_tree_19 : decode cX8_tree 19 = .ok (.aload_n 0, 1) := by decide +kernel
theorem dX8_tree_20 : decode cX8_tree 20 = .ok (.invokevirtual 267, 3) := by decide +kernel
theorem dX8_tree_23 : decode cX8_tree 23 = .ok (.iload_n 1, 1) := by decide +kernel
theorem dX8_tree_24 : decode cX8_tree 24 = .ok (.ifCond .ne 10, 3) := by decide +kernel
theorem dX8_tree_27 : decode cX8_tree 27 = .ok (.aload_n 0, 1) := by decide +kernel
theorem dX8_tree_28 : decode cX8_tree 28 = .ok (.getfield 243, 3) := by decide +kernel
theorem dX8_tree_31 : decode cX8_tree 31 = .ok (.goto 36, 3) := by decide +kernel
theorem dX8_tree_34 : decode cX8_tree 34 = .ok (.iload_n 1, 1) := by decide +kernel
theorem dX8_tree_35 : decode cX8_tree 35 = .ok (.iconst 1, 1) := by decide +kernel
theorem dX8_tree_36 : decode cX8_tree 36 = .ok (.if_icmp .ne 10, 3) := by decide +kernel
theorem dX8_tree_39 : decode cX8_tree 39 = .ok (.aload_n 0, 1) := by decide +kernel
theorem dX8_tree_40 : decode cX8_tree 40 = .ok (.getfield 246, 3) := by decide +kernel
theorem dX8_tree_43 : decode cX8_tree 43 = .ok (.goto 24, 3) := by decide +kernel
theorem dX8_tree_46 : decode cX8_tree 46 = .ok (.iload_n 1, 1) := by decide +kernel
theorem dX8_tree_47 : decode cX8_tree 47 = .ok (.iconst 2, 1) := by decide +kernel
theorem dX8_tree_48 : decode cX8_tree 48 = .ok (.if_icmp .ne 10, 3) := by decide +kernel
theorem dX8_tree_51 : decode cX8_tree 51 = .ok (.aload_n 0, 1) := by decide +kernel
theorem dX8_tree_52 : decode cX8_tree 52 = .ok (.getfield 240, 3) := by decide +kernel
theorem dX8_tree_55 : decode cX8_tree 55 = .ok (.goto 12, 3) := by decide +kernel
theorem dX8_tree_58 : decode cX8_tree 58 = .ok (.aload_n 0, 1) := by decide +kernel
theorem dX8_tree_59 : decode cX8_tree 59 = .ok (.getfield 237, 3) := by decide +kernel
theorem dX8_tree_62 : decode cX8_tree 62 = .ok (.aload_n 0, 1) := by decide +kernel
theorem dX8_tree_63 : decode cX8_tree 63 = .ok (.getfield 240, 3) := by decide +kernel
theorem dX8_tree_66 : decode cX8_tree 66 = .ok (.isub, 1) := by decide +kernel
theorem dX8_tree_67 : decode cX8_tree 67 = .ok (.ireturn, 1) := by decide +kernel
theorem dX8_leaf_0 : decode cX8_leaf 0 = .ok (.iload_n 2, 1) := by decide +kernel
theorem dX8_leaf_1 : decode cX8_leaf 1 = .ok (.i2l, 1) := by decide +kernel
theorem dX8_leaf_2 : decode cX8_leaf 2 = .ok (.lconst 0, 1) := by decide +kernel
theorem dX8_leaf_3 : decode cX8_leaf 3 = .ok (.ldc2_w 220, 3) := by decide +kernel
theorem dX8_leaf_6 : decode cX8_leaf 6 = .ok (.invokestatic 93, 3) := by decide +kernel
theorem dX8_leaf_9 : decode cX8_leaf 9 = .ok (.ifCond .ne 10, 3) := by decide +kernel
theorem dX8_leaf_12 : decode cX8_leaf 12 = .ok (.aload_n 0, 1) := by decide +kernel
theorem dX8_leaf_13 : decode cX8_leaf 13 = .ok (.ldc 92, 2) := by decide +kernel
theorem dX8_leaf_15 : decode cX8_leaf 15 = .ok (.invokevirtual 102, 3) := by decide +kernel
theorem dX8_leaf_18 : decode cX8_leaf 18 = .ok (.ireturn, 1) := by decide +kernel
theorem dX8_leaf_19 : decode cX8_leaf 19 = .ok (.aload_n 0, 1) := by decide +kernel
theorem dX8_leaf_20 : decode cX8_leaf 20 = .ok (.invokevirtual 267, 3) := by decide +kernel
theorem dX8_leaf_23 : decode cX8_leaf 23 = .ok (.iload_n 1, 1) := by decide +kernel
theorem dX8_leaf_24 : decode cX8_leaf 24 = .ok (.i2l, 1) := by decide +kernel
theorem dX8_leaf_25 : decode cX8_leaf 25 = .ok (.lconst 0, 1) := by decide +kernel
theorem dX8_leaf_26 : decode cX8_leaf 26 = .ok (.aload_n 0, 1) := by decide +kernel
theorem dX8_leaf_27 : decode cX8_leaf 27 = .ok (.getfield 237, 3) := by decide +kernel
theorem dX8_leaf_30 : decode cX8_leaf 30 = .ok (.iconst 1, 1) := by decide +kernel
theorem dX8_leaf_31 : decode cX8_leaf 31 = .ok (.isub, 1) := by decide +kernel
theorem dX8_leaf_32 : decode cX8_leaf 32 = .ok (.i2l, 1) := by decide +kernel
theorem dX8_leaf_33 : decode cX8_leaf 33 = .ok (.invokestatic 93, 3) := by decide +kernel
theorem dX8_leaf_36 : decode cX8_leaf 36 = .ok (.ifCond .eq 17, 3) := by decide +kernel
theorem dX8_leaf_39 : decode cX8_leaf 39 = .ok (.aload_n 0, 1) := by decide +kernel
theorem dX8_leaf_40 : decode cX8_leaf 40 = .ok (.getfield 49, 3) := by decide +kernel
theorem dX8_leaf_43 : decode cX8_leaf 43 = .ok (.bipush 11, 2) := by decide +kernel
theorem dX8_leaf_45 : decode cX8_leaf 45 = .ok (.iload_n 1, 1) := by decide +kernel
theorem dX8_leaf_46 : decode cX8_leaf 46 = .ok (.imul, 1) := by decide +kernel
theorem dX8_leaf_47 : decode cX8_leaf 47 = .ok (.iload_n 2, 1) := by decide +kernel
theorem dX8_leaf_48 : decode cX8_leaf 48 = .ok (.iadd, 1) := by decide +kernel
theorem dX8_leaf_49 : decode cX8_leaf 49 = .ok (.iaload, 1) := by decide +kernel
theorem dX8_leaf_50 : decode cX8_leaf 50 = .ok (.goto 9, 3) := by decide +kernel
theorem dX8_leaf_53 : decode cX8_leaf 53 = .ok (.aload_n 0, 1) := by decide +kernel
theorem dX8_leaf_54 : decode cX8_leaf 54 = .ok (.ldc 167, 2) := by decide +kernel
theorem dX8_leaf_56 : decode cX8_leaf 56 = .ok (.invokevirtual 102, 3) := by decide +kernel
theorem dX8_leaf_59 : decode cX8_leaf 59 = .ok (.ireturn, 1) := by decide +kernel
theorem dX8_side_0 : decode cX8_side 0 = .ok (.aload_n 0, 1) := by decide +kernel
theorem dX8_side_1 : decode cX8_side 1 = .ok (.iload_n 2, 1) := by decide +kernel
theorem dX8_side_2 : decode cX8_side 2 = .ok (.invokevirtual 115, 3) := by decide +kernel
theorem dX8_side_5 : decode cX8_side 5 = .ok (.ifCond .eq 13, 3) := by decide +kernel
theorem dX8_side_8 : decode cX8_side 8 = .ok (.iload_n 3, 1) := by decide +kernel
theorem dX8_side_9 : decode cX8_side 9 = .ok (.i2l, 1) := by decide +kernel
theorem dX8_side_10 : decode cX8_side 10 = .ok (.lconst 0, 1) := by decide +kernel
theorem dX8_side_11 : decode cX8_side 11 = .ok (.lconst 1, 1) := by decide +kernel
theorem dX8_side_12 : decode cX8_side 12 = .ok (.invokestatic 93, 3) := by decide +kernel
theorem dX8_side_15 : decode cX8_side 15 = .ok (.ifCond .ne 10, 3) := by decide +kernel
theorem dX8_side_18 : decode cX8_side 18 = .ok (.aload_n 0, 1) := by decide +kernel
theorem dX8_side_19 : decode cX8_side 19 = .ok (.ldc 92, 2) := by decide +kernel
theorem dX8_side_21 : decode cX8_side 21 = .ok (.invokevirtual 102, 3) := by decide +kernel
theorem dX8_side_24 : decode cX8_side 24 = .ok (.ireturn, 1) := by decide +kernel
theorem dX8_side_25 : decode cX8_side 25 = .ok (.aload_n 0, 1) := by decide +kernel
theorem dX8_side_26 : decode cX8_side 26 = .ok (.invokevirtual 267, 3) := by decide +kernel
theorem dX8_side_29 : decode cX8_side 29 = .ok (.iload_n 1, 1) := by decide +kernel
theorem dX8_side_30 : decode cX8_side 30 = .ok (.i2l, 1) := by decide +kernel
theorem dX8_side_31 : decode cX8_side 31 = .ok (.lconst 0, 1) := by decide +kernel
theorem dX8_side_32 : decode cX8_side 32 = .ok (.aload_n 0, 1) := by decide +kernel
theorem dX8_side_33 : decode cX8_side 33 = .ok (.getfield 237, 3) := by decide +kernel
theorem dX8_side_36 : decode cX8_side 36 = .ok (.iconst 1, 1) := by decide +kernel
theorem dX8_side_37 : decode cX8_side 37 = .ok (.isub, 1) := by decide +kernel
theorem dX8_side_38 : decode cX8_side 38 = .ok (.i2l, 1) := by decide +kernel
theorem dX8_side_39 : decode cX8_side 39 = .ok (.invokestatic 93, 3) := by decide +kernel
theorem dX8_side_42 : decode cX8_side 42 = .ok (.ifCond .eq 23, 3) := by decide +kernel
theorem dX8_side_45 : decode cX8_side 45 = .ok (.aload_n 0, 1) := by decide +kernel
theorem dX8_side_46 : decode cX8_side 46 = .ok (.getfield 49, 3) := by decide +kernel
theorem dX8_side_49 : decode cX8_side 49 = .ok (.bipush 11, 2) := by decide +kernel
theorem dX8_side_51 : decode cX8_side 51 = .ok (.iload_n 1, 1) := by decide +kernel
theorem dX8_side_52 : decode cX8_side 52 = .ok (.imul, 1) := by decide +kernel
theorem dX8_side_53 : decode cX8_side 53 = .ok (.iconst 3, 1) := by decide +kernel
theorem dX8_side_54 : decode cX8_side 54 = .ok (.iadd, 1) := by decide +kernel
theorem dX8_side_55 : decode cX8_side 55 = .ok (.iconst 2, 1) := by decide +kernel
theorem dX8_side_56 : decode cX8_side 56 = .ok (.iload_n 2, 1) := by decide +kernel
theorem dX8_side_57 : decode cX8_side 57 = .ok (.imul, 1) := by decide +kernel
theorem dX8_side_58 : decode cX8_side 58 = .ok (.iadd, 1) := by decide +kernel
theorem dX8_side_59 : decode cX8_side 59 = .ok (.iload_n 3, 1) := by decide +kernel
theorem dX8_side_60 : decode cX8_side 60 = .ok (.iadd, 1) := by decide +kernel
theorem dX8_side_61 : decode cX8_side 61 = .ok (.iaload, 1) := by decide +kernel
theorem dX8_side_62 : decode cX8_side 62 = .ok (.goto 9, 3) := by decide +kernel
theorem dX8_side_65 : decode cX8_side 65 = .ok (.aload_n 0, 1) := by decide +kernel
theorem dX8_side_66 : decode cX8_side 66 = .ok (.ldc 167, 2) := by decide +kernel
theorem dX8_side_68 : decode cX8_side 68 = .ok (.invokevirtual 102, 3) := by decide +kernel
theorem dX8_side_71 : decode cX8_side 71 = .ok (.ireturn, 1) := by decide +kernel
theorem dX8_where_0 : decode cX8_where 0 = .ok (.aload_n 0, 1) := by decide +kernel
theorem dX8_where_1 : decode cX8_where 1 = .ok (.iload_n 1, 1) := by decide +kernel
theorem dX8_where_2 : decode cX8_where 2 = .ok (.invokevirtual 200, 3) := by decide +kernel
theorem dX8_where_5 : decode cX8_where 5 = .ok (.istore_n 2, 1) := by decide +kernel
theorem dX8_where_6 : decode cX8_where 6 = .ok (.iload_n 2, 1) := by decide +kernel
theorem dX8_where_7 : decode cX8_where 7 = .ok (.ifCond .eq 9, 3) := by decide +kernel
theorem dX8_where_10 : decode cX8_where 10 = .ok (.aload_n 0, 1) := by decide +kernel
theorem dX8_where_11 : decode cX8_where 11 = .ok (.iload_n 2, 1) := by decide +kernel
theorem dX8_where_12 : decode cX8_where 12 = .ok (.invokevirtual 102, 3) := by decide +kernel
theorem dX8_where_15 : decode cX8_where 15 = .ok (.ireturn, 1) := by decide +kernel
theorem dX8_where_16 : decode cX8_where 16 = .ok (.aload_n 0, 1) := by decide +kernel
theorem dX8_where_17 : decode cX8_where 17 = .ok (.invokevirtual 267, 3) := by decide +kernel
theorem dX8_where_20 : decode cX8_where 20 = .ok (.iconst 0, 1) := by decide +kernel
theorem dX8_where_21 : decode cX8_where 21 = .ok (.istore_n 3, 1) := by decide +kernel
theorem dX8_where_22 : decode cX8_where 22 = .ok (.iload_n 3, 1) := by decide +kernel
theorem dX8_where_23 : decode cX8_where 23 = .ok (.aload_n 0, 1) := by decide +kernel
theorem dX8_where_24 : decode cX8_where 24 = .ok (.getfield 237, 3) := by decide +kernel
theorem dX8_where_27 : decode cX8_where 27 = .ok (.if_icmp .ge 96, 3) := by decide +kernel
theorem dX8_where_30 : decode cX8_where 30 = .ok (.iconst 1, 1) := by decide +kernel
theorem dX8_where_31 : decode cX8_where 31 = .ok (.istore 4, 2) := by decide +kernel
theorem dX8_where_33 : decode cX8_where 33 = .ok (.iconst 0, 1) := by decide +kernel
theorem dX8_where_34 : decode cX8_where 34 = .ok (.istore 5, 2) := by decide +kernel
theorem dX8_where_36 : decode cX8_where 36 = .ok (.iload 5, 2) := by decide +kernel
theorem dX8_where_38 : decode cX8_where 38 = .ok (.aload_n 0, 1) := by decide +kernel
theorem dX8_where_39 : decode cX8_where 39 = .ok (.getfield 13, 3) := by decide +kernel
theorem dX8_where_42 : decode cX8_where 42 = .ok (.if_icmp .ge 68, 3) := by decide +kernel
theorem dX8_where_45 : decode cX8_where 45 = .ok (.iload 4, 2) := by decide +kernel
theorem dX8_where_47 : decode cX8_where 47 = .ok (.ifCond .eq 54, 3) := by decide +kernel
theorem dX8_where_50 : decode cX8_where 50 = .ok (.aload_n 0, 1) := by decide +kernel
theorem dX8_where_51 : decode cX8_where 51 = .ok (.getfield 32, 3) := by decide +kernel
theorem dX8_where_54 : decode cX8_where 54 = .ok (.iload 5, 2) := by decide +kernel
theorem dX8_where_56 : decode cX8_where 56 = .ok (.laload, 1) := by decide +kernel
theorem dX8_where_57 : decode cX8_where 57 = .ok (.aload_n 0, 1) := by decide +kernel
theorem dX8_where_58 : decode cX8_where 58 = .ok (.getfield 49, 3) := by decide +kernel
theorem dX8_where_61 : decode cX8_where 61 = .ok (.bipush 11, 2) := by decide +kernel
theorem dX8_where_63 : decode cX8_where 63 = .ok (.iload_n 3, 1) := by decide +kernel
theorem dX8_where_64 : decode cX8_where 64 = .ok (.imul, 1) := by decide +kernel
theorem dX8_where_65 : decode cX8_where 65 = .ok (.iconst 3, 1) := by decide +kernel
theorem dX8_where_66 : decode cX8_where 66 = .ok (.iadd, 1) := by decide +kernel
theorem dX8_where_67 : decode cX8_where 67 = .ok (.iconst 2, 1) := by decide +kernel
theorem dX8_where_68 : decode cX8_where 68 = .ok (.iload 5, 2) := by decide +kernel
theorem dX8_where_70 : decode cX8_where 70 = .ok (.imul, 1) := by decide +kernel
theorem dX8_where_71 : decode cX8_where 71 = .ok (.iadd, 1) := by decide +kernel
theorem dX8_where_72 : decode cX8_where 72 = .ok (.iaload, 1) := by decide +kernel
theorem dX8_where_73 : decode cX8_where 73 = .ok (.i2l, 1) := by decide +kernel
theorem dX8_where_74 : decode cX8_where 74 = .ok (.aload_n 0, 1) := by decide +kernel
theorem dX8_where_75 : decode cX8_where 75 = .ok (.getfield 49, 3) := by decide +kernel
theorem dX8_where_78 : decode cX8_where 78 = .ok (.bipush 11, 2) := by decide +kernel
theorem dX8_where_80 : decode cX8_where 80 = .ok (.iload_n 3, 1) := by decide +kernel
theorem dX8_where_81 : decode cX8_where 81 = .ok (.imul, 1) := by decide +kernel
theorem dX8_where_82 : decode cX8_where 82 = .ok (.iconst 4, 1) := by decide +kernel
theorem dX8_where_83 : decode cX8_where 83 = .ok (.iadd, 1) := by decide +kernel
theorem dX8_where_84 : decode cX8_where 84 = .ok (.iconst 2, 1) := by decide +kernel
theorem dX8_where_85 : decode cX8_where 85 = .ok (.iload 5, 2) := by decide +kernel
theorem dX8_where_87 : decode cX8_where 87 = .ok (.imul, 1) := by decide +kernel
theorem dX8_where_88 : decode cX8_where 88 = .ok (.iadd, 1) := by decide +kernel
theorem dX8_where_89 : decode cX8_where 89 = .ok (.iaload, 1) := by decide +kernel
theorem dX8_where_90 : decode cX8_where 90 = .ok (.i2l, 1) := by decide +kernel
theorem dX8_where_91 : decode cX8_where 91 = .ok (.invokestatic 93, 3) := by decide +kernel
theorem dX8_where_94 : decode cX8_where 94 = .ok (.ifCond .eq 7, 3) := by decide +kernel
theorem dX8_where_97 : decode cX8_where 97 = .ok (.iconst 1, 1) := by decide +kernel
theorem dX8_where_98 : decode cX8_where 98 = .ok (.goto 4, 3) := by decide +kernel
theorem dX8_where_101 : decode cX8_where 101 = .ok (.iconst 0, 1) := by decide +kernel
theorem dX8_where_102 : decode cX8_where 102 = .ok (.istore 4, 2) := by decide +kernel
theorem dX8_where_104 : decode cX8_where 104 = .ok (.iinc 5 1, 3) := by decide +kernel
theorem dX8_where_107 : decode cX8_where 107 = .ok (.goto (-71), 3) := by decide +kernel
theorem dX8_where_110 : decode cX8_where 110 = .ok (.iload 4, 2) := by decide +kernel
theorem dX8_where_112 : decode cX8_where 112 = .ok (.ifCond .eq 5, 3) := by decide +kernel
theorem dX8_where_115 : decode cX8_where 115 = .ok (.iload_n 3, 1) := by decide +kernel
theorem dX8_where_116 : decode cX8_where 116 = .ok (.ireturn, 1) := by decide +kernel
theorem dX8_where_117 : decode cX8_where 117 = .ok (.iinc 3 1, 3) := by decide +kernel
theorem dX8_where_120 : decode cX8_where 120 = .ok (.goto (-98), 3) := by decide +kernel
theorem dX8_where_123 : decode cX8_where 123 = .ok (.aload_n 0, 1) := by decide +kernel
theorem dX8_where_124 : decode cX8_where 124 = .ok (.ldc 167, 2) := by decide +kernel
theorem dX8_where_126 : decode cX8_where 126 = .ok (.invokevirtual 102, 3) := by decide +kernel
theorem dX8_where_129 : decode cX8_where 129 = .ok (.ireturn, 1) := by decide +kernel
theorem dX8_judge_0 : decode cX8_judge 0 = .ok (.iload_n 1, 1) := by decide +kernel
theorem dX8_judge_1 : decode cX8_judge 1 = .ok (.invokestatic 195, 3) := by decide +kernel
theorem dX8_judge_4 : decode cX8_judge 4 = .ok (.ifCond .ne 10, 3) := by decide +kernel
theorem dX8_judge_7 : decode cX8_judge 7 = .ok (.aload_n 0, 1) := by decide +kernel
theorem dX8_judge_8 : decode cX8_judge 8 = .ok (.ldc 92, 2) := by decide +kernel
theorem dX8_judge_10 : decode cX8_judge 10 = .ok (.invokevirtual 102, 3) := by decide +kernel
theorem dX8_judge_13 : decode cX8_judge 13 = .ok (.ireturn, 1) := by decide +kernel
theorem dX8_judge_14 : decode cX8_judge 14 = .ok (.aload_n 0, 1) := by decide +kernel
theorem dX8_judge_15 : decode cX8_judge 15 = .ok (.getfield 71, 3) := by decide +kernel
theorem dX8_judge_18 : decode cX8_judge 18 = .ok (.iload_n 1, 1) := by decide +kernel
theorem dX8_judge_19 : decode cX8_judge 19 = .ok (.iaload, 1) := by decide +kernel
theorem dX8_judge_20 : decode cX8_judge 20 = .ok (.ifCond .ne 10, 3) := by decide +kernel
theorem dX8_judge_23 : decode cX8_judge 23 = .ok (.aload_n 0, 1) := by decide +kernel
theorem dX8_judge_24 : decode cX8_judge 24 = .ok (.ldc 198, 2) := by decide +kernel
theorem dX8_judge_26 : decode cX8_judge 26 = .ok (.invokevirtual 102, 3) := by decide +kernel
theorem dX8_judge_29 : decode cX8_judge 29 = .ok (.ireturn, 1) := by decide +kernel
theorem dX8_judge_30 : decode cX8_judge 30 = .ok (.aload_n 0, 1) := by decide +kernel
theorem dX8_judge_31 : decode cX8_judge 31 = .ok (.invokevirtual 267, 3) := by decide +kernel
theorem dX8_judge_34 : decode cX8_judge 34 = .ok (.iconst 0, 1) := by decide +kernel
theorem dX8_judge_35 : decode cX8_judge 35 = .ok (.istore_n 2, 1) := by decide +kernel
theorem dX8_judge_36 : decode cX8_judge 36 = .ok (.iload_n 2, 1) := by decide +kernel
theorem dX8_judge_37 : decode cX8_judge 37 = .ok (.aload_n 0, 1) := by decide +kernel
theorem dX8_judge_38 : decode cX8_judge 38 = .ok (.getfield 237, 3) := by decide +kernel
theorem dX8_judge_41 : decode cX8_judge 41 = .ok (.if_icmp .ge 74, 3) := by decide +kernel
theorem dX8_judge_44 : decode cX8_judge 44 = .ok (.iload_n 2, 1) := by decide +kernel
theorem dX8_judge_45 : decode cX8_judge 45 = .ok (.aload_n 0, 1) := by decide +kernel
theorem dX8_judge_46 : decode cX8_judge 46 = .ok (.getfield 74, 3) := by decide +kernel
theorem dX8_judge_49 : decode cX8_judge 49 = .ok (.iload_n 1, 1) := by decide +kernel
theorem dX8_judge_50 : decode cX8_judge 50 = .ok (.iaload, 1) := by decide +kernel
theorem dX8_judge_51 : decode cX8_judge 51 = .ok (.if_icmp .ge 64, 3) := by decide +kernel
theorem dX8_judge_54 : decode cX8_judge 54 = .ok (.aload_n 0, 1) := by decide +kernel
theorem dX8_judge_55 : decode cX8_judge 55 = .ok (.getfield 77, 3) := by decide +kernel
theorem dX8_judge_58 : decode cX8_judge 58 = .ok (.bipush 40, 2) := by decide +kernel
theorem dX8_judge_60 : decode cX8_judge 60 = .ok (.iload_n 1, 1) := by decide +kernel
theorem dX8_judge_61 : decode cX8_judge 61 = .ok (.imul, 1) := by decide +kernel
theorem dX8_judge_62 : decode cX8_judge 62 = .ok (.iload_n 2, 1) := by decide +kernel
theorem dX8_judge_63 : decode cX8_judge 63 = .ok (.iadd, 1) := by decide +kernel
theorem dX8_judge_64 : decode cX8_judge 64 = .ok (.laload, 1) := by decide +kernel
theorem dX8_judge_65 : decode cX8_judge 65 = .ok (.aload_n 0, 1) := by decide +kernel
theorem dX8_judge_66 : decode cX8_judge 66 = .ok (.getfield 49, 3) := by decide +kernel
theorem dX8_judge_69 : decode cX8_judge 69 = .ok (.bipush 11, 2) := by decide +kernel
theorem dX8_judge_71 : decode cX8_judge 71 = .ok (.iload_n 2, 1) := by decide +kernel
theorem dX8_judge_72 : decode cX8_judge 72 = .ok (.imul, 1) := by decide +kernel
theorem dX8_judge_73 : decode cX8_judge 73 = .ok (.iaload, 1) := by decide +kernel
theorem dX8_judge_74 : decode cX8_judge 74 = .ok (.iconst 1, 1) := by decide +kernel
theorem dX8_judge_75 : decode cX8_judge 75 = .ok (.if_icmp .ne 17, 3) := by decide +kernel
theorem dX8_judge_78 : decode cX8_judge 78 = .ok (.aload_n 0, 1) := by decide +kernel
theorem dX8_judge_79 : decode cX8_judge 79 = .ok (.getfield 49, 3) := by decide +kernel
theorem dX8_judge_82 : decode cX8_judge 82 = .ok (.bipush 11, 2) := by decide +kernel
theorem dX8_judge_84 : decode cX8_judge 84 = .ok (.iload_n 2, 1) := by decide +kernel
theorem dX8_judge_85 : decode cX8_judge 85 = .ok (.imul, 1) := by decide +kernel
theorem dX8_judge_86 : decode cX8_judge 86 = .ok (.iconst 1, 1) := by decide +kernel
theorem dX8_judge_87 : decode cX8_judge 87 = .ok (.iadd, 1) := by decide +kernel
theorem dX8_judge_88 : decode cX8_judge 88 = .ok (.iaload, 1) := by decide +kernel
theorem dX8_judge_89 : decode cX8_judge 89 = .ok (.goto 15, 3) := by decide +kernel
theorem dX8_judge_92 : decode cX8_judge 92 = .ok (.aload_n 0, 1) := by decide +kernel
theorem dX8_judge_93 : decode cX8_judge 93 = .ok (.getfield 49, 3) := by decide +kernel
theorem dX8_judge_96 : decode cX8_judge 96 = .ok (.bipush 11, 2) := by decide +kernel
theorem dX8_judge_98 : decode cX8_judge 98 = .ok (.iload_n 2, 1) := by decide +kernel
theorem dX8_judge_99 : decode cX8_judge 99 = .ok (.imul, 1) := by decide +kernel
theorem dX8_judge_100 : decode cX8_judge 100 = .ok (.iconst 1, 1) := by decide +kernel
theorem dX8_judge_101 : decode cX8_judge 101 = .ok (.iadd, 1) := by decide +kernel
theorem dX8_judge_102 : decode cX8_judge 102 = .ok (.iaload, 1) := by decide +kernel
theorem dX8_judge_103 : decode cX8_judge 103 = .ok (.ineg, 1) := by decide +kernel
theorem dX8_judge_104 : decode cX8_judge 104 = .ok (.i2l, 1) := by decide +kernel
theorem dX8_judge_105 : decode cX8_judge 105 = .ok (.lcmp, 1) := by decide +kernel
theorem dX8_judge_106 : decode cX8_judge 106 = .ok (.ifCond .ne 9, 3) := by decide +kernel
theorem dX8_judge_109 : decode cX8_judge 109 = .ok (.iinc 2 1, 3) := by decide +kernel
theorem dX8_judge_112 : decode cX8_judge 112 = .ok (.goto (-76), 3) := by decide +kernel
theorem dX8_judge_115 : decode cX8_judge 115 = .ok (.iload_n 2, 1) := by decide +kernel
theorem dX8_judge_116 : decode cX8_judge 116 = .ok (.aload_n 0, 1) := by decide +kernel
theorem dX8_judge_117 : decode cX8_judge 117 = .ok (.getfield 237, 3) := by decide +kernel
theorem dX8_judge_120 : decode cX8_judge 120 = .ok (.if_icmp .ne 17, 3) := by decide +kernel
theorem dX8_judge_123 : decode cX8_judge 123 = .ok (.iload_n 2, 1) := by decide +kernel
theorem dX8_judge_124 : decode cX8_judge 124 = .ok (.aload_n 0, 1) := by decide +kernel
theorem dX8_judge_125 : decode cX8_judge 125 = .ok (.getfield 74, 3) := by decide +kernel
theorem dX8_judge_128 : decode cX8_judge 128 = .ok (.iload_n 1, 1) := by decide +kernel
theorem dX8_judge_129 : decode cX8_judge 129 = .ok (.iaload, 1) := by decide +kernel
theorem dX8_judge_130 : decode cX8_judge 130 = .ok (.if_icmp .ne 7, 3) := by decide +kernel
theorem dX8_judge_133 : decode cX8_judge 133 = .ok (.iconst 0, 1) := by decide +kernel
theorem dX8_judge_134 : decode cX8_judge 134 = .ok (.goto 6, 3) := by decide +kernel
theorem dX8_judge_137 : decode cX8_judge 137 = .ok (.iconst 1, 1) := by decide +kernel
theorem dX8_judge_138 : decode cX8_judge 138 = .ok (.iload_n 2, 1) := by decide +kernel
theorem dX8_judge_139 : decode cX8_judge 139 = .ok (.iadd, 1) := by decide +kernel
theorem dX8_judge_140 : decode cX8_judge 140 = .ok (.ireturn, 1) := by decide +kernel
theorem dX8_ones_0 : decode cX8_ones 0 = .ok (.iconst 0, 1) := by decide +kernel
theorem dX8_ones_1 : decode cX8_ones 1 = .ok (.istore_n 1, 1) := by decide +kernel
theorem dX8_ones_2 : decode cX8_ones 2 = .ok (.iload_n 0, 1) := by decide +kernel
theorem dX8_ones_3 : decode cX8_ones 3 = .ok (.istore_n 2, 1) := by decide +kernel
theorem dX8_ones_4 : decode cX8_ones 4 = .ok (.iload_n 2, 1) := by decide +kernel
theorem dX8_ones_5 : decode cX8_ones 5 = .ok (.ifCond .eq 15, 3) := by decide +kernel
theorem dX8_ones_8 : decode cX8_ones 8 = .ok (.iinc 1 1, 3) := by decide +kernel
theorem dX8_ones_11 : decode cX8_ones 11 = .ok (.iload_n 2, 1) := by decide +kernel
theorem dX8_ones_12 : decode cX8_ones 12 = .ok (.iload_n 2, 1) := by decide +kernel
theorem dX8_ones_13 : decode cX8_ones 13 = .ok (.iconst 1, 1) := by decide +kernel
theorem dX8_ones_14 : decode cX8_ones 14 = .ok (.isub, 1) := by decide +kernel
theorem dX8_ones_15 : decode cX8_ones 15 = .ok (.iand, 1) := by decide +kernel
theorem dX8_ones_16 : decode cX8_ones 16 = .ok (.istore_n 2, 1) := by decide +kernel
theorem dX8_ones_17 : decode cX8_ones 17 = .ok (.goto (-13), 3) := by decide +kernel
theorem dX8_ones_20 : decode cX8_ones 20 = .ok (.iload_n 1, 1) := by decide +kernel
theorem dX8_ones_21 : decode cX8_ones 21 = .ok (.ireturn, 1) := by decide +kernel
theorem dX8_needs_0 : decode cX8_needs 0 = .ok (.aload_n 0, 1) := by decide +kernel
theorem dX8_needs_1 : decode cX8_needs 1 = .ok (.invokevirtual 189, 3) := by decide +kernel
theorem dX8_needs_4 : decode cX8_needs 4 = .ok (.aload_n 0, 1) := by decide +kernel
theorem dX8_needs_5 : decode cX8_needs 5 = .ok (.invokevirtual 111, 3) := by decide +kernel
theorem dX8_needs_8 : decode cX8_needs 8 = .ok (.istore_n 1, 1) := by decide +kernel
theorem dX8_needs_9 : decode cX8_needs 9 = .ok (.aload_n 0, 1) := by decide +kernel
theorem dX8_needs_10 : decode cX8_needs 10 = .ok (.invokevirtual 186, 3) := by decide +kernel
theorem dX8_needs_13 : decode cX8_needs 13 = .ok (.istore_n 2, 1) := by decide +kernel
theorem dX8_needs_14 : decode cX8_needs 14 = .ok (.iconst 0, 1) := by decide +kernel
theorem dX8_needs_15 : decode cX8_needs 15 = .ok (.istore_n 3, 1) := by decide +kernel
theorem dX8_needs_16 : decode cX8_needs 16 = .ok (.iload_n 3, 1) := by decide +kernel
theorem dX8_needs_17 : decode cX8_needs 17 = .ok (.iconst 1, 1) := by decide +kernel
theorem dX8_needs_18 : decode cX8_needs 18 = .ok (.aload_n 0, 1) := by decide +kernel
theorem dX8_needs_19 : decode cX8_needs 19 = .ok (.getfield 97, 3) := by decide +kernel
theorem dX8_needs_22 : decode cX8_needs 22 = .ok (.ishl, 1) := by decide +kernel
theorem dX8_needs_23 : decode cX8_needs 23 = .ok (.if_icmp .ge 77, 3) := by decide +kernel
theorem dX8_needs_26 : decode cX8_needs 26 = .ok (.iload_n 3, 1) := by decide +kernel
theorem dX8_needs_27 : decode cX8_needs 27 = .ok (.invokestatic 270, 3) := by decide +kernel
theorem dX8_needs_30 : decode cX8_needs 30 = .ok (.iload_n 2, 1) := by decide +kernel
theorem dX8_needs_31 : decode cX8_needs 31 = .ok (.invokestatic 270, 3) := by decide +kernel
theorem dX8_needs_34 : decode cX8_needs 34 = .ok (.if_icmp .ge 60, 3) := by decide +kernel
theorem dX8_needs_37 : decode cX8_needs 37 = .ok (.iconst 0, 1) := by decide +kernel
theorem dX8_needs_38 : decode cX8_needs 38 = .ok (.istore 4, 2) := by decide +kernel
theorem dX8_needs_40 : decode cX8_needs 40 = .ok (.iconst 0, 1) := by decide +kernel
theorem dX8_needs_41 : decode cX8_needs 41 = .ok (.istore 5, 2) := by decide +kernel
theorem dX8_needs_43 : decode cX8_needs 43 = .ok (.iload 5, 2) := by decide +kernel
theorem dX8_needs_45 : decode cX8_needs 45 = .ok (.iload_n 1, 1) := by decide +kernel
theorem dX8_needs_46 : decode cX8_needs 46 = .ok (.if_icmp .ge 37, 3) := by decide +kernel
theorem dX8_needs_49 : decode cX8_needs 49 = .ok (.iload 4, 2) := by decide +kernel
theorem dX8_needs_51 : decode cX8_needs 51 = .ok (.ifCond .ne 32, 3) := by decide +kernel
theorem dX8_needs_54 : decode cX8_needs 54 = .ok (.aload_n 0, 1) := by decide +kernel
theorem dX8_needs_55 : decode cX8_needs 55 = .ok (.getfield 36, 3) := by decide +kernel
theorem dX8_needs_58 : decode cX8_needs 58 = .ok (.iload 5, 2) := by decide +kernel
theorem dX8_needs_60 : decode cX8_needs 60 = .ok (.iaload, 1) := by decide +kernel
theorem dX8_needs_61 : decode cX8_needs 61 = .ok (.iload_n 3, 1) := by decide +kernel
theorem dX8_needs_62 : decode cX8_needs 62 = .ok (.ior, 1) := by decide +kernel
theorem dX8_needs_63 : decode cX8_needs 63 = .ok (.aload_n 0, 1) := by decide +kernel
theorem dX8_needs_64 : decode cX8_needs 64 = .ok (.invokevirtual 186, 3) := by decide +kernel
theorem dX8_needs_67 : decode cX8_needs 67 = .ok (.if_icmp .ne 7, 3) := by decide +kernel
theorem dX8_needs_70 : decode cX8_needs 70 = .ok (.iconst 1, 1) := by decide +kernel
theorem dX8_needs_71 : decode cX8_needs 71 = .ok (.goto 4, 3) := by decide +kernel
theorem dX8_needs_74 : decode cX8_needs 74 = .ok (.iconst 0, 1) := by decide +kernel
theorem dX8_needs_75 : decode cX8_needs 75 = .ok (.istore 4, 2) := by decide +kernel
theorem dX8_needs_77 : decode cX8_needs 77 = .ok (.iinc 5 1, 3) := by decide +kernel
theorem dX8_needs_80 : decode cX8_needs 80 = .ok (.goto (-37), 3) := by decide +kernel
theorem dX8_needs_83 : decode cX8_needs 83 = .ok (.iload 4, 2) := by decide +kernel
theorem dX8_needs_85 : decode cX8_needs 85 = .ok (.ifCond .eq 7, 3) := by decide +kernel
theorem dX8_needs_88 : decode cX8_needs 88 = .ok (.iload_n 3, 1) := by decide +kernel
theorem dX8_needs_89 : decode cX8_needs 89 = .ok (.goto 4, 3) := by decide +kernel
theorem dX8_needs_92 : decode cX8_needs 92 = .ok (.iload_n 2, 1) := by decide +kernel
theorem dX8_needs_93 : decode cX8_needs 93 = .ok (.istore_n 2, 1) := by decide +kernel
theorem dX8_needs_94 : decode cX8_needs 94 = .ok (.iinc 3 1, 3) := by decide +kernel
theorem dX8_needs_97 : decode cX8_needs 97 = .ok (.goto (-81), 3) := by decide +kernel
theorem dX8_needs_100 : decode cX8_needs 100 = .ok (.iload_n 2, 1) := by decide +kernel
theorem dX8_needs_101 : decode cX8_needs 101 = .ok (.ireturn, 1) := by decide +kernel
theorem dX8_without_0 : decode cX8_without 0 = .ok (.aload_n 0, 1) := by decide +kernel
theorem dX8_without_1 : decode cX8_without 1 = .ok (.getfield 97, 3) := by decide +kernel
theorem dX8_without_4 : decode cX8_without 4 = .ok (.ifCond .ne 10, 3) := by decide +kernel
theorem dX8_without_7 : decode cX8_without 7 = .ok (.aload_n 0, 1) := by decide +kernel
theorem dX8_without_8 : decode cX8_without 8 = .ok (.ldc 167, 2) := by decide +kernel
theorem dX8_without_10 : decode cX8_without 10 = .ok (.invokevirtual 102, 3) := by decide +kernel
theorem dX8_without_13 : decode cX8_without 13 = .ok (.ireturn, 1) := by decide +kernel
theorem dX8_without_14 : decode cX8_without 14 = .ok (.aload_n 0, 1) := by decide +kernel
theorem dX8_without_15 : decode cX8_without 15 = .ok (.invokevirtual 189, 3) := by decide +kernel
theorem dX8_without_18 : decode cX8_without 18 = .ok (.aload_n 0, 1) := by decide +kernel
theorem dX8_without_19 : decode cX8_without 19 = .ok (.invokevirtual 111, 3) := by decide +kernel
theorem dX8_without_22 : decode cX8_without 22 = .ok (.istore_n 1, 1) := by decide +kernel
theorem dX8_without_23 : decode cX8_without 23 = .ok (.iconst 0, 1) := by decide +kernel
theorem dX8_without_24 : decode cX8_without 24 = .ok (.istore_n 2, 1) := by decide +kernel
theorem dX8_without_25 : decode cX8_without 25 = .ok (.iconst (-1), 1) := by decide +kernel
theorem dX8_without_26 : decode cX8_without 26 = .ok (.istore_n 3, 1) := by decide +kernel
theorem dX8_without_27 : decode cX8_without 27 = .ok (.iconst 0, 1) := by decide +kernel
theorem dX8_without_28 : decode cX8_without 28 = .ok (.istore 4, 2) := by decide +kernel
theorem dX8_without_30 : decode cX8_without 30 = .ok (.iload 4, 2) := by decide +kernel
theorem dX8_without_32 : decode cX8_without 32 = .ok (.aload_n 0, 1) := by decide +kernel
theorem dX8_without_33 : decode cX8_without 33 = .ok (.getfield 97, 3) := by decide +kernel
theorem dX8_without_36 : decode cX8_without 36 = .ok (.if_icmp .ge 82, 3) := by decide +kernel
theorem dX8_without_39 : decode cX8_without 39 = .ok (.iconst 0, 1) := by decide +kernel
theorem dX8_without_40 : decode cX8_without 40 = .ok (.istore 5, 2) := by decide +kernel
theorem dX8_without_42 : decode cX8_without 42 = .ok (.iconst 0, 1) := by decide +kernel
theorem dX8_without_43 : decode cX8_without 43 = .ok (.istore 6, 2) := by decide +kernel
theorem dX8_without_45 : decode cX8_without 45 = .ok (.iload 6, 2) := by decide +kernel
theorem dX8_without_47 : decode cX8_without 47 = .ok (.iload_n 1, 1) := by decide +kernel
theorem dX8_without_48 : decode cX8_without 48 = .ok (.if_icmp .ge 38, 3) := by decide +kernel
theorem dX8_without_51 : decode cX8_without 51 = .ok (.iload 5, 2) := by decide +kernel
theorem dX8_without_53 : decode cX8_without 53 = .ok (.aload_n 0, 1) := by decide +kernel
theorem dX8_without_54 : decode cX8_without 54 = .ok (.getfield 36, 3) := by decide +kernel
theorem dX8_without_57 : decode cX8_without 57 = .ok (.iload 6, 2) := by decide +kernel
theorem dX8_without_59 : decode cX8_without 59 = .ok (.iaload, 1) := by decide +kernel
theorem dX8_without_60 : decode cX8_without 60 = .ok (.iconst 1, 1) := by decide +kernel
theorem dX8_without_61 : decode cX8_without 61 = .ok (.iload 4, 2) := by decide +kernel
theorem dX8_without_63 : decode cX8_without 63 = .ok (.ishl, 1) := by decide +kernel
theorem dX8_without_64 : decode cX8_without 64 = .ok (.ior, 1) := by decide +kernel
theorem dX8_without_65 : decode cX8_without 65 = .ok (.aload_n 0, 1) := by decide +kernel
theorem dX8_without_66 : decode cX8_without 66 = .ok (.invokevirtual 186, 3) := by decide +kernel
theorem dX8_without_69 : decode cX8_without 69 = .ok (.if_icmp .ne 7, 3) := by decide +kernel
theorem dX8_without_72 : decode cX8_without 72 = .ok (.iconst 1, 1) := by decide +kernel
theorem dX8_without_73 : decode cX8_without 73 = .ok (.goto 4, 3) := by decide +kernel
theorem dX8_without_76 : decode cX8_without 76 = .ok (.iconst 0, 1) := by decide +kernel
theorem dX8_without_77 : decode cX8_without 77 = .ok (.iadd, 1) := by decide +kernel
theorem dX8_without_78 : decode cX8_without 78 = .ok (.istore 5, 2) := by decide +kernel
theorem dX8_without_80 : decode cX8_without 80 = .ok (.iinc 6 1, 3) := by decide +kernel
theorem dX8_without_83 : decode cX8_without 83 = .ok (.goto (-38), 3) := by decide +kernel
theorem dX8_without_86 : decode cX8_without 86 = .ok (.iload 5, 2) := by decide +kernel
theorem dX8_without_88 : decode cX8_without 88 = .ok (.iload_n 3, 1) := by decide +kernel
theorem dX8_without_89 : decode cX8_without 89 = .ok (.if_icmp .le 8, 3) := by decide +kernel
theorem dX8_without_92 : decode cX8_without 92 = .ok (.iload 4, 2) := by decide +kernel
theorem dX8_without_94 : decode cX8_without 94 = .ok (.goto 4, 3) := by decide +kernel
theorem dX8_without_97 : decode cX8_without 97 = .ok (.iload_n 2, 1) := by decide +kernel
theorem dX8_without_98 : decode cX8_without 98 = .ok (.istore_n 2, 1) := by decide +kernel
theorem dX8_without_99 : decode cX8_without 99 = .ok (.iload 5, 2) := by decide +kernel
theorem dX8_without_101 : decode cX8_without 101 = .ok (.iload_n 3, 1) := by decide +kernel
theorem dX8_without_102 : decode cX8_without 102 = .ok (.if_icmp .le 8, 3) := by decide +kernel
theorem dX8_without_105 : decode cX8_without 105 = .ok (.iload 5, 2) := by decide +kernel
theorem dX8_without_107 : decode cX8_without 107 = .ok (.goto 4, 3) := by decide +kernel
theorem dX8_without_110 : decode cX8_without 110 = .ok (.iload_n 3, 1) := by decide +kernel
theorem dX8_without_111 : decode cX8_without 111 = .ok (.istore_n 3, 1) := by decide +kernel
theorem dX8_without_112 : decode cX8_without 112 = .ok (.iinc 4 1, 3) := by decide +kernel
theorem dX8_without_115 : decode cX8_without 115 = .ok (.goto (-85), 3) := by decide +kernel
theorem dX8_without_118 : decode cX8_without 118 = .ok (.iload_n 2, 1) := by decide +kernel
theorem dX8_without_119 : decode cX8_without 119 = .ok (.ireturn, 1) := by decide +kernel
theorem dX8_kind_0 : decode cX8_kind 0 = .ok (.aload_n 0, 1) := by decide +kernel
theorem dX8_kind_1 : decode cX8_kind 1 = .ok (.iload_n 1, 1) := by decide +kernel
theorem dX8_kind_2 : decode cX8_kind 2 = .ok (.invokevirtual 150, 3) := by decide +kernel
theorem dX8_kind_5 : decode cX8_kind 5 = .ok (.ifCond .ne 10, 3) := by decide +kernel
theorem dX8_kind_8 : decode cX8_kind 8 = .ok (.aload_n 0, 1) := by decide +kernel
theorem dX8_kind_9 : decode cX8_kind 9 = .ok (.ldc 92, 2) := by decide +kernel
theorem dX8_kind_11 : decode cX8_kind 11 = .ok (.invokevirtual 102, 3) := by decide +kernel
theorem dX8_kind_14 : decode cX8_kind 14 = .ok (.ireturn, 1) := by decide +kernel
theorem dX8_kind_15 : decode cX8_kind 15 = .ok (.aload_n 0, 1) := by decide +kernel
theorem dX8_kind_16 : decode cX8_kind 16 = .ok (.iload_n 1, 1) := by decide +kernel
theorem dX8_kind_17 : decode cX8_kind 17 = .ok (.iconst 0, 1) := by decide +kernel
theorem dX8_kind_18 : decode cX8_kind 18 = .ok (.invokevirtual 142, 3) := by decide +kernel
theorem dX8_kind_21 : decode cX8_kind 21 = .ok (.istore_n 2, 1) := by decide +kernel
theorem dX8_kind_22 : decode cX8_kind 22 = .ok (.iconst 0, 1) := by decide +kernel
theorem dX8_kind_23 : decode cX8_kind 23 = .ok (.istore_n 3, 1) := by decide +kernel
theorem dX8_kind_24 : decode cX8_kind 24 = .ok (.iconst (-1), 1) := by decide +kernel
theorem dX8_kind_25 : decode cX8_kind 25 = .ok (.istore 4, 2) := by decide +kernel
theorem dX8_kind_27 : decode cX8_kind 27 = .ok (.iconst 0, 1) := by decide +kernel
theorem dX8_kind_28 : decode cX8_kind 28 = .ok (.istore 5, 2) := by decide +kernel
theorem dX8_kind_30 : decode cX8_kind 30 = .ok (.iload 5, 2) := by decide +kernel
theorem dX8_kind_32 : decode cX8_kind 32 = .ok (.bipush 6, 2) := by decide +kernel
theorem dX8_kind_34 : decode cX8_kind 34 = .ok (.if_icmp .ge 60, 3) := by decide +kernel
theorem dX8_kind_37 : decode cX8_kind 37 = .ok (.aload_n 0, 1) := by decide +kernel
theorem dX8_kind_38 : decode cX8_kind 38 = .ok (.getfield 23, 3) := by decide +kernel
theorem dX8_kind_41 : decode cX8_kind 41 = .ok (.bipush 7, 2) := by decide +kernel
theorem dX8_kind_43 : decode cX8_kind 43 = .ok (.iload_n 1, 1) := by decide +kernel
theorem dX8_kind_44 : decode cX8_kind 44 = .ok (.imul, 1) := by decide +kernel
theorem dX8_kind_45 : decode cX8_kind 45 = .ok (.iload 5, 2) := by decide +kernel
theorem dX8_kind_47 : decode cX8_kind 47 = .ok (.iastore, 1) := by decide +kernel
theorem dX8_kind_48 : decode cX8_kind 48 = .ok (.aload_n 0, 1) := by decide +kernel
theorem dX8_kind_49 : decode cX8_kind 49 = .ok (.invokevirtual 189, 3) := by decide +kernel
theorem dX8_kind_52 : decode cX8_kind 52 = .ok (.aload_n 0, 1) := by decide +kernel
theorem dX8_kind_53 : decode cX8_kind 53 = .ok (.getfield 176, 3) := by decide +kernel
theorem dX8_kind_56 : decode cX8_kind 56 = .ok (.iload 4, 2) := by decide +kernel
theorem dX8_kind_58 : decode cX8_kind 58 = .ok (.if_icmp .le 8, 3) := by decide +kernel
theorem dX8_kind_61 : decode cX8_kind 61 = .ok (.iload 5, 2) := by decide +kernel
theorem dX8_kind_63 : decode cX8_kind 63 = .ok (.goto 4, 3) := by decide +kernel
theorem dX8_kind_66 : decode cX8_kind 66 = .ok (.iload_n 3, 1) := by decide +kernel
theorem dX8_kind_67 : decode cX8_kind 67 = .ok (.istore_n 3, 1) := by decide +kernel
theorem dX8_kind_68 : decode cX8_kind 68 = .ok (.aload_n 0, 1) := by decide +kernel
theorem dX8_kind_69 : decode cX8_kind 69 = .ok (.getfield 176, 3) := by decide +kernel
theorem dX8_kind_72 : decode cX8_kind 72 = .ok (.iload 4, 2) := by decide +kernel
theorem dX8_kind_74 : decode cX8_kind 74 = .ok (.if_icmp .le 10, 3) := by decide +kernel
theorem dX8_kind_77 : decode cX8_kind 77 = .ok (.aload_n 0, 1) := by decide +kernel
theorem dX8_kind_78 : decode cX8_kind 78 = .ok (.getfield 176, 3) := by decide +kernel
theorem dX8_kind_81 : decode cX8_kind 81 = .ok (.goto 5, 3) := by decide +kernel
theorem dX8_kind_84 : decode cX8_kind 84 = .ok (.iload 4, 2) := by decide +kernel
theorem dX8_kind_86 : decode cX8_kind 86 = .ok (.istore 4, 2) := by decide +kernel
theorem dX8_kind_88 : decode cX8_kind 88 = .ok (.iinc 5 1, 3) := by decide +kernel
theorem dX8_kind_91 : decode cX8_kind 91 = .ok (.goto (-61), 3) := by decide +kernel
theorem dX8_kind_94 : decode cX8_kind 94 = .ok (.aload_n 0, 1) := by decide +kernel
theorem dX8_kind_95 : decode cX8_kind 95 = .ok (.getfield 23, 3) := by decide +kernel
theorem dX8_kind_98 : decode cX8_kind 98 = .ok (.bipush 7, 2) := by decide +kernel
theorem dX8_kind_100 : decode cX8_kind 100 = .ok (.iload_n 1, 1) := by decide +kernel
theorem dX8_kind_101 : decode cX8_kind 101 = .ok (.imul, 1) := by decide +kernel
theorem dX8_kind_102 : decode cX8_kind 102 = .ok (.iload_n 2, 1) := by decide +kernel
theorem dX8_kind_103 : decode cX8_kind 103 = .ok (.iastore, 1) := by decide +kernel
theorem dX8_kind_104 : decode cX8_kind 104 = .ok (.iload_n 3, 1) := by decide +kernel
theorem dX8_kind_105 : decode cX8_kind 105 = .ok (.ireturn, 1) := by decide +kernel
theorem dX8_boundFor_0 : decode cX8_boundFor 0 = .ok (.aload_n 0, 1) := by decide +kernel
theorem dX8_boundFor_1 : decode cX8_boundFor 1 = .ok (.iload_n 1, 1) := by decide +kernel
theorem dX8_boundFor_2 : decode cX8_boundFor 2 = .ok (.invokevirtual 150, 3) := by decide +kernel
theorem dX8_boundFor_5 : decode cX8_boundFor 5 = .ok (.ifCond .ne 10, 3) := by decide +kernel
theorem dX8_boundFor_8 : decode cX8_boundFor 8 = .ok (.aload_n 0, 1) := by decide +kernel
theorem dX8_boundFor_9 : decode cX8_boundFor 9 = .ok (.ldc 92, 2) := by decide +kernel
theorem dX8_boundFor_11 : decode cX8_boundFor 11 = .ok (.invokevirtual 102, 3) := by decide +kernel
theorem dX8_boundFor_14 : decode cX8_boundFor 14 = .ok (.ireturn, 1) := by decide +kernel
theorem dX8_boundFor_15 : decode cX8_boundFor 15 = .ok (.iconst 0, 1) := by decide +kernel
theorem dX8_boundFor_16 : decode cX8_boundFor 16 = .ok (.istore_n 2, 1) := by decide +kernel
theorem dX8_boundFor_17 : decode cX8_boundFor 17 = .ok (.iload_n 2, 1) := by decide +kernel
theorem dX8_boundFor_18 : decode cX8_boundFor 18 = .ok (.sipush 801, 3) := by decide +kernel
theorem dX8_boundFor_21 : decode cX8_boundFor 21 = .ok (.if_icmp .ge 16, 3) := by decide +kernel
theorem dX8_boundFor_24 : decode cX8_boundFor 24 = .ok (.aload_n 0, 1) := by decide +kernel
theorem dX8_boundFor_25 : decode cX8_boundFor 25 = .ok (.getfield 52, 3) := by decide +kernel
theorem dX8_boundFor_28 : decode cX8_boundFor 28 = .ok (.iload_n 2, 1) := by decide +kernel
theorem dX8_boundFor_29 : decode cX8_boundFor 29 = .ok (.iconst 0, 1) := by decide +kernel
theorem dX8_boundFor_30 : decode cX8_boundFor 30 = .ok (.iastore, 1) := by decide +kernel
theorem dX8_boundFor_31 : decode cX8_boundFor 31 = .ok (.iinc 2 1, 3) := by decide +kernel
theorem dX8_boundFor_34 : decode cX8_boundFor 34 = .ok (.goto (-17), 3) := by decide +kernel
theorem dX8_boundFor_37 : decode cX8_boundFor 37 = .ok (.aload_n 0, 1) := by decide +kernel
theorem dX8_boundFor_38 : decode cX8_boundFor 38 = .ok (.invokevirtual 189, 3) := by decide +kernel
theorem dX8_boundFor_41 : decode cX8_boundFor 41 = .ok (.aload_n 0, 1) := by decide +kernel
theorem dX8_boundFor_42 : decode cX8_boundFor 42 = .ok (.invokevirtual 111, 3) := by decide +kernel
theorem dX8_boundFor_45 : decode cX8_boundFor 45 = .ok (.istore_n 2, 1) := by decide +kernel
theorem dX8_boundFor_46 : decode cX8_boundFor 46 = .ok (.iconst 0, 1) := by decide +kernel
theorem dX8_boundFor_47 : decode cX8_boundFor 47 = .ok (.istore_n 3, 1) := by decide +kernel
theorem dX8_boundFor_48 : decode cX8_boundFor 48 = .ok (.iload_n 3, 1) := by decide +kernel
theorem dX8_boundFor_49 : decode cX8_boundFor 49 = .ok (.iload_n 2, 1) := by decide +kernel
theorem dX8_boundFor_50 : decode cX8_boundFor 50 = .ok (.if_icmp .ge 47, 3) := by decide +kernel
theorem dX8_boundFor_53 : decode cX8_boundFor 53 = .ok (.aload_n 0, 1) := by decide +kernel
theorem dX8_boundFor_54 : decode cX8_boundFor 54 = .ok (.getfield 36, 3) := by decide +kernel
theorem dX8_boundFor_57 : decode cX8_boundFor 57 = .ok (.iload_n 3, 1) := by decide +kernel
theorem dX8_boundFor_58 : decode cX8_boundFor 58 = .ok (.iaload, 1) := by decide +kernel
theorem dX8_boundFor_59 : decode cX8_boundFor 59 = .ok (.iconst 1, 1) := by decide +kernel
theorem dX8_boundFor_60 : decode cX8_boundFor 60 = .ok (.iload_n 1, 1) := by decide +kernel
theorem dX8_boundFor_61 : decode cX8_boundFor 61 = .ok (.ishl, 1) := by decide +kernel
theorem dX8_boundFor_62 : decode cX8_boundFor 62 = .ok (.ior, 1) := by decide +kernel
theorem dX8_boundFor_63 : decode cX8_boundFor 63 = .ok (.aload_n 0, 1) := by decide +kernel
theorem dX8_boundFor_64 : decode cX8_boundFor 64 = .ok (.invokevirtual 186, 3) := by decide +kernel
theorem dX8_boundFor_67 : decode cX8_boundFor 67 = .ok (.if_icmp .ne 24, 3) := by decide +kernel
theorem dX8_boundFor_70 : decode cX8_boundFor 70 = .ok (.aload_n 0, 1) := by decide +kernel
theorem dX8_boundFor_71 : decode cX8_boundFor 71 = .ok (.iload_n 3, 1) := by decide +kernel
theorem dX8_boundFor_72 : decode cX8_boundFor 72 = .ok (.invokevirtual 179, 3) := by decide +kernel
theorem dX8_boundFor_75 : decode cX8_boundFor 75 = .ok (.aload_n 0, 1) := by decide +kernel
theorem dX8_boundFor_76 : decode cX8_boundFor 76 = .ok (.getfield 52, 3) := by decide +kernel
theorem dX8_boundFor_79 : decode cX8_boundFor 79 = .ok (.sipush 400, 3) := by decide +kernel
theorem dX8_boundFor_82 : decode cX8_boundFor 82 = .ok (.aload_n 0, 1) := by decide +kernel
theorem dX8_boundFor_83 : decode cX8_boundFor 83 = .ok (.iload_n 1, 1) := by decide +kernel
theorem dX8_boundFor_84 : decode cX8_boundFor 84 = .ok (.invokevirtual 168, 3) := by decide +kernel
theorem dX8_boundFor_87 : decode cX8_boundFor 87 = .ok (.l2i, 1) := by decide +kernel
theorem dX8_boundFor_88 : decode cX8_boundFor 88 = .ok (.iadd, 1) := by decide +kernel
theorem dX8_boundFor_89 : decode cX8_boundFor 89 = .ok (.iconst 1, 1) := by decide +kernel
theorem dX8_boundFor_90 : decode cX8_boundFor 90 = .ok (.iastore, 1) := by decide +kernel
theorem dX8_boundFor_91 : decode cX8_boundFor 91 = .ok (.iinc 3 1, 3) := by decide +kernel
theorem dX8_boundFor_94 : decode cX8_boundFor 94 = .ok (.goto (-46), 3) := by decide +kernel
theorem dX8_boundFor_97 : decode cX8_boundFor 97 = .ok (.sipush (-999), 3) := by decide +kernel
theorem dX8_boundFor_100 : decode cX8_boundFor 100 = .ok (.istore_n 3, 1) := by decide +kernel
theorem dX8_boundFor_101 : decode cX8_boundFor 101 = .ok (.iload_n 3, 1) := by decide +kernel
theorem dX8_boundFor_102 : decode cX8_boundFor 102 = .ok (.sipush 999, 3) := by decide +kernel
theorem dX8_boundFor_105 : decode cX8_boundFor 105 = .ok (.if_icmp .gt 66, 3) := by decide +kernel
theorem dX8_boundFor_108 : decode cX8_boundFor 108 = .ok (.iconst 0, 1) := by decide +kernel
theorem dX8_boundFor_109 : decode cX8_boundFor 109 = .ok (.istore 4, 2) := by decide +kernel
theorem dX8_boundFor_111 : decode cX8_boundFor 111 = .ok (.iload 4, 2) := by decide +kernel
theorem dX8_boundFor_113 : decode cX8_boundFor 113 = .ok (.sipush 801, 3) := by decide +kernel
theorem dX8_boundFor_116 : decode cX8_boundFor 116 = .ok (.if_icmp .ge 49, 3) := by decide +kernel
theorem dX8_boundFor_119 : decode cX8_boundFor 119 = .ok (.aload_n 0, 1) := by decide +kernel
theorem dX8_boundFor_120 : decode cX8_boundFor 120 = .ok (.getfield 52, 3) := by decide +kernel
theorem dX8_boundFor_123 : decode cX8_boundFor 123 = .ok (.iload 4, 2) := by decide +kernel
theorem dX8_boundFor_125 : decode cX8_boundFor 125 = .ok (.iaload, 1) := by decide +kernel
theorem dX8_boundFor_126 : decode cX8_boundFor 126 = .ok (.iconst 1, 1) := by decide +kernel
theorem dX8_boundFor_127 : decode cX8_boundFor 127 = .ok (.if_icmp .ne 32, 3) := by decide +kernel
theorem dX8_boundFor_130 : decode cX8_boundFor 130 = .ok (.aload_n 0, 1) := by decide +kernel
theorem dX8_boundFor_131 : decode cX8_boundFor 131 = .ok (.iload_n 1, 1) := by decide +kernel
theorem dX8_boundFor_132 : decode cX8_boundFor 132 = .ok (.iconst 0, 1) := by decide +kernel
theorem dX8_boundFor_133 : decode cX8_boundFor 133 = .ok (.invokevirtual 142, 3) := by decide +kernel
theorem dX8_boundFor_136 : decode cX8_boundFor 136 = .ok (.aload_n 0, 1) := by decide +kernel
theorem dX8_boundFor_137 : decode cX8_boundFor 137 = .ok (.iload_n 1, 1) := by decide +kernel
theorem dX8_boundFor_138 : decode cX8_boundFor 138 = .ok (.iconst 2, 1) := by decide +kernel
theorem dX8_boundFor_139 : decode cX8_boundFor 139 = .ok (.invokevirtual 142, 3) := by decide +kernel
theorem dX8_boundFor_142 : decode cX8_boundFor 142 = .ok (.iload 4, 2) := by decide +kernel
theorem dX8_boundFor_144 : decode cX8_boundFor 144 = .ok (.sipush 400, 3) := by decide +kernel
theorem dX8_boundFor_147 : decode cX8_boundFor 147 = .ok (.isub, 1) := by decide +kernel
theorem dX8_boundFor_148 : decode cX8_boundFor 148 = .ok (.iload_n 3, 1) := by decide +kernel
theorem dX8_boundFor_149 : decode cX8_boundFor 149 = .ok (.isub, 1) := by decide +kernel
theorem dX8_boundFor_150 : decode cX8_boundFor 150 = .ok (.i2l, 1) := by decide +kernel
theorem dX8_boundFor_151 : decode cX8_boundFor 151 = .ok (.invokestatic 172, 3) := by decide +kernel
theorem dX8_boundFor_154 : decode cX8_boundFor 154 = .ok (.ifCond .eq 5, 3) := by decide +kernel
theorem dX8_boundFor_157 : decode cX8_boundFor 157 = .ok (.iload_n 3, 1) := by decide +kernel
theorem dX8_boundFor_158 : decode cX8_boundFor 158 = .ok (.ireturn, 1) := by decide +kernel
theorem dX8_boundFor_159 : decode cX8_boundFor 159 = .ok (.iinc 4 1, 3) := by decide +kernel
theorem dX8_boundFor_162 : decode cX8_boundFor 162 = .ok (.goto (-51), 3) := by decide +kernel
theorem dX8_boundFor_165 : decode cX8_boundFor 165 = .ok (.iinc 3 1, 3) := by decide +kernel
theorem dX8_boundFor_168 : decode cX8_boundFor 168 = .ok (.goto (-67), 3) := by decide +kernel
theorem dX8_boundFor_171 : decode cX8_boundFor 171 = .ok (.aload_n 0, 1) := by decide +kernel
theorem dX8_boundFor_172 : decode cX8_boundFor 172 = .ok (.ldc 167, 2) := by decide +kernel
theorem dX8_boundFor_174 : decode cX8_boundFor 174 = .ok (.invokevirtual 102, 3) := by decide +kernel
theorem dX8_boundFor_177 : decode cX8_boundFor 177 = .ok (.ireturn, 1) := by decide +kernel
theorem dX8_areTwo_0 : decode cX8_areTwo 0 = .ok (.aload_n 0, 1) := by decide +kernel
theorem dX8_areTwo_1 : decode cX8_areTwo 1 = .ok (.iload_n 1, 1) := by decide +kernel
theorem dX8_areTwo_2 : decode cX8_areTwo 2 = .ok (.invokevirtual 115, 3) := by decide +kernel
theorem dX8_areTwo_5 : decode cX8_areTwo 5 = .ok (.ifCond .eq 20, 3) := by decide +kernel
theorem dX8_areTwo_8 : decode cX8_areTwo 8 = .ok (.aload_n 0, 1) := by decide +kernel
theorem dX8_areTwo_9 : decode cX8_areTwo 9 = .ok (.iload_n 2, 1) := by decide +kernel
theorem dX8_areTwo_10 : decode cX8_areTwo 10 = .ok (.invokevirtual 115, 3) := by decide +kernel
theorem dX8_areTwo_13 : decode cX8_areTwo 13 = .ok (.ifCond .eq 12, 3) := by decide +kernel
theorem dX8_areTwo_16 : decode cX8_areTwo 16 = .ok (.iload_n 1, 1) := by decide +kernel
theorem dX8_areTwo_17 : decode cX8_areTwo 17 = .ok (.iload_n 2, 1) := by decide +kernel
theorem dX8_areTwo_18 : decode cX8_areTwo 18 = .ok (.if_icmp .eq 7, 3) := by decide +kernel
theorem dX8_areTwo_21 : decode cX8_areTwo 21 = .ok (.iconst 1, 1) := by decide +kernel
theorem dX8_areTwo_22 : decode cX8_areTwo 22 = .ok (.goto 4, 3) := by decide +kernel
theorem dX8_areTwo_25 : decode cX8_areTwo 25 = .ok (.iconst 0, 1) := by decide +kernel
theorem dX8_areTwo_26 : decode cX8_areTwo 26 = .ok (.ireturn, 1) := by decide +kernel
theorem dX8_base_0 : decode cX8_base 0 = .ok (.aload_n 0, 1) := by decide +kernel
theorem dX8_base_1 : decode cX8_base 1 = .ok (.iload_n 1, 1) := by decide +kernel
theorem dX8_base_2 : decode cX8_base 2 = .ok (.invokevirtual 115, 3) := by decide +kernel
theorem dX8_base_5 : decode cX8_base 5 = .ok (.ifCond .eq 25, 3) := by decide +kernel
theorem dX8_base_8 : decode cX8_base 8 = .ok (.aload_n 0, 1) := by decide +kernel
theorem dX8_base_9 : decode cX8_base 9 = .ok (.iload_n 2, 1) := by decide +kernel
theorem dX8_base_10 : decode cX8_base 10 = .ok (.invokevirtual 115, 3) := by decide +kernel
theorem dX8_base_13 : decode cX8_base 13 = .ok (.ifCond .eq 17, 3) := by decide +kernel
theorem dX8_base_16 : decode cX8_base 16 = .ok (.iload_n 3, 1) := by decide +kernel
theorem dX8_base_17 : decode cX8_base 17 = .ok (.i2l, 1) := by decide +kernel
theorem dX8_base_18 : decode cX8_base 18 = .ok (.ldc2_w 273, 3) := by decide +kernel
theorem dX8_base_21 : decode cX8_base 21 = .ok (.ldc2_w 100, 3) := by decide +kernel
theorem dX8_base_24 : decode cX8_base 24 = .ok (.invokestatic 93, 3) := by decide +kernel
theorem dX8_base_27 : decode cX8_base 27 = .ok (.ifCond .ne 10, 3) := by decide +kernel
theorem dX8_base_30 : decode cX8_base 30 = .ok (.aload_n 0, 1) := by decide +kernel
theorem dX8_base_31 : decode cX8_base 31 = .ok (.ldc 92, 2) := by decide +kernel
theorem dX8_base_33 : decode cX8_base 33 = .ok (.invokevirtual 102, 3) := by decide +kernel
theorem dX8_base_36 : decode cX8_base 36 = .ok (.ireturn, 1) := by decide +kernel
theorem dX8_base_37 : decode cX8_base 37 = .ok (.aload_n 0, 1) := by decide +kernel
theorem dX8_base_38 : decode cX8_base 38 = .ok (.getfield 26, 3) := by decide +kernel
theorem dX8_base_41 : decode cX8_base 41 = .ok (.iconst 4, 1) := by decide +kernel
theorem dX8_base_42 : decode cX8_base 42 = .ok (.iload_n 1, 1) := by decide +kernel
theorem dX8_base_43 : decode cX8_base 43 = .ok (.imul, 1) := by decide +kernel
theorem dX8_base_44 : decode cX8_base 44 = .ok (.iload_n 2, 1) := by decide +kernel
theorem dX8_base_45 : decode cX8_base 45 = .ok (.iadd, 1) := by decide +kernel
theorem dX8_base_46 : decode cX8_base 46 = .ok (.iaload, 1) := by decide +kernel
theorem dX8_base_47 : decode cX8_base 47 = .ok (.istore 4, 2) := by decide +kernel
theorem dX8_base_49 : decode cX8_base 49 = .ok (.aload_n 0, 1) := by decide +kernel
theorem dX8_base_50 : decode cX8_base 50 = .ok (.getfield 26, 3) := by decide +kernel
theorem dX8_base_53 : decode cX8_base 53 = .ok (.iconst 4, 1) := by decide +kernel
theorem dX8_base_54 : decode cX8_base 54 = .ok (.iload_n 1, 1) := by decide +kernel
theorem dX8_base_55 : decode cX8_base 55 = .ok (.imul, 1) := by decide +kernel
theorem dX8_base_56 : decode cX8_base 56 = .ok (.iload_n 2, 1) := by decide +kernel
theorem dX8_base_57 : decode cX8_base 57 = .ok (.iadd, 1) := by decide +kernel
theorem dX8_base_58 : decode cX8_base 58 = .ok (.iload_n 3, 1) := by decide +kernel
theorem dX8_base_59 : decode cX8_base 59 = .ok (.iastore, 1) := by decide +kernel
theorem dX8_base_60 : decode cX8_base 60 = .ok (.iload 4, 2) := by decide +kernel
theorem dX8_base_62 : decode cX8_base 62 = .ok (.ireturn, 1) := by decide +kernel
theorem dX8_baseOf_0 : decode cX8_baseOf 0 = .ok (.aload_n 0, 1) := by decide +kernel
theorem dX8_baseOf_1 : decode cX8_baseOf 1 = .ok (.iload_n 1, 1) := by decide +kernel
theorem dX8_baseOf_2 : decode cX8_baseOf 2 = .ok (.invokevirtual 115, 3) := by decide +kernel
theorem dX8_baseOf_5 : decode cX8_baseOf 5 = .ok (.ifCond .eq 24, 3) := by decide +kernel
theorem dX8_baseOf_8 : decode cX8_baseOf 8 = .ok (.aload_n 0, 1) := by decide +kernel
theorem dX8_baseOf_9 : decode cX8_baseOf 9 = .ok (.iload_n 2, 1) := by decide +kernel
theorem dX8_baseOf_10 : decode cX8_baseOf 10 = .ok (.invokevirtual 115, 3) := by decide +kernel
theorem dX8_baseOf_13 : decode cX8_baseOf 13 = .ok (.ifCond .eq 16, 3) := by decide +kernel
theorem dX8_baseOf_16 : decode cX8_baseOf 16 = .ok (.aload_n 0, 1) := by decide +kernel
theorem dX8_baseOf_17 : decode cX8_baseOf 17 = .ok (.getfield 26, 3) := by decide +kernel
theorem dX8_baseOf_20 : decode cX8_baseOf 20 = .ok (.iconst 4, 1) := by decide +kernel
theorem dX8_baseOf_21 : decode cX8_baseOf 21 = .ok (.iload_n 1, 1) := by decide +kernel
theorem dX8_baseOf_22 : decode cX8_baseOf 22 = .ok (.imul, 1) := by decide +kernel
theorem dX8_baseOf_23 : decode cX8_baseOf 23 = .ok (.iload_n 2, 1) := by decide +kernel
theorem dX8_baseOf_24 : decode cX8_baseOf 24 = .ok (.iadd, 1) := by decide +kernel
theorem dX8_baseOf_25 : decode cX8_baseOf 25 = .ok (.iaload, 1) := by decide +kernel
theorem dX8_baseOf_26 : decode cX8_baseOf 26 = .ok (.goto 9, 3) := by decide +kernel
theorem dX8_baseOf_29 : decode cX8_baseOf 29 = .ok (.aload_n 0, 1) := by decide +kernel
theorem dX8_baseOf_30 : decode cX8_baseOf 30 = .ok (.ldc 92, 2) := by decide +kernel
theorem dX8_baseOf_32 : decode cX8_baseOf 32 = .ok (.invokevirtual 102, 3) := by decide +kernel
theorem dX8_baseOf_35 : decode cX8_baseOf 35 = .ok (.ireturn, 1) := by decide +kernel
theorem dX8_mix_0 : decode cX8_mix 0 = .ok (.aload_n 0, 1) := by decide +kernel
theorem dX8_mix_1 : decode cX8_mix 1 = .ok (.iload_n 1, 1) := by decide +kernel
theorem dX8_mix_2 : decode cX8_mix 2 = .ok (.iload_n 2, 1) := by decide +kernel
theorem dX8_mix_3 : decode cX8_mix 3 = .ok (.invokevirtual 275, 3) := by decide +kernel
theorem dX8_mix_6 : decode cX8_mix 6 = .ok (.ifCond .eq 17, 3) := by decide +kernel
theorem dX8_mix_9 : decode cX8_mix 9 = .ok (.iload_n 3, 1) := by decide +kernel
theorem dX8_mix_10 : decode cX8_mix 10 = .ok (.i2l, 1) := by decide +kernel
theorem dX8_mix_11 : decode cX8_mix 11 = .ok (.ldc2_w 278, 3) := by decide +kernel
theorem dX8_mix_14 : decode cX8_mix 14 = .ok (.ldc2_w 265, 3) := by decide +kernel
theorem dX8_mix_17 : decode cX8_mix 17 = .ok (.invokestatic 93, 3) := by decide +kernel
theorem dX8_mix_20 : decode cX8_mix 20 = .ok (.ifCond .ne 10, 3) := by decide +kernel
theorem dX8_mix_23 : decode cX8_mix 23 = .ok (.aload_n 0, 1) := by decide +kernel
theorem dX8_mix_24 : decode cX8_mix 24 = .ok (.ldc 92, 2) := by decide +kernel
theorem dX8_mix_26 : decode cX8_mix 26 = .ok (.invokevirtual 102, 3) := by decide +kernel
theorem dX8_mix_29 : decode cX8_mix 29 = .ok (.ireturn, 1) := by decide +kernel
theorem dX8_mix_30 : decode cX8_mix 30 = .ok (.iconst 0, 1) := by decide +kernel
theorem dX8_mix_31 : decode cX8_mix 31 = .ok (.istore 4, 2) := by decide +kernel
theorem dX8_mix_33 : decode cX8_mix 33 = .ok (.iload 4, 2) := by decide +kernel
theorem dX8_mix_35 : decode cX8_mix 35 = .ok (.aload_n 0, 1) := by decide +kernel
theorem dX8_mix_36 : decode cX8_mix 36 = .ok (.getfield 13, 3) := by decide +kernel
theorem dX8_mix_39 : decode cX8_mix 39 = .ok (.if_icmp .ge 54, 3) := by decide +kernel
theorem dX8_mix_42 : decode cX8_mix 42 = .ok (.aload_n 0, 1) := by decide +kernel
theorem dX8_mix_43 : decode cX8_mix 43 = .ok (.getfield 26, 3) := by decide +kernel
theorem dX8_mix_46 : decode cX8_mix 46 = .ok (.iconst 4, 1) := by decide +kernel
theorem dX8_mix_47 : decode cX8_mix 47 = .ok (.iload_n 2, 1) := by decide +kernel
theorem dX8_mix_48 : decode cX8_mix 48 = .ok (.imul, 1) := by decide +kernel
theorem dX8_mix_49 : decode cX8_mix 49 = .ok (.iload 4, 2) := by decide +kernel
theorem dX8_mix_51 : decode cX8_mix 51 = .ok (.iadd, 1) := by decide +kernel
theorem dX8_mix_52 : decode cX8_mix 52 = .ok (.iaload, 1) := by decide +kernel
theorem dX8_mix_53 : decode cX8_mix 53 = .ok (.iload_n 3, 1) := by decide +kernel
theorem dX8_mix_54 : decode cX8_mix 54 = .ok (.aload_n 0, 1) := by decide +kernel
theorem dX8_mix_55 : decode cX8_mix 55 = .ok (.getfield 26, 3) := by decide +kernel
theorem dX8_mix_58 : decode cX8_mix 58 = .ok (.iconst 4, 1) := by decide +kernel
theorem dX8_mix_59 : decode cX8_mix 59 = .ok (.iload_n 1, 1) := by decide +kernel
theorem dX8_mix_60 : decode cX8_mix 60 = .ok (.imul, 1) := by decide +kernel
theorem dX8_mix_61 : decode cX8_mix 61 = .ok (.iload 4, 2) := by decide +kernel
theorem dX8_mix_63 : decode cX8_mix 63 = .ok (.iadd, 1) := by decide +kernel
theorem dX8_mix_64 : decode cX8_mix 64 = .ok (.iaload, 1) := by decide +kernel
theorem dX8_mix_65 : decode cX8_mix 65 = .ok (.imul, 1) := by decide +kernel
theorem dX8_mix_66 : decode cX8_mix 66 = .ok (.iadd, 1) := by decide +kernel
theorem dX8_mix_67 : decode cX8_mix 67 = .ok (.i2l, 1) := by decide +kernel
theorem dX8_mix_68 : decode cX8_mix 68 = .ok (.ldc2_w 273, 3) := by decide +kernel
theorem dX8_mix_71 : decode cX8_mix 71 = .ok (.ldc2_w 100, 3) := by decide +kernel
theorem dX8_mix_74 : decode cX8_mix 74 = .ok (.invokestatic 93, 3) := by decide +kernel
theorem dX8_mix_77 : decode cX8_mix 77 = .ok (.ifCond .ne 10, 3) := by decide +kernel
theorem dX8_mix_80 : decode cX8_mix 80 = .ok (.aload_n 0, 1) := by decide +kernel
theorem dX8_mix_81 : decode cX8_mix 81 = .ok (.ldc 207, 2) := by decide +kernel
theorem dX8_mix_83 : decode cX8_mix 83 = .ok (.invokevirtual 102, 3) := by decide +kernel
theorem dX8_mix_86 : decode cX8_mix 86 = .ok (.ireturn, 1) := by decide +kernel
theorem dX8_mix_87 : decode cX8_mix 87 = .ok (.iinc 4 1, 3) := by decide +kernel
theorem dX8_mix_90 : decode cX8_mix 90 = .ok (.goto (-57), 3) := by decide +kernel
theorem dX8_mix_93 : decode cX8_mix 93 = .ok (.iconst 0, 1) := by decide +kernel
theorem dX8_mix_94 : decode cX8_mix 94 = .ok (.istore 4, 2) := by decide +kernel
theorem dX8_mix_96 : decode cX8_mix 96 = .ok (.iload 4, 2) := by decide +kernel
theorem dX8_mix_98 : decode cX8_mix 98 = .ok (.aload_n 0, 1) := by decide +kernel
theorem dX8_mix_99 : decode cX8_mix 99 = .ok (.getfield 13, 3) := by decide +kernel
theorem dX8_mix_102 : decode cX8_mix 102 = .ok (.if_icmp .ge 36, 3) := by decide +kernel
theorem dX8_mix_105 : decode cX8_mix 105 = .ok (.aload_n 0, 1) := by decide +kernel
theorem dX8_mix_106 : decode cX8_mix 106 = .ok (.getfield 26, 3) := by decide +kernel
theorem dX8_mix_109 : decode cX8_mix 109 = .ok (.iconst 4, 1) := by decide +kernel
theorem dX8_mix_110 : decode cX8_mix 110 = .ok (.iload_n 2, 1) := by decide +kernel
theorem dX8_mix_111 : decode cX8_mix 111 = .ok (.imul, 1) := by decide +kernel
theorem dX8_mix_112 : decode cX8_mix 112 = .ok (.iload 4, 2) := by decide +kernel
theorem dX8_mix_114 : decode cX8_mix 114 = .ok (.iadd, 1) := by decide +kernel
theorem dX8_mix_115 : decode cX8_mix 115 = .ok (.dup2, 1) := by decide +kernel
theorem dX8_mix_116 : decode cX8_mix 116 = .ok (.iaload, 1) := by decide +kernel
theorem dX8_mix_117 : decode cX8_mix 117 = .ok (.iload_n 3, 1) := by decide +kernel
theorem dX8_mix_118 : decode cX8_mix 118 = .ok (.aload_n 0, 1) := by decide +kernel
theorem dX8_mix_119 : decode cX8_mix 119 = .ok (.getfield 26, 3) := by decide +kernel
theorem dX8_mix_122 : decode cX8_mix 122 = .ok (.iconst 4, 1) := by decide +kernel
theorem dX8_mix_123 : decode cX8_mix 123 = .ok (.iload_n 1, 1) := by decide +kernel
theorem dX8_mix_124 : decode cX8_mix 124 = .ok (.imul, 1) := by decide +kernel
theorem dX8_mix_125 : decode cX8_mix 125 = .ok (.iload 4, 2) := by decide +kernel
theorem dX8_mix_127 : decode cX8_mix 127 = .ok (.iadd, 1) := by decide +kernel
theorem dX8_mix_128 : decode cX8_mix 128 = .ok (.iaload, 1) := by decide +kernel
theorem dX8_mix_129 : decode cX8_mix 129 = .ok (.imul, 1) := by decide +kernel
theorem dX8_mix_130 : decode cX8_mix 130 = .ok (.iadd, 1) := by decide +kernel
theorem dX8_mix_131 : decode cX8_mix 131 = .ok (.iastore, 1) := by decide +kernel
theorem dX8_mix_132 : decode cX8_mix 132 = .ok (.iinc 4 1, 3) := by decide +kernel
theorem dX8_mix_135 : decode cX8_mix 135 = .ok (.goto (-39), 3) := by decide +kernel
theorem dX8_mix_138 : decode cX8_mix 138 = .ok (.iconst 1, 1) := by decide +kernel
theorem dX8_mix_139 : decode cX8_mix 139 = .ok (.ireturn, 1) := by decide +kernel
theorem dX8_swap_0 : decode cX8_swap 0 = .ok (.aload_n 0, 1) := by decide +kernel
theorem dX8_swap_1 : decode cX8_swap 1 = .ok (.iload_n 1, 1) := by decide +kernel
theorem dX8_swap_2 : decode cX8_swap 2 = .ok (.iload_n 2, 1) := by decide +kernel
theorem dX8_swap_3 : decode cX8_swap 3 = .ok (.invokevirtual 275, 3) := by decide +kernel
theorem dX8_swap_6 : decode cX8_swap 6 = .ok (.ifCond .ne 10, 3) := by decide +kernel
theorem dX8_swap_9 : decode cX8_swap 9 = .ok (.aload_n 0, 1) := by decide +kernel
theorem dX8_swap_10 : decode cX8_swap 10 = .ok (.ldc 92, 2) := by decide +kernel
theorem dX8_swap_12 : decode cX8_swap 12 = .ok (.invokevirtual 102, 3) := by decide +kernel
theorem dX8_swap_15 : decode cX8_swap 15 = .ok (.ireturn, 1) := by decide +kernel
theorem dX8_swap_16 : decode cX8_swap 16 = .ok (.iconst 0, 1) := by decide +kernel
theorem dX8_swap_17 : decode cX8_swap 17 = .ok (.istore_n 3, 1) := by decide +kernel
theorem dX8_swap_18 : decode cX8_swap 18 = .ok (.iload_n 3, 1) := by decide +kernel
theorem dX8_swap_19 : decode cX8_swap 19 = .ok (.aload_n 0, 1) := by decide +kernel
theorem dX8_swap_20 : decode cX8_swap 20 = .ok (.getfield 13, 3) := by decide +kernel
theorem dX8_swap_23 : decode cX8_swap 23 = .ok (.if_icmp .ge 53, 3) := by decide +kernel
theorem dX8_swap_26 : decode cX8_swap 26 = .ok (.aload_n 0, 1) := by decide +kernel
theorem dX8_swap_27 : decode cX8_swap 27 = .ok (.getfield 26, 3) := by decide +kernel
theorem dX8_swap_30 : decode cX8_swap 30 = .ok (.iconst 4, 1) := by decide +kernel
theorem dX8_swap_31 : decode cX8_swap 31 = .ok (.iload_n 1, 1) := by decide +kernel
theorem dX8_swap_32 : decode cX8_swap 32 = .ok (.imul, 1) := by decide +kernel
theorem dX8_swap_33 : decode cX8_swap 33 = .ok (.iload_n 3, 1) := by decide +kernel
theorem dX8_swap_34 : decode cX8_swap 34 = .ok (.iadd, 1) := by decide +kernel
theorem dX8_swap_35 : decode cX8_swap 35 = .ok (.iaload, 1) := by decide +kernel
theorem dX8_swap_36 : decode cX8_swap 36 = .ok (.istore 4, 2) := by decide +kernel
theorem dX8_swap_38 : decode cX8_swap 38 = .ok (.aload_n 0, 1) := by decide +kernel
theorem dX8_swap_39 : decode cX8_swap 39 = .ok (.getfield 26, 3) := by decide +kernel
theorem dX8_swap_42 : decode cX8_swap 42 = .ok (.iconst 4, 1) := by decide +kernel
theorem dX8_swap_43 : decode cX8_swap 43 = .ok (.iload_n 1, 1) := by decide +kernel
theorem dX8_swap_44 : decode cX8_swap 44 = .ok (.imul, 1) := by decide +kernel
theorem dX8_swap_45 : decode cX8_swap 45 = .ok (.iload_n 3, 1) := by decide +kernel
theorem dX8_swap_46 : decode cX8_swap 46 = .ok (.iadd, 1) := by decide +kernel
theorem dX8_swap_47 : decode cX8_swap 47 = .ok (.aload_n 0, 1) := by decide +kernel
theorem dX8_swap_48 : decode cX8_swap 48 = .ok (.getfield 26, 3) := by decide +kernel
theorem dX8_swap_51 : decode cX8_swap 51 = .ok (.iconst 4, 1) := by decide +kernel
theorem dX8_swap_52 : decode cX8_swap 52 = .ok (.iload_n 2, 1) := by decide +kernel
theorem dX8_swap_53 : decode cX8_swap 53 = .ok (.imul, 1) := by decide +kernel
theorem dX8_swap_54 : decode cX8_swap 54 = .ok (.iload_n 3, 1) := by decide +kernel
theorem dX8_swap_55 : decode cX8_swap 55 = .ok (.iadd, 1) := by decide +kernel
theorem dX8_swap_56 : decode cX8_swap 56 = .ok (.iaload, 1) := by decide +kernel
theorem dX8_swap_57 : decode cX8_swap 57 = .ok (.iastore, 1) := by decide +kernel
theorem dX8_swap_58 : decode cX8_swap 58 = .ok (.aload_n 0, 1) := by decide +kernel
theorem dX8_swap_59 : decode cX8_swap 59 = .ok (.getfield 26, 3) := by decide +kernel
theorem dX8_swap_62 : decode cX8_swap 62 = .ok (.iconst 4, 1) := by decide +kernel
theorem dX8_swap_63 : decode cX8_swap 63 = .ok (.iload_n 2, 1) := by decide +kernel
theorem dX8_swap_64 : decode cX8_swap 64 = .ok (.imul, 1) := by decide +kernel
theorem dX8_swap_65 : decode cX8_swap 65 = .ok (.iload_n 3, 1) := by decide +kernel
theorem dX8_swap_66 : decode cX8_swap 66 = .ok (.iadd, 1) := by decide +kernel
theorem dX8_swap_67 : decode cX8_swap 67 = .ok (.iload 4, 2) := by decide +kernel
theorem dX8_swap_69 : decode cX8_swap 69 = .ok (.iastore, 1) := by decide +kernel
theorem dX8_swap_70 : decode cX8_swap 70 = .ok (.iinc 3 1, 3) := by decide +kernel
theorem dX8_swap_73 : decode cX8_swap 73 = .ok (.goto (-55), 3) := by decide +kernel
theorem dX8_swap_76 : decode cX8_swap 76 = .ok (.iconst 1, 1) := by decide +kernel
theorem dX8_swap_77 : decode cX8_swap 77 = .ok (.ireturn, 1) := by decide +kernel
theorem dX8_changesRows_0 : decode cX8_changesRows 0 = .ok (.iconst 0, 1) := by decide +kernel
theorem dX8_changesRows_1 : decode cX8_changesRows 1 = .ok (.istore_n 3, 1) := by decide +kernel
theorem dX8_changesRows_2 : decode cX8_changesRows 2 = .ok (.iload_n 3, 1) := by decide +kernel
theorem dX8_changesRows_3 : decode cX8_changesRows 3 = .ok (.aload_n 0, 1) := by decide +kernel
theorem dX8_changesRows_4 : decode cX8_changesRows 4 = .ok (.getfield 13, 3) := by decide +kernel
theorem dX8_changesRows_7 : decode cX8_changesRows 7 = .ok (.if_icmp .ge 53, 3) := by decide +kernel
theorem dX8_changesRows_10 : decode cX8_changesRows 10 = .ok (.aload_n 0, 1) := by decide +kernel
theorem dX8_changesRows_11 : decode cX8_changesRows 11 = .ok (.getfield 55, 3) := by decide +kernel
theorem dX8_changesRows_14 : decode cX8_changesRows 14 = .ok (.iconst 4, 1) := by decide +kernel
theorem dX8_changesRows_15 : decode cX8_changesRows 15 = .ok (.iload_n 1, 1) := by decide +kernel
theorem dX8_changesRows_16 : decode cX8_changesRows 16 = .ok (.imul, 1) := by decide +kernel
theorem dX8_changesRows_17 : decode cX8_changesRows 17 = .ok (.iload_n 3, 1) := by decide +kernel
theorem dX8_changesRows_18 : decode cX8_changesRows 18 = .ok (.iadd, 1) := by decide +kernel
theorem dX8_changesRows_19 : decode cX8_changesRows 19 = .ok (.iaload, 1) := by decide +kernel
theorem dX8_changesRows_20 : decode cX8_changesRows 20 = .ok (.istore 4, 2) := by decide +kernel
theorem dX8_changesRows_22 : decode cX8_changesRows 22 = .ok (.aload_n 0, 1) := by decide +kernel
theorem dX8_changesRows_23 : decode cX8_changesRows 23 = .ok (.getfield 55, 3) := by decide +kernel
theorem dX8_changesRows_26 : decode cX8_changesRows 26 = .ok (.iconst 4, 1) := by decide +kernel
theorem dX8_changesRows_27 : decode cX8_changesRows 27 = .ok (.iload_n 1, 1) := by decide +kernel
theorem dX8_changesRows_28 : decode cX8_changesRows 28 = .ok (.imul, 1) := by decide +kernel
theorem dX8_changesRows_29 : decode cX8_changesRows 29 = .ok (.iload_n 3, 1) := by decide +kernel
theorem dX8_changesRows_30 : decode cX8_changesRows 30 = .ok (.iadd, 1) := by decide +kernel
theorem dX8_changesRows_31 : decode cX8_changesRows 31 = .ok (.aload_n 0, 1) := by decide +kernel
theorem dX8_changesRows_32 : decode cX8_changesRows 32 = .ok (.getfield 55, 3) := by decide +kernel
theorem dX8_changesRows_35 : decode cX8_changesRows 35 = .ok (.iconst 4, 1) := by decide +kernel
theorem dX8_changesRows_36 : decode cX8_changesRows 36 = .ok (.iload_n 2, 1) := by decide +kernel
theorem dX8_changesRows_37 : decode cX8_changesRows 37 = .ok (.imul, 1) := by decide +kernel
theorem dX8_changesRows_38 : decode cX8_changesRows 38 = .ok (.iload_n 3, 1) := by decide +kernel
theorem dX8_changesRows_39 : decode cX8_changesRows 39 = .ok (.iadd, 1) := by decide +kernel
theorem dX8_changesRows_40 : decode cX8_changesRows 40 = .ok (.iaload, 1) := by decide +kernel
theorem dX8_changesRows_41 : decode cX8_changesRows 41 = .ok (.iastore, 1) := by decide +kernel
theorem dX8_changesRows_42 : decode cX8_changesRows 42 = .ok (.aload_n 0, 1) := by decide +kernel
theorem dX8_changesRows_43 : decode cX8_changesRows 43 = .ok (.getfield 55, 3) := by decide +kernel
theorem dX8_changesRows_46 : decode cX8_changesRows 46 = .ok (.iconst 4, 1) := by decide +kernel
theorem dX8_changesRows_47 : decode cX8_changesRows 47 = .ok (.iload_n 2, 1) := by decide +kernel
theorem dX8_changesRows_48 : decode cX8_changesRows 48 = .ok (.imul, 1) := by decide +kernel
theorem dX8_changesRows_49 : decode cX8_changesRows 49 = .ok (.iload_n 3, 1) := by decide +kernel
theorem dX8_changesRows_50 : decode cX8_changesRows 50 = .ok (.iadd, 1) := by decide +kernel
theorem dX8_changesRows_51 : decode cX8_changesRows 51 = .ok (.iload 4, 2) := by decide +kernel
theorem dX8_changesRows_53 : decode cX8_changesRows 53 = .ok (.iastore, 1) := by decide +kernel
theorem dX8_changesRows_54 : decode cX8_changesRows 54 = .ok (.iinc 3 1, 3) := by decide +kernel
theorem dX8_changesRows_57 : decode cX8_changesRows 57 = .ok (.goto (-55), 3) := by decide +kernel
theorem dX8_changesRows_60 : decode cX8_changesRows 60 = .ok (.aload_n 0, 1) := by decide +kernel
theorem dX8_changesRows_61 : decode cX8_changesRows 61 = .ok (.aload_n 0, 1) := by decide +kernel
theorem dX8_changesRows_62 : decode cX8_changesRows 62 = .ok (.getfield 280, 3) := by decide +kernel
theorem dX8_changesRows_65 : decode cX8_changesRows 65 = .ok (.ineg, 1) := by decide +kernel
theorem dX8_changesRows_66 : decode cX8_changesRows 66 = .ok (.putfield 280, 3) := by decide +kernel
theorem dX8_changesRows_69 : decode cX8_changesRows 69 = .ok (.return_, 1) := by decide +kernel
theorem dX8_takesOff_0 : decode cX8_takesOff 0 = .ok (.iconst 0, 1) := by decide +kernel
theorem dX8_takesOff_1 : decode cX8_takesOff 1 = .ok (.istore 4, 2) := by decide +kernel
theorem dX8_takesOff_3 : decode cX8_takesOff 3 = .ok (.iload 4, 2) := by decide +kernel
theorem dX8_takesOff_5 : decode cX8_takesOff 5 = .ok (.aload_n 0, 1) := by decide +kernel
theorem dX8_takesOff_6 : decode cX8_takesOff 6 = .ok (.getfield 13, 3) := by decide +kernel
theorem dX8_takesOff_9 : decode cX8_takesOff 9 = .ok (.if_icmp .ge 36, 3) := by decide +kernel
theorem dX8_takesOff_12 : decode cX8_takesOff 12 = .ok (.aload_n 0, 1) := by decide +kernel
theorem dX8_takesOff_13 : decode cX8_takesOff 13 = .ok (.getfield 55, 3) := by decide +kernel
theorem dX8_takesOff_16 : decode cX8_takesOff 16 = .ok (.iconst 4, 1) := by decide +kernel
theorem dX8_takesOff_17 : decode cX8_takesOff 17 = .ok (.iload_n 1, 1) := by decide +kernel
theorem dX8_takesOff_18 : decode cX8_takesOff 18 = .ok (.imul, 1) := by decide +kernel
theorem dX8_takesOff_19 : decode cX8_takesOff 19 = .ok (.iload 4, 2) := by decide +kernel
theorem dX8_takesOff_21 : decode cX8_takesOff 21 = .ok (.iadd, 1) := by decide +kernel
theorem dX8_takesOff_22 : decode cX8_takesOff 22 = .ok (.dup2, 1) := by decide +kernel
theorem dX8_takesOff_23 : decode cX8_takesOff 23 = .ok (.iaload, 1) := by decide +kernel
theorem dX8_takesOff_24 : decode cX8_takesOff 24 = .ok (.iload_n 3, 1) := by decide +kernel
theorem dX8_takesOff_25 : decode cX8_takesOff 25 = .ok (.aload_n 0, 1) := by decide +kernel
theorem dX8_takesOff_26 : decode cX8_takesOff 26 = .ok (.getfield 55, 3) := by decide +kernel
theorem dX8_takesOff_29 : decode cX8_takesOff 29 = .ok (.iconst 4, 1) := by decide +kernel
theorem dX8_takesOff_30 : decode cX8_takesOff 30 = .ok (.iload_n 2, 1) := by decide +kernel
theorem dX8_takesOff_31 : decode cX8_takesOff 31 = .ok (.imul, 1) := by decide +kernel
theorem dX8_takesOff_32 : decode cX8_takesOff 32 = .ok (.iload 4, 2) := by decide +kernel
theorem dX8_takesOff_34 : decode cX8_takesOff 34 = .ok (.iadd, 1) := by decide +kernel
theorem dX8_takesOff_35 : decode cX8_takesOff 35 = .ok (.iaload, 1) := by decide +kernel
theorem dX8_takesOff_36 : decode cX8_takesOff 36 = .ok (.imul, 1) := by decide +kernel
theorem dX8_takesOff_37 : decode cX8_takesOff 37 = .ok (.isub, 1) := by decide +kernel
theorem dX8_takesOff_38 : decode cX8_takesOff 38 = .ok (.iastore, 1) := by decide +kernel
theorem dX8_takesOff_39 : decode cX8_takesOff 39 = .ok (.iinc 4 1, 3) := by decide +kernel
theorem dX8_takesOff_42 : decode cX8_takesOff 42 = .ok (.goto (-39), 3) := by decide +kernel
theorem dX8_takesOff_45 : decode cX8_takesOff 45 = .ok (.return_, 1) := by decide +kernel
theorem dX8_clears_0 : decode cX8_clears 0 = .ok (.iload_n 1, 1) := by decide +kernel
theorem dX8_clears_1 : decode cX8_clears 1 = .ok (.istore_n 2, 1) := by decide +kernel
theorem dX8_clears_2 : decode cX8_clears 2 = .ok (.iload_n 2, 1) := by decide +kernel
theorem dX8_clears_3 : decode cX8_clears 3 = .ok (.aload_n 0, 1) := by decide +kernel
theorem dX8_clears_4 : decode cX8_clears 4 = .ok (.getfield 13, 3) := by decide +kernel
theorem dX8_clears_7 : decode cX8_clears 7 = .ok (.if_icmp .ge 41, 3) := by decide +kernel
theorem dX8_clears_10 : decode cX8_clears 10 = .ok (.aload_n 0, 1) := by decide +kernel
