theorem dX6_uneven_77 : decode cX6_uneven 77 = .ok (.istore 9, 2) := by decide +kernel
theorem dX6_uneven_79 : decode cX6_uneven 79 = .ok (.iload 9, 2) := by decide +kernel
theorem dX6_uneven_81 : decode cX6_uneven 81 = .ok (.aload_n 0, 1) := by decide +kernel
theorem dX6_uneven_82 : decode cX6_uneven 82 = .ok (.getfield 7, 3) := by decide +kernel
theorem dX6_uneven_85 : decode cX6_uneven 85 = .ok (.iload_n 1, 1) := by decide +kernel
theorem dX6_uneven_86 : decode cX6_uneven 86 = .ok (.iaload, 1) := by decide +kernel
theorem dX6_uneven_87 : decode cX6_uneven 87 = .ok (.if_icmp .ge 49, 3) := by decide +kernel
theorem dX6_uneven_90 : decode cX6_uneven 90 = .ok (.aload_n 0, 1) := by decide +kernel
theorem dX6_uneven_91 : decode cX6_uneven 91 = .ok (.getfield 7, 3) := by decide +kernel
theorem dX6_uneven_94 : decode cX6_uneven 94 = .ok (.iload_n 1, 1) := by decide +kernel
theorem dX6_uneven_95 : decode cX6_uneven 95 = .ok (.iaload, 1) := by decide +kernel
theorem dX6_uneven_96 : decode cX6_uneven 96 = .ok (.i2l, 1) := by decide +kernel
theorem dX6_uneven_97 : decode cX6_uneven 97 = .ok (.aload_n 0, 1) := by decide +kernel
theorem dX6_uneven_98 : decode cX6_uneven 98 = .ok (.getfield 44, 3) := by decide +kernel
theorem dX6_uneven_101 : decode cX6_uneven 101 = .ok (.iload 9, 2) := by decide +kernel
theorem dX6_uneven_103 : decode cX6_uneven 103 = .ok (.laload, 1) := by decide +kernel
theorem dX6_uneven_104 : decode cX6_uneven 104 = .ok (.lmul, 1) := by decide +kernel
theorem dX6_uneven_105 : decode cX6_uneven 105 = .ok (.lload 5, 2) := by decide +kernel
theorem dX6_uneven_107 : decode cX6_uneven 107 = .ok (.lsub, 1) := by decide +kernel
theorem dX6_uneven_108 : decode cX6_uneven 108 = .ok (.lstore 10, 2) := by decide +kernel
theorem dX6_uneven_110 : decode cX6_uneven 110 = .ok (.lload 7, 2) := by decide +kernel
theorem dX6_uneven_112 : decode cX6_uneven 112 = .ok (.lload 10, 2) := by decide +kernel
theorem dX6_uneven_114 : decode cX6_uneven 114 = .ok (.lconst 0, 1) := by decide +kernel
theorem dX6_uneven_115 : decode cX6_uneven 115 = .ok (.lcmp, 1) := by decide +kernel
theorem dX6_uneven_116 : decode cX6_uneven 116 = .ok (.ifCond .ge 9, 3) := by decide +kernel
theorem dX6_uneven_119 : decode cX6_uneven 119 = .ok (.lload 10, 2) := by decide +kernel
theorem dX6_uneven_121 : decode cX6_uneven 121 = .ok (.lneg, 1) := by decide +kernel
theorem dX6_uneven_122 : decode cX6_uneven 122 = .ok (.goto 5, 3) := by decide +kernel
theorem dX6_uneven_125 : decode cX6_uneven 125 = .ok (.lload 10, 2) := by decide +kernel
theorem dX6_uneven_127 : decode cX6_uneven 127 = .ok (.ladd, 1) := by decide +kernel
theorem dX6_uneven_128 : decode cX6_uneven 128 = .ok (.lstore 7, 2) := by decide +kernel
theorem dX6_uneven_130 : decode cX6_uneven 130 = .ok (.iinc 9 1, 3) := by decide +kernel
theorem dX6_uneven_133 : decode cX6_uneven 133 = .ok (.goto (-54), 3) := by decide +kernel
theorem dX6_uneven_136 : decode cX6_uneven 136 = .ok (.lload 7, 2) := by decide +kernel
theorem dX6_uneven_138 : decode cX6_uneven 138 = .ok (.lreturn, 1) := by decide +kernel
theorem dX6_see_0 : decode cX6_see 0 = .ok (.aload_n 0, 1) := by decide +kernel
theorem dX6_see_1 : decode cX6_see 1 = .ok (.getfield 56, 3) := by decide +kernel
theorem dX6_see_4 : decode cX6_see 4 = .ok (.iload_n 1, 1) := by decide +kernel
theorem dX6_see_5 : decode cX6_see 5 = .ok (.iaload, 1) := by decide +kernel
theorem dX6_see_6 : decode cX6_see 6 = .ok (.bipush (-2), 2) := by decide +kernel
theorem dX6_see_8 : decode cX6_see 8 = .ok (.if_icmp .ne 30, 3) := by decide +kernel
theorem dX6_see_11 : decode cX6_see 11 = .ok (.aload_n 0, 1) := by decide +kernel
theorem dX6_see_12 : decode cX6_see 12 = .ok (.getfield 56, 3) := by decide +kernel
theorem dX6_see_15 : decode cX6_see 15 = .ok (.iload_n 1, 1) := by decide +kernel
theorem dX6_see_16 : decode cX6_see 16 = .ok (.iload_n 2, 1) := by decide +kernel
theorem dX6_see_17 : decode cX6_see 17 = .ok (.iastore, 1) := by decide +kernel
theorem dX6_see_18 : decode cX6_see 18 = .ok (.aload_n 0, 1) := by decide +kernel
theorem dX6_see_19 : decode cX6_see 19 = .ok (.getfield 59, 3) := by decide +kernel
theorem dX6_see_22 : decode cX6_see 22 = .ok (.aload_n 0, 1) := by decide +kernel
theorem dX6_see_23 : decode cX6_see 23 = .ok (.getfield 152, 3) := by decide +kernel
theorem dX6_see_26 : decode cX6_see 26 = .ok (.iload_n 1, 1) := by decide +kernel
theorem dX6_see_27 : decode cX6_see 27 = .ok (.iastore, 1) := by decide +kernel
theorem dX6_see_28 : decode cX6_see 28 = .ok (.aload_n 0, 1) := by decide +kernel
theorem dX6_see_29 : decode cX6_see 29 = .ok (.dup, 1) := by decide +kernel
theorem dX6_see_30 : decode cX6_see 30 = .ok (.getfield 152, 3) := by decide +kernel
theorem dX6_see_33 : decode cX6_see 33 = .ok (.iconst 1, 1) := by decide +kernel
theorem dX6_see_34 : decode cX6_see 34 = .ok (.iadd, 1) := by decide +kernel
theorem dX6_see_35 : decode cX6_see 35 = .ok (.putfield 152, 3) := by decide +kernel
theorem dX6_see_38 : decode cX6_see 38 = .ok (.return_, 1) := by decide +kernel
theorem dX6_isUsed_0 : decode cX6_isUsed 0 = .ok (.aload_n 0, 1) := by decide +kernel
theorem dX6_isUsed_1 : decode cX6_isUsed 1 = .ok (.getfield 155, 3) := by decide +kernel
theorem dX6_isUsed_4 : decode cX6_isUsed 4 = .ok (.iload_n 1, 1) := by decide +kernel
theorem dX6_isUsed_5 : decode cX6_isUsed 5 = .ok (.ishr, 1) := by decide +kernel
theorem dX6_isUsed_6 : decode cX6_isUsed 6 = .ok (.iconst 1, 1) := by decide +kernel
theorem dX6_isUsed_7 : decode cX6_isUsed 7 = .ok (.iand, 1) := by decide +kernel
theorem dX6_isUsed_8 : decode cX6_isUsed 8 = .ok (.iconst 1, 1) := by decide +kernel
theorem dX6_isUsed_9 : decode cX6_isUsed 9 = .ok (.if_icmp .eq 12, 3) := by decide +kernel
theorem dX6_isUsed_12 : decode cX6_isUsed 12 = .ok (.aload_n 0, 1) := by decide +kernel
theorem dX6_isUsed_13 : decode cX6_isUsed 13 = .ok (.getfield 53, 3) := by decide +kernel
theorem dX6_isUsed_16 : decode cX6_isUsed 16 = .ok (.iload_n 1, 1) := by decide +kernel
theorem dX6_isUsed_17 : decode cX6_isUsed 17 = .ok (.iaload, 1) := by decide +kernel
theorem dX6_isUsed_18 : decode cX6_isUsed 18 = .ok (.ifCond .lt 7, 3) := by decide +kernel
theorem dX6_isUsed_21 : decode cX6_isUsed 21 = .ok (.iconst 1, 1) := by decide +kernel
theorem dX6_isUsed_22 : decode cX6_isUsed 22 = .ok (.goto 4, 3) := by decide +kernel
theorem dX6_isUsed_25 : decode cX6_isUsed 25 = .ok (.iconst 0, 1) := by decide +kernel
theorem dX6_isUsed_26 : decode cX6_isUsed 26 = .ok (.ireturn, 1) := by decide +kernel
theorem dX6_oneMore_0 : decode cX6_oneMore 0 = .ok (.aload_n 0, 1) := by decide +kernel
theorem dX6_oneMore_1 : decode cX6_oneMore 1 = .ok (.getfield 7, 3) := by decide +kernel
theorem dX6_oneMore_4 : decode cX6_oneMore 4 = .ok (.iload_n 1, 1) := by decide +kernel
theorem dX6_oneMore_5 : decode cX6_oneMore 5 = .ok (.iaload, 1) := by decide +kernel
theorem dX6_oneMore_6 : decode cX6_oneMore 6 = .ok (.istore 4, 2) := by decide +kernel
theorem dX6_oneMore_8 : decode cX6_oneMore 8 = .ok (.iconst 0, 1) := by decide +kernel
theorem dX6_oneMore_9 : decode cX6_oneMore 9 = .ok (.istore 5, 2) := by decide +kernel
theorem dX6_oneMore_11 : decode cX6_oneMore 11 = .ok (.iload 5, 2) := by decide +kernel
theorem dX6_oneMore_13 : decode cX6_oneMore 13 = .ok (.bipush 20, 2) := by decide +kernel
theorem dX6_oneMore_15 : decode cX6_oneMore 15 = .ok (.if_icmp .ge 18, 3) := by decide +kernel
theorem dX6_oneMore_18 : decode cX6_oneMore 18 = .ok (.aload_n 0, 1) := by decide +kernel
theorem dX6_oneMore_19 : decode cX6_oneMore 19 = .ok (.getfield 56, 3) := by decide +kernel
theorem dX6_oneMore_22 : decode cX6_oneMore 22 = .ok (.iload 5, 2) := by decide +kernel
theorem dX6_oneMore_24 : decode cX6_oneMore 24 = .ok (.bipush (-2), 2) := by decide +kernel
theorem dX6_oneMore_26 : decode cX6_oneMore 26 = .ok (.iastore, 1) := by decide +kernel
theorem dX6_oneMore_27 : decode cX6_oneMore 27 = .ok (.iinc 5 1, 3) := by decide +kernel
theorem dX6_oneMore_30 : decode cX6_oneMore 30 = .ok (.goto (-19), 3) := by decide +kernel
theorem dX6_oneMore_33 : decode cX6_oneMore 33 = .ok (.aload_n 0, 1) := by decide +kernel
theorem dX6_oneMore_34 : decode cX6_oneMore 34 = .ok (.iconst 0, 1) := by decide +kernel
theorem dX6_oneMore_35 : decode cX6_oneMore 35 = .ok (.putfield 152, 3) := by decide +kernel
theorem dX6_oneMore_38 : decode cX6_oneMore 38 = .ok (.iconst 0, 1) := by decide +kernel
theorem dX6_oneMore_39 : decode cX6_oneMore 39 = .ok (.istore 5, 2) := by decide +kernel
theorem dX6_oneMore_41 : decode cX6_oneMore 41 = .ok (.iload 5, 2) := by decide +kernel
theorem dX6_oneMore_43 : decode cX6_oneMore 43 = .ok (.iload 4, 2) := by decide +kernel
theorem dX6_oneMore_45 : decode cX6_oneMore 45 = .ok (.if_icmp .ge 40, 3) := by decide +kernel
theorem dX6_oneMore_48 : decode cX6_oneMore 48 = .ok (.iload_n 2, 1) := by decide +kernel
theorem dX6_oneMore_49 : decode cX6_oneMore 49 = .ok (.iload 5, 2) := by decide +kernel
theorem dX6_oneMore_51 : decode cX6_oneMore 51 = .ok (.ishr, 1) := by decide +kernel
theorem dX6_oneMore_52 : decode cX6_oneMore 52 = .ok (.iconst 1, 1) := by decide +kernel
theorem dX6_oneMore_53 : decode cX6_oneMore 53 = .ok (.iand, 1) := by decide +kernel
theorem dX6_oneMore_54 : decode cX6_oneMore 54 = .ok (.iconst 1, 1) := by decide +kernel
theorem dX6_oneMore_55 : decode cX6_oneMore 55 = .ok (.if_icmp .ne 24, 3) := by decide +kernel
theorem dX6_oneMore_58 : decode cX6_oneMore 58 = .ok (.aload_n 0, 1) := by decide +kernel
theorem dX6_oneMore_59 : decode cX6_oneMore 59 = .ok (.getfield 155, 3) := by decide +kernel
theorem dX6_oneMore_62 : decode cX6_oneMore 62 = .ok (.iload 5, 2) := by decide +kernel
theorem dX6_oneMore_64 : decode cX6_oneMore 64 = .ok (.ishr, 1) := by decide +kernel
theorem dX6_oneMore_65 : decode cX6_oneMore 65 = .ok (.iconst 1, 1) := by decide +kernel
theorem dX6_oneMore_66 : decode cX6_oneMore 66 = .ok (.iand, 1) := by decide +kernel
theorem dX6_oneMore_67 : decode cX6_oneMore 67 = .ok (.ifCond .ne 12, 3) := by decide +kernel
theorem dX6_oneMore_70 : decode cX6_oneMore 70 = .ok (.aload_n 0, 1) := by decide +kernel
theorem dX6_oneMore_71 : decode cX6_oneMore 71 = .ok (.iconst 2, 1) := by decide +kernel
theorem dX6_oneMore_72 : decode cX6_oneMore 72 = .ok (.iload 5, 2) := by decide +kernel
theorem dX6_oneMore_74 : decode cX6_oneMore 74 = .ok (.imul, 1) := by decide +kernel
theorem dX6_oneMore_75 : decode cX6_oneMore 75 = .ok (.iconst (-1), 1) := by decide +kernel
theorem dX6_oneMore_76 : decode cX6_oneMore 76 = .ok (.invokevirtual 158, 3) := by decide +kernel
theorem dX6_oneMore_79 : decode cX6_oneMore 79 = .ok (.iinc 5 1, 3) := by decide +kernel
theorem dX6_oneMore_82 : decode cX6_oneMore 82 = .ok (.goto (-41), 3) := by decide +kernel
theorem dX6_oneMore_85 : decode cX6_oneMore 85 = .ok (.iconst 0, 1) := by decide +kernel
theorem dX6_oneMore_86 : decode cX6_oneMore 86 = .ok (.istore 5, 2) := by decide +kernel
theorem dX6_oneMore_88 : decode cX6_oneMore 88 = .ok (.iload 5, 2) := by decide +kernel
theorem dX6_oneMore_90 : decode cX6_oneMore 90 = .ok (.aload_n 0, 1) := by decide +kernel
theorem dX6_oneMore_91 : decode cX6_oneMore 91 = .ok (.getfield 152, 3) := by decide +kernel
theorem dX6_oneMore_94 : decode cX6_oneMore 94 = .ok (.if_icmp .ge 201, 3) := by decide +kernel
theorem dX6_oneMore_97 : decode cX6_oneMore 97 = .ok (.aload_n 0, 1) := by decide +kernel
theorem dX6_oneMore_98 : decode cX6_oneMore 98 = .ok (.getfield 59, 3) := by decide +kernel
theorem dX6_oneMore_101 : decode cX6_oneMore 101 = .ok (.iload 5, 2) := by decide +kernel
theorem dX6_oneMore_103 : decode cX6_oneMore 103 = .ok (.iaload, 1) := by decide +kernel
theorem dX6_oneMore_104 : decode cX6_oneMore 104 = .ok (.iconst 2, 1) := by decide +kernel
theorem dX6_oneMore_105 : decode cX6_oneMore 105 = .ok (.idiv, 1) := by decide +kernel
theorem dX6_oneMore_106 : decode cX6_oneMore 106 = .ok (.istore 6, 2) := by decide +kernel
theorem dX6_oneMore_108 : decode cX6_oneMore 108 = .ok (.aload_n 0, 1) := by decide +kernel
theorem dX6_oneMore_109 : decode cX6_oneMore 109 = .ok (.getfield 59, 3) := by decide +kernel
theorem dX6_oneMore_112 : decode cX6_oneMore 112 = .ok (.iload 5, 2) := by decide +kernel
theorem dX6_oneMore_114 : decode cX6_oneMore 114 = .ok (.iaload, 1) := by decide +kernel
theorem dX6_oneMore_115 : decode cX6_oneMore 115 = .ok (.iconst 2, 1) := by decide +kernel
theorem dX6_oneMore_116 : decode cX6_oneMore 116 = .ok (.irem, 1) := by decide +kernel
theorem dX6_oneMore_117 : decode cX6_oneMore 117 = .ok (.ifCond .ne 61, 3) := by decide +kernel
theorem dX6_oneMore_120 : decode cX6_oneMore 120 = .ok (.aload_n 0, 1) := by decide +kernel
theorem dX6_oneMore_121 : decode cX6_oneMore 121 = .ok (.iload 6, 2) := by decide +kernel
theorem dX6_oneMore_123 : decode cX6_oneMore 123 = .ok (.invokevirtual 161, 3) := by decide +kernel
theorem dX6_oneMore_126 : decode cX6_oneMore 126 = .ok (.ifCond .ne 20, 3) := by decide +kernel
theorem dX6_oneMore_129 : decode cX6_oneMore 129 = .ok (.aload_n 0, 1) := by decide +kernel
theorem dX6_oneMore_130 : decode cX6_oneMore 130 = .ok (.iconst 2, 1) := by decide +kernel
theorem dX6_oneMore_131 : decode cX6_oneMore 131 = .ok (.iload 6, 2) := by decide +kernel
theorem dX6_oneMore_133 : decode cX6_oneMore 133 = .ok (.imul, 1) := by decide +kernel
theorem dX6_oneMore_134 : decode cX6_oneMore 134 = .ok (.iconst 1, 1) := by decide +kernel
theorem dX6_oneMore_135 : decode cX6_oneMore 135 = .ok (.iadd, 1) := by decide +kernel
theorem dX6_oneMore_136 : decode cX6_oneMore 136 = .ok (.iconst 2, 1) := by decide +kernel
theorem dX6_oneMore_137 : decode cX6_oneMore 137 = .ok (.iload 6, 2) := by decide +kernel
theorem dX6_oneMore_139 : decode cX6_oneMore 139 = .ok (.imul, 1) := by decide +kernel
theorem dX6_oneMore_140 : decode cX6_oneMore 140 = .ok (.invokevirtual 158, 3) := by decide +kernel
theorem dX6_oneMore_143 : decode cX6_oneMore 143 = .ok (.goto 146, 3) := by decide +kernel
theorem dX6_oneMore_146 : decode cX6_oneMore 146 = .ok (.aload_n 0, 1) := by decide +kernel
theorem dX6_oneMore_147 : decode cX6_oneMore 147 = .ok (.getfield 53, 3) := by decide +kernel
theorem dX6_oneMore_150 : decode cX6_oneMore 150 = .ok (.iload 6, 2) := by decide +kernel
theorem dX6_oneMore_152 : decode cX6_oneMore 152 = .ok (.iaload, 1) := by decide +kernel
theorem dX6_oneMore_153 : decode cX6_oneMore 153 = .ok (.ifCond .lt 136, 3) := by decide +kernel
theorem dX6_oneMore_156 : decode cX6_oneMore 156 = .ok (.aload_n 0, 1) := by decide +kernel
theorem dX6_oneMore_157 : decode cX6_oneMore 157 = .ok (.iconst 2, 1) := by decide +kernel
theorem dX6_oneMore_158 : decode cX6_oneMore 158 = .ok (.aload_n 0, 1) := by decide +kernel
theorem dX6_oneMore_159 : decode cX6_oneMore 159 = .ok (.getfield 53, 3) := by decide +kernel
theorem dX6_oneMore_162 : decode cX6_oneMore 162 = .ok (.iload 6, 2) := by decide +kernel
theorem dX6_oneMore_164 : decode cX6_oneMore 164 = .ok (.iaload, 1) := by decide +kernel
theorem dX6_oneMore_165 : decode cX6_oneMore 165 = .ok (.imul, 1) := by decide +kernel
theorem dX6_oneMore_166 : decode cX6_oneMore 166 = .ok (.iconst 1, 1) := by decide +kernel
theorem dX6_oneMore_167 : decode cX6_oneMore 167 = .ok (.iadd, 1) := by decide +kernel
theorem dX6_oneMore_168 : decode cX6_oneMore 168 = .ok (.iconst 2, 1) := by decide +kernel
theorem dX6_oneMore_169 : decode cX6_oneMore 169 = .ok (.iload 6, 2) := by decide +kernel
theorem dX6_oneMore_171 : decode cX6_oneMore 171 = .ok (.imul, 1) := by decide +kernel
theorem dX6_oneMore_172 : decode cX6_oneMore 172 = .ok (.invokevirtual 158, 3) := by decide +kernel
theorem dX6_oneMore_175 : decode cX6_oneMore 175 = .ok (.goto 114, 3) := by decide +kernel
theorem dX6_oneMore_178 : decode cX6_oneMore 178 = .ok (.iload_n 3, 1) := by decide +kernel
theorem dX6_oneMore_179 : decode cX6_oneMore 179 = .ok (.iload 6, 2) := by decide +kernel
theorem dX6_oneMore_181 : decode cX6_oneMore 181 = .ok (.ishr, 1) := by decide +kernel
theorem dX6_oneMore_182 : decode cX6_oneMore 182 = .ok (.iconst 1, 1) := by decide +kernel
theorem dX6_oneMore_183 : decode cX6_oneMore 183 = .ok (.iand, 1) := by decide +kernel
theorem dX6_oneMore_184 : decode cX6_oneMore 184 = .ok (.iconst 1, 1) := by decide +kernel
theorem dX6_oneMore_185 : decode cX6_oneMore 185 = .ok (.if_icmp .ne 27, 3) := by decide +kernel
theorem dX6_oneMore_188 : decode cX6_oneMore 188 = .ok (.aload_n 0, 1) := by decide +kernel
theorem dX6_oneMore_189 : decode cX6_oneMore 189 = .ok (.getfield 164, 3) := by decide +kernel
theorem dX6_oneMore_192 : decode cX6_oneMore 192 = .ok (.iload 6, 2) := by decide +kernel
theorem dX6_oneMore_194 : decode cX6_oneMore 194 = .ok (.ishr, 1) := by decide +kernel
theorem dX6_oneMore_195 : decode cX6_oneMore 195 = .ok (.iconst 1, 1) := by decide +kernel
theorem dX6_oneMore_196 : decode cX6_oneMore 196 = .ok (.iand, 1) := by decide +kernel
theorem dX6_oneMore_197 : decode cX6_oneMore 197 = .ok (.ifCond .ne 15, 3) := by decide +kernel
theorem dX6_oneMore_200 : decode cX6_oneMore 200 = .ok (.aload_n 0, 1) := by decide +kernel
theorem dX6_oneMore_201 : decode cX6_oneMore 201 = .ok (.iconst 2, 1) := by decide +kernel
theorem dX6_oneMore_202 : decode cX6_oneMore 202 = .ok (.iload 6, 2) := by decide +kernel
theorem dX6_oneMore_204 : decode cX6_oneMore 204 = .ok (.imul, 1) := by decide +kernel
theorem dX6_oneMore_205 : decode cX6_oneMore 205 = .ok (.iconst 1, 1) := by decide +kernel
theorem dX6_oneMore_206 : decode cX6_oneMore 206 = .ok (.iadd, 1) := by decide +kernel
theorem dX6_oneMore_207 : decode cX6_oneMore 207 = .ok (.invokevirtual 167, 3) := by decide +kernel
theorem dX6_oneMore_210 : decode cX6_oneMore 210 = .ok (.iconst 1, 1) := by decide +kernel
theorem dX6_oneMore_211 : decode cX6_oneMore 211 = .ok (.ireturn, 1) := by decide +kernel
theorem dX6_oneMore_212 : decode cX6_oneMore 212 = .ok (.aload_n 0, 1) := by decide +kernel
theorem dX6_oneMore_213 : decode cX6_oneMore 213 = .ok (.iload 6, 2) := by decide +kernel
theorem dX6_oneMore_215 : decode cX6_oneMore 215 = .ok (.invokevirtual 161, 3) := by decide +kernel
theorem dX6_oneMore_218 : decode cX6_oneMore 218 = .ok (.ifCond .eq 17, 3) := by decide +kernel
theorem dX6_oneMore_221 : decode cX6_oneMore 221 = .ok (.aload_n 0, 1) := by decide +kernel
theorem dX6_oneMore_222 : decode cX6_oneMore 222 = .ok (.iconst 2, 1) := by decide +kernel
theorem dX6_oneMore_223 : decode cX6_oneMore 223 = .ok (.iload 6, 2) := by decide +kernel
theorem dX6_oneMore_225 : decode cX6_oneMore 225 = .ok (.imul, 1) := by decide +kernel
theorem dX6_oneMore_226 : decode cX6_oneMore 226 = .ok (.iconst 2, 1) := by decide +kernel
theorem dX6_oneMore_227 : decode cX6_oneMore 227 = .ok (.iload 6, 2) := by decide +kernel
theorem dX6_oneMore_229 : decode cX6_oneMore 229 = .ok (.imul, 1) := by decide +kernel
theorem dX6_oneMore_230 : decode cX6_oneMore 230 = .ok (.iconst 1, 1) := by decide +kernel
theorem dX6_oneMore_231 : decode cX6_oneMore 231 = .ok (.iadd, 1) := by decide +kernel
theorem dX6_oneMore_232 : decode cX6_oneMore 232 = .ok (.invokevirtual 158, 3) := by decide +kernel
theorem dX6_oneMore_235 : decode cX6_oneMore 235 = .ok (.iconst 0, 1) := by decide +kernel
theorem dX6_oneMore_236 : decode cX6_oneMore 236 = .ok (.istore 7, 2) := by decide +kernel
theorem dX6_oneMore_238 : decode cX6_oneMore 238 = .ok (.iload 7, 2) := by decide +kernel
theorem dX6_oneMore_240 : decode cX6_oneMore 240 = .ok (.iload 4, 2) := by decide +kernel
theorem dX6_oneMore_242 : decode cX6_oneMore 242 = .ok (.if_icmp .ge 47, 3) := by decide +kernel
theorem dX6_oneMore_245 : decode cX6_oneMore 245 = .ok (.aload_n 0, 1) := by decide +kernel
theorem dX6_oneMore_246 : decode cX6_oneMore 246 = .ok (.iload_n 1, 1) := by decide +kernel
theorem dX6_oneMore_247 : decode cX6_oneMore 247 = .ok (.iload 6, 2) := by decide +kernel
theorem dX6_oneMore_249 : decode cX6_oneMore 249 = .ok (.iload 7, 2) := by decide +kernel
theorem dX6_oneMore_251 : decode cX6_oneMore 251 = .ok (.invokevirtual 85, 3) := by decide +kernel
theorem dX6_oneMore_254 : decode cX6_oneMore 254 = .ok (.ifCond .eq 29, 3) := by decide +kernel
theorem dX6_oneMore_257 : decode cX6_oneMore 257 = .ok (.aload_n 0, 1) := by decide +kernel
theorem dX6_oneMore_258 : decode cX6_oneMore 258 = .ok (.getfield 50, 3) := by decide +kernel
theorem dX6_oneMore_261 : decode cX6_oneMore 261 = .ok (.iload 6, 2) := by decide +kernel
theorem dX6_oneMore_263 : decode cX6_oneMore 263 = .ok (.iaload, 1) := by decide +kernel
theorem dX6_oneMore_264 : decode cX6_oneMore 264 = .ok (.iload 7, 2) := by decide +kernel
theorem dX6_oneMore_266 : decode cX6_oneMore 266 = .ok (.if_icmp .eq 17, 3) := by decide +kernel
theorem dX6_oneMore_269 : decode cX6_oneMore 269 = .ok (.aload_n 0, 1) := by decide +kernel
theorem dX6_oneMore_270 : decode cX6_oneMore 270 = .ok (.iconst 2, 1) := by decide +kernel
theorem dX6_oneMore_271 : decode cX6_oneMore 271 = .ok (.iload 7, 2) := by decide +kernel
theorem dX6_oneMore_273 : decode cX6_oneMore 273 = .ok (.imul, 1) := by decide +kernel
theorem dX6_oneMore_274 : decode cX6_oneMore 274 = .ok (.iconst 2, 1) := by decide +kernel
theorem dX6_oneMore_275 : decode cX6_oneMore 275 = .ok (.iload 6, 2) := by decide +kernel
theorem dX6_oneMore_277 : decode cX6_oneMore 277 = .ok (.imul, 1) := by decide +kernel
theorem dX6_oneMore_278 : decode cX6_oneMore 278 = .ok (.iconst 1, 1) := by decide +kernel
theorem dX6_oneMore_279 : decode cX6_oneMore 279 = .ok (.iadd, 1) := by decide +kernel
theorem dX6_oneMore_280 : decode cX6_oneMore 280 = .ok (.invokevirtual 158, 3) := by decide +kernel
theorem dX6_oneMore_283 : decode cX6_oneMore 283 = .ok (.iinc 7 1, 3) := by decide +kernel
theorem dX6_oneMore_286 : decode cX6_oneMore 286 = .ok (.goto (-48), 3) := by decide +kernel
theorem dX6_oneMore_289 : decode cX6_oneMore 289 = .ok (.iinc 5 1, 3) := by decide +kernel
theorem dX6_oneMore_292 : decode cX6_oneMore 292 = .ok (.goto (-204), 3) := by decide +kernel
theorem dX6_oneMore_295 : decode cX6_oneMore 295 = .ok (.iconst 0, 1) := by decide +kernel
theorem dX6_oneMore_296 : decode cX6_oneMore 296 = .ok (.ireturn, 1) := by decide +kernel
theorem dX6_lay_0 : decode cX6_lay 0 = .ok (.iconst 0, 1) := by decide +kernel
theorem dX6_lay_1 : decode cX6_lay 1 = .ok (.istore_n 2, 1) := by decide +kernel
theorem dX6_lay_2 : decode cX6_lay 2 = .ok (.iload_n 1, 1) := by decide +kernel
theorem dX6_lay_3 : decode cX6_lay 3 = .ok (.istore_n 3, 1) := by decide +kernel
theorem dX6_lay_4 : decode cX6_lay 4 = .ok (.iload_n 3, 1) := by decide +kernel
theorem dX6_lay_5 : decode cX6_lay 5 = .ok (.ifCond .lt 23, 3) := by decide +kernel
theorem dX6_lay_8 : decode cX6_lay 8 = .ok (.aload_n 0, 1) := by decide +kernel
theorem dX6_lay_9 : decode cX6_lay 9 = .ok (.getfield 62, 3) := by decide +kernel
theorem dX6_lay_12 : decode cX6_lay 12 = .ok (.iload_n 2, 1) := by decide +kernel
theorem dX6_lay_13 : decode cX6_lay 13 = .ok (.iload_n 3, 1) := by decide +kernel
theorem dX6_lay_14 : decode cX6_lay 14 = .ok (.iastore, 1) := by decide +kernel
theorem dX6_lay_15 : decode cX6_lay 15 = .ok (.iinc 2 1, 3) := by decide +kernel
theorem dX6_lay_18 : decode cX6_lay 18 = .ok (.aload_n 0, 1) := by decide +kernel
theorem dX6_lay_19 : decode cX6_lay 19 = .ok (.getfield 56, 3) := by decide +kernel
theorem dX6_lay_22 : decode cX6_lay 22 = .ok (.iload_n 3, 1) := by decide +kernel
theorem dX6_lay_23 : decode cX6_lay 23 = .ok (.iaload, 1) := by decide +kernel
theorem dX6_lay_24 : decode cX6_lay 24 = .ok (.istore_n 3, 1) := by decide +kernel
theorem dX6_lay_25 : decode cX6_lay 25 = .ok (.goto (-21), 3) := by decide +kernel
theorem dX6_lay_28 : decode cX6_lay 28 = .ok (.aload_n 0, 1) := by decide +kernel
theorem dX6_lay_29 : decode cX6_lay 29 = .ok (.dup, 1) := by decide +kernel
theorem dX6_lay_30 : decode cX6_lay 30 = .ok (.getfield 164, 3) := by decide +kernel
theorem dX6_lay_33 : decode cX6_lay 33 = .ok (.iconst 1, 1) := by decide +kernel
theorem dX6_lay_34 : decode cX6_lay 34 = .ok (.iload_n 1, 1) := by decide +kernel
theorem dX6_lay_35 : decode cX6_lay 35 = .ok (.iconst 2, 1) := by decide +kernel
theorem dX6_lay_36 : decode cX6_lay 36 = .ok (.idiv, 1) := by decide +kernel
theorem dX6_lay_37 : decode cX6_lay 37 = .ok (.ishl, 1) := by decide +kernel
theorem dX6_lay_38 : decode cX6_lay 38 = .ok (.ior, 1) := by decide +kernel
theorem dX6_lay_39 : decode cX6_lay 39 = .ok (.putfield 164, 3) := by decide +kernel
theorem dX6_lay_42 : decode cX6_lay 42 = .ok (.aload_n 0, 1) := by decide +kernel
theorem dX6_lay_43 : decode cX6_lay 43 = .ok (.dup, 1) := by decide +kernel
theorem dX6_lay_44 : decode cX6_lay 44 = .ok (.getfield 155, 3) := by decide +kernel
theorem dX6_lay_47 : decode cX6_lay 47 = .ok (.iconst 1, 1) := by decide +kernel
theorem dX6_lay_48 : decode cX6_lay 48 = .ok (.aload_n 0, 1) := by decide +kernel
theorem dX6_lay_49 : decode cX6_lay 49 = .ok (.getfield 62, 3) := by decide +kernel
theorem dX6_lay_52 : decode cX6_lay 52 = .ok (.iload_n 2, 1) := by decide +kernel
theorem dX6_lay_53 : decode cX6_lay 53 = .ok (.iconst 1, 1) := by decide +kernel
theorem dX6_lay_54 : decode cX6_lay 54 = .ok (.isub, 1) := by decide +kernel
theorem dX6_lay_55 : decode cX6_lay 55 = .ok (.iaload, 1) := by decide +kernel
theorem dX6_lay_56 : decode cX6_lay 56 = .ok (.iconst 2, 1) := by decide +kernel
theorem dX6_lay_57 : decode cX6_lay 57 = .ok (.idiv, 1) := by decide +kernel
theorem dX6_lay_58 : decode cX6_lay 58 = .ok (.ishl, 1) := by decide +kernel
theorem dX6_lay_59 : decode cX6_lay 59 = .ok (.ior, 1) := by decide +kernel
theorem dX6_lay_60 : decode cX6_lay 60 = .ok (.putfield 155, 3) := by decide +kernel
theorem dX6_lay_63 : decode cX6_lay 63 = .ok (.iload_n 2, 1) := by decide +kernel
theorem dX6_lay_64 : decode cX6_lay 64 = .ok (.iconst 1, 1) := by decide +kernel
theorem dX6_lay_65 : decode cX6_lay 65 = .ok (.isub, 1) := by decide +kernel
theorem dX6_lay_66 : decode cX6_lay 66 = .ok (.istore_n 3, 1) := by decide +kernel
theorem dX6_lay_67 : decode cX6_lay 67 = .ok (.iload_n 3, 1) := by decide +kernel
theorem dX6_lay_68 : decode cX6_lay 68 = .ok (.ifCond .le 65, 3) := by decide +kernel
theorem dX6_lay_71 : decode cX6_lay 71 = .ok (.aload_n 0, 1) := by decide +kernel
theorem dX6_lay_72 : decode cX6_lay 72 = .ok (.getfield 62, 3) := by decide +kernel
theorem dX6_lay_75 : decode cX6_lay 75 = .ok (.iload_n 3, 1) := by decide +kernel
theorem dX6_lay_76 : decode cX6_lay 76 = .ok (.iaload, 1) := by decide +kernel
theorem dX6_lay_77 : decode cX6_lay 77 = .ok (.istore 4, 2) := by decide +kernel
theorem dX6_lay_79 : decode cX6_lay 79 = .ok (.aload_n 0, 1) := by decide +kernel
theorem dX6_lay_80 : decode cX6_lay 80 = .ok (.getfield 62, 3) := by decide +kernel
theorem dX6_lay_83 : decode cX6_lay 83 = .ok (.iload_n 3, 1) := by decide +kernel
theorem dX6_lay_84 : decode cX6_lay 84 = .ok (.iconst 1, 1) := by decide +kernel
theorem dX6_lay_85 : decode cX6_lay 85 = .ok (.isub, 1) := by decide +kernel
theorem dX6_lay_86 : decode cX6_lay 86 = .ok (.iaload, 1) := by decide +kernel
theorem dX6_lay_87 : decode cX6_lay 87 = .ok (.istore 5, 2) := by decide +kernel
theorem dX6_lay_89 : decode cX6_lay 89 = .ok (.iload 4, 2) := by decide +kernel
theorem dX6_lay_91 : decode cX6_lay 91 = .ok (.iconst 2, 1) := by decide +kernel
theorem dX6_lay_92 : decode cX6_lay 92 = .ok (.idiv, 1) := by decide +kernel
theorem dX6_lay_93 : decode cX6_lay 93 = .ok (.iload 5, 2) := by decide +kernel
theorem dX6_lay_95 : decode cX6_lay 95 = .ok (.iconst 2, 1) := by decide +kernel
theorem dX6_lay_96 : decode cX6_lay 96 = .ok (.idiv, 1) := by decide +kernel
theorem dX6_lay_97 : decode cX6_lay 97 = .ok (.if_icmp .eq 30, 3) := by decide +kernel
theorem dX6_lay_100 : decode cX6_lay 100 = .ok (.iload 4, 2) := by decide +kernel
theorem dX6_lay_102 : decode cX6_lay 102 = .ok (.iconst 2, 1) := by decide +kernel
theorem dX6_lay_103 : decode cX6_lay 103 = .ok (.irem, 1) := by decide +kernel
theorem dX6_lay_104 : decode cX6_lay 104 = .ok (.ifCond .ne 23, 3) := by decide +kernel
theorem dX6_lay_107 : decode cX6_lay 107 = .ok (.aload_n 0, 1) := by decide +kernel
theorem dX6_lay_108 : decode cX6_lay 108 = .ok (.getfield 50, 3) := by decide +kernel
theorem dX6_lay_111 : decode cX6_lay 111 = .ok (.iload 5, 2) := by decide +kernel
theorem dX6_lay_113 : decode cX6_lay 113 = .ok (.iconst 2, 1) := by decide +kernel
theorem dX6_lay_114 : decode cX6_lay 114 = .ok (.idiv, 1) := by decide +kernel
theorem dX6_lay_115 : decode cX6_lay 115 = .ok (.iconst (-1), 1) := by decide +kernel
theorem dX6_lay_116 : decode cX6_lay 116 = .ok (.iastore, 1) := by decide +kernel
theorem dX6_lay_117 : decode cX6_lay 117 = .ok (.aload_n 0, 1) := by decide +kernel
theorem dX6_lay_118 : decode cX6_lay 118 = .ok (.getfield 53, 3) := by decide +kernel
theorem dX6_lay_121 : decode cX6_lay 121 = .ok (.iload 4, 2) := by decide +kernel
theorem dX6_lay_123 : decode cX6_lay 123 = .ok (.iconst 2, 1) := by decide +kernel
theorem dX6_lay_124 : decode cX6_lay 124 = .ok (.idiv, 1) := by decide +kernel
theorem dX6_lay_125 : decode cX6_lay 125 = .ok (.iconst (-1), 1) := by decide +kernel
theorem dX6_lay_126 : decode cX6_lay 126 = .ok (.iastore, 1) := by decide +kernel
theorem dX6_lay_127 : decode cX6_lay 127 = .ok (.iinc 3 (-1), 3) := by decide +kernel
theorem dX6_lay_130 : decode cX6_lay 130 = .ok (.goto (-63), 3) := by decide +kernel
theorem dX6_lay_133 : decode cX6_lay 133 = .ok (.iload_n 2, 1) := by decide +kernel
theorem dX6_lay_134 : decode cX6_lay 134 = .ok (.iconst 1, 1) := by decide +kernel
theorem dX6_lay_135 : decode cX6_lay 135 = .ok (.isub, 1) := by decide +kernel
theorem dX6_lay_136 : decode cX6_lay 136 = .ok (.istore_n 3, 1) := by decide +kernel
theorem dX6_lay_137 : decode cX6_lay 137 = .ok (.iload_n 3, 1) := by decide +kernel
theorem dX6_lay_138 : decode cX6_lay 138 = .ok (.ifCond .le 72, 3) := by decide +kernel
theorem dX6_lay_141 : decode cX6_lay 141 = .ok (.aload_n 0, 1) := by decide +kernel
theorem dX6_lay_142 : decode cX6_lay 142 = .ok (.getfield 62, 3) := by decide +kernel
theorem dX6_lay_145 : decode cX6_lay 145 = .ok (.iload_n 3, 1) := by decide +kernel
theorem dX6_lay_146 : decode cX6_lay 146 = .ok (.iaload, 1) := by decide +kernel
theorem dX6_lay_147 : decode cX6_lay 147 = .ok (.istore 4, 2) := by decide +kernel
theorem dX6_lay_149 : decode cX6_lay 149 = .ok (.aload_n 0, 1) := by decide +kernel
theorem dX6_lay_150 : decode cX6_lay 150 = .ok (.getfield 62, 3) := by decide +kernel
theorem dX6_lay_153 : decode cX6_lay 153 = .ok (.iload_n 3, 1) := by decide +kernel
theorem dX6_lay_154 : decode cX6_lay 154 = .ok (.iconst 1, 1) := by decide +kernel
theorem dX6_lay_155 : decode cX6_lay 155 = .ok (.isub, 1) := by decide +kernel
theorem dX6_lay_156 : decode cX6_lay 156 = .ok (.iaload, 1) := by decide +kernel
theorem dX6_lay_157 : decode cX6_lay 157 = .ok (.istore 5, 2) := by decide +kernel
theorem dX6_lay_159 : decode cX6_lay 159 = .ok (.iload 4, 2) := by decide +kernel
theorem dX6_lay_161 : decode cX6_lay 161 = .ok (.iconst 2, 1) := by decide +kernel
theorem dX6_lay_162 : decode cX6_lay 162 = .ok (.idiv, 1) := by decide +kernel
theorem dX6_lay_163 : decode cX6_lay 163 = .ok (.iload 5, 2) := by decide +kernel
theorem dX6_lay_165 : decode cX6_lay 165 = .ok (.iconst 2, 1) := by decide +kernel
theorem dX6_lay_166 : decode cX6_lay 166 = .ok (.idiv, 1) := by decide +kernel
theorem dX6_lay_167 : decode cX6_lay 167 = .ok (.if_icmp .eq 37, 3) := by decide +kernel
theorem dX6_lay_170 : decode cX6_lay 170 = .ok (.iload 4, 2) := by decide +kernel
theorem dX6_lay_172 : decode cX6_lay 172 = .ok (.iconst 2, 1) := by decide +kernel
theorem dX6_lay_173 : decode cX6_lay 173 = .ok (.irem, 1) := by decide +kernel
theorem dX6_lay_174 : decode cX6_lay 174 = .ok (.iconst 1, 1) := by decide +kernel
theorem dX6_lay_175 : decode cX6_lay 175 = .ok (.if_icmp .ne 29, 3) := by decide +kernel
theorem dX6_lay_178 : decode cX6_lay 178 = .ok (.aload_n 0, 1) := by decide +kernel
theorem dX6_lay_179 : decode cX6_lay 179 = .ok (.getfield 50, 3) := by decide +kernel
theorem dX6_lay_182 : decode cX6_lay 182 = .ok (.iload 4, 2) := by decide +kernel
theorem dX6_lay_184 : decode cX6_lay 184 = .ok (.iconst 2, 1) := by decide +kernel
theorem dX6_lay_185 : decode cX6_lay 185 = .ok (.idiv, 1) := by decide +kernel
theorem dX6_lay_186 : decode cX6_lay 186 = .ok (.iload 5, 2) := by decide +kernel
theorem dX6_lay_188 : decode cX6_lay 188 = .ok (.iconst 2, 1) := by decide +kernel
theorem dX6_lay_189 : decode cX6_lay 189 = .ok (.idiv, 1) := by decide +kernel
theorem dX6_lay_190 : decode cX6_lay 190 = .ok (.iastore, 1) := by decide +kernel
theorem dX6_lay_191 : decode cX6_lay 191 = .ok (.aload_n 0, 1) := by decide +kernel
theorem dX6_lay_192 : decode cX6_lay 192 = .ok (.getfield 53, 3) := by decide +kernel
theorem dX6_lay_195 : decode cX6_lay 195 = .ok (.iload 5, 2) := by decide +kernel
theorem dX6_lay_197 : decode cX6_lay 197 = .ok (.iconst 2, 1) := by decide +kernel
theorem dX6_lay_198 : decode cX6_lay 198 = .ok (.idiv, 1) := by decide +kernel
theorem dX6_lay_199 : decode cX6_lay 199 = .ok (.iload 4, 2) := by decide +kernel
theorem dX6_lay_201 : decode cX6_lay 201 = .ok (.iconst 2, 1) := by decide +kernel
theorem dX6_lay_202 : decode cX6_lay 202 = .ok (.idiv, 1) := by decide +kernel
theorem dX6_lay_203 : decode cX6_lay 203 = .ok (.iastore, 1) := by decide +kernel
theorem dX6_lay_204 : decode cX6_lay 204 = .ok (.iinc 3 (-1), 3) := by decide +kernel
theorem dX6_lay_207 : decode cX6_lay 207 = .ok (.goto (-70), 3) := by decide +kernel
theorem dX6_lay_210 : decode cX6_lay 210 = .ok (.return_, 1) := by decide +kernel
theorem dX6_apart_0 : decode cX6_apart 0 = .ok (.iload_n 1, 1) := by decide +kernel
theorem dX6_apart_1 : decode cX6_apart 1 = .ok (.invokestatic 69, 3) := by decide +kernel
theorem dX6_apart_4 : decode cX6_apart 4 = .ok (.ifCond .eq 39, 3) := by decide +kernel
theorem dX6_apart_7 : decode cX6_apart 7 = .ok (.iload_n 2, 1) := by decide +kernel
theorem dX6_apart_8 : decode cX6_apart 8 = .ok (.iconst 0, 1) := by decide +kernel
theorem dX6_apart_9 : decode cX6_apart 9 = .ok (.iconst 1, 1) := by decide +kernel
theorem dX6_apart_10 : decode cX6_apart 10 = .ok (.aload_n 0, 1) := by decide +kernel
theorem dX6_apart_11 : decode cX6_apart 11 = .ok (.getfield 7, 3) := by decide +kernel
theorem dX6_apart_14 : decode cX6_apart 14 = .ok (.iload_n 1, 1) := by decide +kernel
theorem dX6_apart_15 : decode cX6_apart 15 = .ok (.iaload, 1) := by decide +kernel
theorem dX6_apart_16 : decode cX6_apart 16 = .ok (.ishl, 1) := by decide +kernel
theorem dX6_apart_17 : decode cX6_apart 17 = .ok (.iconst 1, 1) := by decide +kernel
theorem dX6_apart_18 : decode cX6_apart 18 = .ok (.isub, 1) := by decide +kernel
theorem dX6_apart_19 : decode cX6_apart 19 = .ok (.invokestatic 65, 3) := by decide +kernel
theorem dX6_apart_22 : decode cX6_apart 22 = .ok (.ifCond .eq 21, 3) := by decide +kernel
theorem dX6_apart_25 : decode cX6_apart 25 = .ok (.iload_n 3, 1) := by decide +kernel
theorem dX6_apart_26 : decode cX6_apart 26 = .ok (.iconst 0, 1) := by decide +kernel
theorem dX6_apart_27 : decode cX6_apart 27 = .ok (.iconst 1, 1) := by decide +kernel
theorem dX6_apart_28 : decode cX6_apart 28 = .ok (.aload_n 0, 1) := by decide +kernel
theorem dX6_apart_29 : decode cX6_apart 29 = .ok (.getfield 7, 3) := by decide +kernel
theorem dX6_apart_32 : decode cX6_apart 32 = .ok (.iload_n 1, 1) := by decide +kernel
theorem dX6_apart_33 : decode cX6_apart 33 = .ok (.iaload, 1) := by decide +kernel
theorem dX6_apart_34 : decode cX6_apart 34 = .ok (.ishl, 1) := by decide +kernel
theorem dX6_apart_35 : decode cX6_apart 35 = .ok (.iconst 1, 1) := by decide +kernel
theorem dX6_apart_36 : decode cX6_apart 36 = .ok (.isub, 1) := by decide +kernel
theorem dX6_apart_37 : decode cX6_apart 37 = .ok (.invokestatic 65, 3) := by decide +kernel
theorem dX6_apart_40 : decode cX6_apart 40 = .ok (.ifCond .ne 6, 3) := by decide +kernel
theorem dX6_apart_43 : decode cX6_apart 43 = .ok (.bipush (-2), 2) := by decide +kernel
theorem dX6_apart_45 : decode cX6_apart 45 = .ok (.ireturn, 1) := by decide +kernel
theorem dX6_apart_46 : decode cX6_apart 46 = .ok (.iconst 0, 1) := by decide +kernel
theorem dX6_apart_47 : decode cX6_apart 47 = .ok (.istore 4, 2) := by decide +kernel
theorem dX6_apart_49 : decode cX6_apart 49 = .ok (.iload 4, 2) := by decide +kernel
theorem dX6_apart_51 : decode cX6_apart 51 = .ok (.bipush 10, 2) := by decide +kernel
theorem dX6_apart_53 : decode cX6_apart 53 = .ok (.if_icmp .ge 25, 3) := by decide +kernel
theorem dX6_apart_56 : decode cX6_apart 56 = .ok (.aload_n 0, 1) := by decide +kernel
theorem dX6_apart_57 : decode cX6_apart 57 = .ok (.getfield 50, 3) := by decide +kernel
theorem dX6_apart_60 : decode cX6_apart 60 = .ok (.iload 4, 2) := by decide +kernel
theorem dX6_apart_62 : decode cX6_apart 62 = .ok (.iconst (-1), 1) := by decide +kernel
theorem dX6_apart_63 : decode cX6_apart 63 = .ok (.iastore, 1) := by decide +kernel
theorem dX6_apart_64 : decode cX6_apart 64 = .ok (.aload_n 0, 1) := by decide +kernel
theorem dX6_apart_65 : decode cX6_apart 65 = .ok (.getfield 53, 3) := by decide +kernel
theorem dX6_apart_68 : decode cX6_apart 68 = .ok (.iload 4, 2) := by decide +kernel
theorem dX6_apart_70 : decode cX6_apart 70 = .ok (.iconst (-1), 1) := by decide +kernel
theorem dX6_apart_71 : decode cX6_apart 71 = .ok (.iastore, 1) := by decide +kernel
theorem dX6_apart_72 : decode cX6_apart 72 = .ok (.iinc 4 1, 3) := by decide +kernel
theorem dX6_apart_75 : decode cX6_apart 75 = .ok (.goto (-26), 3) := by decide +kernel
theorem dX6_apart_78 : decode cX6_apart 78 = .ok (.aload_n 0, 1) := by decide +kernel
theorem dX6_apart_79 : decode cX6_apart 79 = .ok (.iconst 0, 1) := by decide +kernel
theorem dX6_apart_80 : decode cX6_apart 80 = .ok (.putfield 155, 3) := by decide +kernel
theorem dX6_apart_83 : decode cX6_apart 83 = .ok (.aload_n 0, 1) := by decide +kernel
theorem dX6_apart_84 : decode cX6_apart 84 = .ok (.iconst 0, 1) := by decide +kernel
theorem dX6_apart_85 : decode cX6_apart 85 = .ok (.putfield 164, 3) := by decide +kernel
theorem dX6_apart_88 : decode cX6_apart 88 = .ok (.iconst 0, 1) := by decide +kernel
theorem dX6_apart_89 : decode cX6_apart 89 = .ok (.istore 4, 2) := by decide +kernel
theorem dX6_apart_91 : decode cX6_apart 91 = .ok (.aload_n 0, 1) := by decide +kernel
theorem dX6_apart_92 : decode cX6_apart 92 = .ok (.iload_n 1, 1) := by decide +kernel
theorem dX6_apart_93 : decode cX6_apart 93 = .ok (.iload_n 2, 1) := by decide +kernel
theorem dX6_apart_94 : decode cX6_apart 94 = .ok (.iload_n 3, 1) := by decide +kernel
theorem dX6_apart_95 : decode cX6_apart 95 = .ok (.invokevirtual 170, 3) := by decide +kernel
theorem dX6_apart_98 : decode cX6_apart 98 = .ok (.ifCond .eq 9, 3) := by decide +kernel
theorem dX6_apart_101 : decode cX6_apart 101 = .ok (.iinc 4 1, 3) := by decide +kernel
theorem dX6_apart_104 : decode cX6_apart 104 = .ok (.goto (-13), 3) := by decide +kernel
theorem dX6_apart_107 : decode cX6_apart 107 = .ok (.iload 4, 2) := by decide +kernel
theorem dX6_apart_109 : decode cX6_apart 109 = .ok (.ireturn, 1) := by decide +kernel
theorem dX6_distanceOf_0 : decode cX6_distanceOf 0 = .ok (.iconst 1, 1) := by decide +kernel
theorem dX6_distanceOf_1 : decode cX6_distanceOf 1 = .ok (.iload_n 2, 1) := by decide +kernel
theorem dX6_distanceOf_2 : decode cX6_distanceOf 2 = .ok (.ishl, 1) := by decide +kernel
theorem dX6_distanceOf_3 : decode cX6_distanceOf 3 = .ok (.istore 5, 2) := by decide +kernel
theorem dX6_distanceOf_5 : decode cX6_distanceOf 5 = .ok (.iconst 0, 1) := by decide +kernel
theorem dX6_distanceOf_6 : decode cX6_distanceOf 6 = .ok (.istore 6, 2) := by decide +kernel
theorem dX6_distanceOf_8 : decode cX6_distanceOf 8 = .ok (.iload 6, 2) := by decide +kernel
theorem dX6_distanceOf_10 : decode cX6_distanceOf 10 = .ok (.aload_n 0, 1) := by decide +kernel
theorem dX6_distanceOf_11 : decode cX6_distanceOf 11 = .ok (.getfield 7, 3) := by decide +kernel
theorem dX6_distanceOf_14 : decode cX6_distanceOf 14 = .ok (.iload_n 1, 1) := by decide +kernel
theorem dX6_distanceOf_15 : decode cX6_distanceOf 15 = .ok (.iaload, 1) := by decide +kernel
theorem dX6_distanceOf_16 : decode cX6_distanceOf 16 = .ok (.if_icmp .gt 123, 3) := by decide +kernel
theorem dX6_distanceOf_19 : decode cX6_distanceOf 19 = .ok (.iload 5, 2) := by decide +kernel
theorem dX6_distanceOf_21 : decode cX6_distanceOf 21 = .ok (.iload_n 3, 1) := by decide +kernel
theorem dX6_distanceOf_22 : decode cX6_distanceOf 22 = .ok (.ishr, 1) := by decide +kernel
theorem dX6_distanceOf_23 : decode cX6_distanceOf 23 = .ok (.iconst 1, 1) := by decide +kernel
theorem dX6_distanceOf_24 : decode cX6_distanceOf 24 = .ok (.iand, 1) := by decide +kernel
theorem dX6_distanceOf_25 : decode cX6_distanceOf 25 = .ok (.iconst 1, 1) := by decide +kernel
theorem dX6_distanceOf_26 : decode cX6_distanceOf 26 = .ok (.if_icmp .ne 6, 3) := by decide +kernel
theorem dX6_distanceOf_29 : decode cX6_distanceOf 29 = .ok (.iload 6, 2) := by decide +kernel
theorem dX6_distanceOf_31 : decode cX6_distanceOf 31 = .ok (.ireturn, 1) := by decide +kernel
theorem dX6_distanceOf_32 : decode cX6_distanceOf 32 = .ok (.iload 5, 2) := by decide +kernel
theorem dX6_distanceOf_34 : decode cX6_distanceOf 34 = .ok (.istore 7, 2) := by decide +kernel
theorem dX6_distanceOf_36 : decode cX6_distanceOf 36 = .ok (.iconst 0, 1) := by decide +kernel
theorem dX6_distanceOf_37 : decode cX6_distanceOf 37 = .ok (.istore 8, 2) := by decide +kernel
theorem dX6_distanceOf_39 : decode cX6_distanceOf 39 = .ok (.iload 8, 2) := by decide +kernel
theorem dX6_distanceOf_41 : decode cX6_distanceOf 41 = .ok (.aload_n 0, 1) := by decide +kernel
theorem dX6_distanceOf_42 : decode cX6_distanceOf 42 = .ok (.getfield 105, 3) := by decide +kernel
theorem dX6_distanceOf_45 : decode cX6_distanceOf 45 = .ok (.if_icmp .ge 84, 3) := by decide +kernel
theorem dX6_distanceOf_48 : decode cX6_distanceOf 48 = .ok (.iload 8, 2) := by decide +kernel
theorem dX6_distanceOf_50 : decode cX6_distanceOf 50 = .ok (.iload 4, 2) := by decide +kernel
theorem dX6_distanceOf_52 : decode cX6_distanceOf 52 = .ok (.if_icmp .eq 71, 3) := by decide +kernel
theorem dX6_distanceOf_55 : decode cX6_distanceOf 55 = .ok (.iload 7, 2) := by decide +kernel
theorem dX6_distanceOf_57 : decode cX6_distanceOf 57 = .ok (.iload 5, 2) := by decide +kernel
theorem dX6_distanceOf_59 : decode cX6_distanceOf 59 = .ok (.aload_n 0, 1) := by decide +kernel
theorem dX6_distanceOf_60 : decode cX6_distanceOf 60 = .ok (.getfield 22, 3) := by decide +kernel
theorem dX6_distanceOf_63 : decode cX6_distanceOf 63 = .ok (.iload 8, 2) := by decide +kernel
theorem dX6_distanceOf_65 : decode cX6_distanceOf 65 = .ok (.iaload, 1) := by decide +kernel
theorem dX6_distanceOf_66 : decode cX6_distanceOf 66 = .ok (.ishr, 1) := by decide +kernel
theorem dX6_distanceOf_67 : decode cX6_distanceOf 67 = .ok (.iconst 1, 1) := by decide +kernel
theorem dX6_distanceOf_68 : decode cX6_distanceOf 68 = .ok (.iand, 1) := by decide +kernel
theorem dX6_distanceOf_69 : decode cX6_distanceOf 69 = .ok (.iconst 1, 1) := by decide +kernel
theorem dX6_distanceOf_70 : decode cX6_distanceOf 70 = .ok (.if_icmp .ne 15, 3) := by decide +kernel
theorem dX6_distanceOf_73 : decode cX6_distanceOf 73 = .ok (.iconst 1, 1) := by decide +kernel
theorem dX6_distanceOf_74 : decode cX6_distanceOf 74 = .ok (.aload_n 0, 1) := by decide +kernel
theorem dX6_distanceOf_75 : decode cX6_distanceOf 75 = .ok (.getfield 25, 3) := by decide +kernel
theorem dX6_distanceOf_78 : decode cX6_distanceOf 78 = .ok (.iload 8, 2) := by decide +kernel
theorem dX6_distanceOf_80 : decode cX6_distanceOf 80 = .ok (.iaload, 1) := by decide +kernel
theorem dX6_distanceOf_81 : decode cX6_distanceOf 81 = .ok (.ishl, 1) := by decide +kernel
theorem dX6_distanceOf_82 : decode cX6_distanceOf 82 = .ok (.goto 4, 3) := by decide +kernel
theorem dX6_distanceOf_85 : decode cX6_distanceOf 85 = .ok (.iconst 0, 1) := by decide +kernel
theorem dX6_distanceOf_86 : decode cX6_distanceOf 86 = .ok (.ior, 1) := by decide +kernel
theorem dX6_distanceOf_87 : decode cX6_distanceOf 87 = .ok (.istore 7, 2) := by decide +kernel
theorem dX6_distanceOf_89 : decode cX6_distanceOf 89 = .ok (.iload 7, 2) := by decide +kernel
theorem dX6_distanceOf_91 : decode cX6_distanceOf 91 = .ok (.iload 5, 2) := by decide +kernel
theorem dX6_distanceOf_93 : decode cX6_distanceOf 93 = .ok (.aload_n 0, 1) := by decide +kernel
theorem dX6_distanceOf_94 : decode cX6_distanceOf 94 = .ok (.getfield 25, 3) := by decide +kernel
theorem dX6_distanceOf_97 : decode cX6_distanceOf 97 = .ok (.iload 8, 2) := by decide +kernel
theorem dX6_distanceOf_99 : decode cX6_distanceOf 99 = .ok (.iaload, 1) := by decide +kernel
theorem dX6_distanceOf_100 : decode cX6_distanceOf 100 = .ok (.ishr, 1) := by decide +kernel
theorem dX6_distanceOf_101 : decode cX6_distanceOf 101 = .ok (.iconst 1, 1) := by decide +kernel
theorem dX6_distanceOf_102 : decode cX6_distanceOf 102 = .ok (.iand, 1) := by decide +kernel
theorem dX6_distanceOf_103 : decode cX6_distanceOf 103 = .ok (.iconst 1, 1) := by decide +kernel
theorem dX6_distanceOf_104 : decode cX6_distanceOf 104 = .ok (.if_icmp .ne 15, 3) := by decide +kernel
theorem dX6_distanceOf_107 : decode cX6_distanceOf 107 = .ok (.iconst 1, 1) := by decide +kernel
theorem dX6_distanceOf_108 : decode cX6_distanceOf 108 = .ok (.aload_n 0, 1) := by decide +kernel
theorem dX6_distanceOf_109 : decode cX6_distanceOf 109 = .ok (.getfield 22, 3) := by decide +kernel
theorem dX6_distanceOf_112 : decode cX6_distanceOf 112 = .ok (.iload 8, 2) := by decide +kernel
theorem dX6_distanceOf_114 : decode cX6_distanceOf 114 = .ok (.iaload, 1) := by decide +kernel
theorem dX6_distanceOf_115 : decode cX6_distanceOf 115 = .ok (.ishl, 1) := by decide +kernel
theorem dX6_distanceOf_116 : decode cX6_distanceOf 116 = .ok (.goto 4, 3) := by decide +kernel
theorem dX6_distanceOf_119 : decode cX6_distanceOf 119 = .ok (.iconst 0, 1) := by decide +kernel
theorem dX6_distanceOf_120 : decode cX6_distanceOf 120 = .ok (.ior, 1) := by decide +kernel
theorem dX6_distanceOf_121 : decode cX6_distanceOf 121 = .ok (.istore 7, 2) := by decide +kernel
theorem dX6_distanceOf_123 : decode cX6_distanceOf 123 = .ok (.iinc 8 1, 3) := by decide +kernel
theorem dX6_distanceOf_126 : decode cX6_distanceOf 126 = .ok (.goto (-87), 3) := by decide +kernel
theorem dX6_distanceOf_129 : decode cX6_distanceOf 129 = .ok (.iload 7, 2) := by decide +kernel
theorem dX6_distanceOf_131 : decode cX6_distanceOf 131 = .ok (.istore 5, 2) := by decide +kernel
theorem dX6_distanceOf_133 : decode cX6_distanceOf 133 = .ok (.iinc 6 1, 3) := by decide +kernel
theorem dX6_distanceOf_136 : decode cX6_distanceOf 136 = .ok (.goto (-128), 3) := by decide +kernel
theorem dX6_distanceOf_139 : decode cX6_distanceOf 139 = .ok (.iconst (-1), 1) := by decide +kernel
theorem dX6_distanceOf_140 : decode cX6_distanceOf 140 = .ok (.ireturn, 1) := by decide +kernel
theorem dX6_distance_0 : decode cX6_distance 0 = .ok (.aload_n 0, 1) := by decide +kernel
theorem dX6_distance_1 : decode cX6_distance 1 = .ok (.iload_n 1, 1) := by decide +kernel
theorem dX6_distance_2 : decode cX6_distance 2 = .ok (.iload_n 2, 1) := by decide +kernel
theorem dX6_distance_3 : decode cX6_distance 3 = .ok (.invokevirtual 81, 3) := by decide +kernel
theorem dX6_distance_6 : decode cX6_distance 6 = .ok (.ifCond .eq 12, 3) := by decide +kernel
theorem dX6_distance_9 : decode cX6_distance 9 = .ok (.aload_n 0, 1) := by decide +kernel
theorem dX6_distance_10 : decode cX6_distance 10 = .ok (.iload_n 1, 1) := by decide +kernel
theorem dX6_distance_11 : decode cX6_distance 11 = .ok (.iload_n 3, 1) := by decide +kernel
theorem dX6_distance_12 : decode cX6_distance 12 = .ok (.invokevirtual 81, 3) := by decide +kernel
theorem dX6_distance_15 : decode cX6_distance 15 = .ok (.ifCond .ne 6, 3) := by decide +kernel
theorem dX6_distance_18 : decode cX6_distance 18 = .ok (.bipush (-2), 2) := by decide +kernel
theorem dX6_distance_20 : decode cX6_distance 20 = .ok (.ireturn, 1) := by decide +kernel
theorem dX6_distance_21 : decode cX6_distance 21 = .ok (.aload_n 0, 1) := by decide +kernel
theorem dX6_distance_22 : decode cX6_distance 22 = .ok (.iload_n 1, 1) := by decide +kernel
theorem dX6_distance_23 : decode cX6_distance 23 = .ok (.invokevirtual 109, 3) := by decide +kernel
theorem dX6_distance_26 : decode cX6_distance 26 = .ok (.aload_n 0, 1) := by decide +kernel
theorem dX6_distance_27 : decode cX6_distance 27 = .ok (.iload_n 1, 1) := by decide +kernel
theorem dX6_distance_28 : decode cX6_distance 28 = .ok (.iload_n 2, 1) := by decide +kernel
theorem dX6_distance_29 : decode cX6_distance 29 = .ok (.iload_n 3, 1) := by decide +kernel
theorem dX6_distance_30 : decode cX6_distance 30 = .ok (.iconst (-1), 1) := by decide +kernel
theorem dX6_distance_31 : decode cX6_distance 31 = .ok (.invokevirtual 173, 3) := by decide +kernel
theorem dX6_distance_34 : decode cX6_distance 34 = .ok (.ireturn, 1) := by decide +kernel
theorem dX6_round_0 : decode cX6_round 0 = .ok (.iload_n 1, 1) := by decide +kernel
theorem dX6_round_1 : decode cX6_round 1 = .ok (.invokestatic 69, 3) := by decide +kernel
theorem dX6_round_4 : decode cX6_round 4 = .ok (.ifCond .ne 6, 3) := by decide +kernel
theorem dX6_round_7 : decode cX6_round 7 = .ok (.bipush (-2), 2) := by decide +kernel
theorem dX6_round_9 : decode cX6_round 9 = .ok (.ireturn, 1) := by decide +kernel
theorem dX6_round_10 : decode cX6_round 10 = .ok (.aload_n 0, 1) := by decide +kernel
theorem dX6_round_11 : decode cX6_round 11 = .ok (.iload_n 1, 1) := by decide +kernel
theorem dX6_round_12 : decode cX6_round 12 = .ok (.invokevirtual 109, 3) := by decide +kernel
theorem dX6_round_15 : decode cX6_round 15 = .ok (.iconst (-1), 1) := by decide +kernel
theorem dX6_round_16 : decode cX6_round 16 = .ok (.istore_n 2, 1) := by decide +kernel
theorem dX6_round_17 : decode cX6_round 17 = .ok (.iconst 0, 1) := by decide +kernel
theorem dX6_round_18 : decode cX6_round 18 = .ok (.istore_n 3, 1) := by decide +kernel
theorem dX6_round_19 : decode cX6_round 19 = .ok (.iload_n 3, 1) := by decide +kernel
theorem dX6_round_20 : decode cX6_round 20 = .ok (.aload_n 0, 1) := by decide +kernel
theorem dX6_round_21 : decode cX6_round 21 = .ok (.getfield 105, 3) := by decide +kernel
theorem dX6_round_24 : decode cX6_round 24 = .ok (.if_icmp .ge 55, 3) := by decide +kernel
theorem dX6_round_27 : decode cX6_round 27 = .ok (.aload_n 0, 1) := by decide +kernel
theorem dX6_round_28 : decode cX6_round 28 = .ok (.iload_n 1, 1) := by decide +kernel
theorem dX6_round_29 : decode cX6_round 29 = .ok (.aload_n 0, 1) := by decide +kernel
theorem dX6_round_30 : decode cX6_round 30 = .ok (.getfield 22, 3) := by decide +kernel
theorem dX6_round_33 : decode cX6_round 33 = .ok (.iload_n 3, 1) := by decide +kernel
theorem dX6_round_34 : decode cX6_round 34 = .ok (.iaload, 1) := by decide +kernel
theorem dX6_round_35 : decode cX6_round 35 = .ok (.aload_n 0, 1) := by decide +kernel
theorem dX6_round_36 : decode cX6_round 36 = .ok (.getfield 25, 3) := by decide +kernel
theorem dX6_round_39 : decode cX6_round 39 = .ok (.iload_n 3, 1) := by decide +kernel
theorem dX6_round_40 : decode cX6_round 40 = .ok (.iaload, 1) := by decide +kernel
theorem dX6_round_41 : decode cX6_round 41 = .ok (.iload_n 3, 1) := by decide +kernel
theorem dX6_round_42 : decode cX6_round 42 = .ok (.invokevirtual 173, 3) := by decide +kernel
theorem dX6_round_45 : decode cX6_round 45 = .ok (.istore 4, 2) := by decide +kernel
theorem dX6_round_47 : decode cX6_round 47 = .ok (.iload 4, 2) := by decide +kernel
theorem dX6_round_49 : decode cX6_round 49 = .ok (.ifCond .lt 22, 3) := by decide +kernel
theorem dX6_round_52 : decode cX6_round 52 = .ok (.iload_n 2, 1) := by decide +kernel
theorem dX6_round_53 : decode cX6_round 53 = .ok (.ifCond .lt 11, 3) := by decide +kernel
theorem dX6_round_56 : decode cX6_round 56 = .ok (.iload 4, 2) := by decide +kernel
theorem dX6_round_58 : decode cX6_round 58 = .ok (.iconst 1, 1) := by decide +kernel
theorem dX6_round_59 : decode cX6_round 59 = .ok (.iadd, 1) := by decide +kernel
theorem dX6_round_60 : decode cX6_round 60 = .ok (.iload_n 2, 1) := by decide +kernel
theorem dX6_round_61 : decode cX6_round 61 = .ok (.if_icmp .ge 10, 3) := by decide +kernel
theorem dX6_round_64 : decode cX6_round 64 = .ok (.iload 4, 2) := by decide +kernel
theorem dX6_round_66 : decode cX6_round 66 = .ok (.iconst 1, 1) := by decide +kernel
theorem dX6_round_67 : decode cX6_round 67 = .ok (.iadd, 1) := by decide +kernel
theorem dX6_round_68 : decode cX6_round 68 = .ok (.goto 4, 3) := by decide +kernel
theorem dX6_round_71 : decode cX6_round 71 = .ok (.iload_n 2, 1) := by decide +kernel
theorem dX6_round_72 : decode cX6_round 72 = .ok (.istore_n 2, 1) := by decide +kernel
theorem dX6_round_73 : decode cX6_round 73 = .ok (.iinc 3 1, 3) := by decide +kernel
theorem dX6_round_76 : decode cX6_round 76 = .ok (.goto (-57), 3) := by decide +kernel
theorem dX6_round_79 : decode cX6_round 79 = .ok (.iload_n 2, 1) := by decide +kernel
theorem dX6_round_80 : decode cX6_round 80 = .ok (.ireturn, 1) := by decide +kernel
theorem dX6_oddOnes_0 : decode cX6_oddOnes 0 = .ok (.iconst 0, 1) := by decide +kernel
theorem dX6_oddOnes_1 : decode cX6_oddOnes 1 = .ok (.istore_n 3, 1) := by decide +kernel
theorem dX6_oddOnes_2 : decode cX6_oddOnes 2 = .ok (.iconst 0, 1) := by decide +kernel
theorem dX6_oddOnes_3 : decode cX6_oddOnes 3 = .ok (.istore 4, 2) := by decide +kernel
theorem dX6_oddOnes_5 : decode cX6_oddOnes 5 = .ok (.iload 4, 2) := by decide +kernel
theorem dX6_oddOnes_7 : decode cX6_oddOnes 7 = .ok (.aload_n 0, 1) := by decide +kernel
theorem dX6_oddOnes_8 : decode cX6_oddOnes 8 = .ok (.getfield 105, 3) := by decide +kernel
theorem dX6_oddOnes_11 : decode cX6_oddOnes 11 = .ok (.if_icmp .ge 46, 3) := by decide +kernel
theorem dX6_oddOnes_14 : decode cX6_oddOnes 14 = .ok (.iload_n 3, 1) := by decide +kernel
theorem dX6_oddOnes_15 : decode cX6_oddOnes 15 = .ok (.lload_n 1, 1) := by decide +kernel
theorem dX6_oddOnes_16 : decode cX6_oddOnes 16 = .ok (.iload 4, 2) := by decide +kernel
theorem dX6_oddOnes_18 : decode cX6_oddOnes 18 = .ok (.lshr, 1) := by decide +kernel
theorem dX6_oddOnes_19 : decode cX6_oddOnes 19 = .ok (.lconst 1, 1) := by decide +kernel
theorem dX6_oddOnes_20 : decode cX6_oddOnes 20 = .ok (.land, 1) := by decide +kernel
theorem dX6_oddOnes_21 : decode cX6_oddOnes 21 = .ok (.lconst 1, 1) := by decide +kernel
theorem dX6_oddOnes_22 : decode cX6_oddOnes 22 = .ok (.lcmp, 1) := by decide +kernel
theorem dX6_oddOnes_23 : decode cX6_oddOnes 23 = .ok (.ifCond .ne 25, 3) := by decide +kernel
theorem dX6_oddOnes_26 : decode cX6_oddOnes 26 = .ok (.iconst 1, 1) := by decide +kernel
theorem dX6_oddOnes_27 : decode cX6_oddOnes 27 = .ok (.aload_n 0, 1) := by decide +kernel
theorem dX6_oddOnes_28 : decode cX6_oddOnes 28 = .ok (.getfield 22, 3) := by decide +kernel
theorem dX6_oddOnes_31 : decode cX6_oddOnes 31 = .ok (.iload 4, 2) := by decide +kernel
theorem dX6_oddOnes_33 : decode cX6_oddOnes 33 = .ok (.iaload, 1) := by decide +kernel
theorem dX6_oddOnes_34 : decode cX6_oddOnes 34 = .ok (.ishl, 1) := by decide +kernel
theorem dX6_oddOnes_35 : decode cX6_oddOnes 35 = .ok (.iconst 1, 1) := by decide +kernel
theorem dX6_oddOnes_36 : decode cX6_oddOnes 36 = .ok (.aload_n 0, 1) := by decide +kernel
theorem dX6_oddOnes_37 : decode cX6_oddOnes 37 = .ok (.getfield 25, 3) := by decide +kernel
theorem dX6_oddOnes_40 : decode cX6_oddOnes 40 = .ok (.iload 4, 2) := by decide +kernel
theorem dX6_oddOnes_42 : decode cX6_oddOnes 42 = .ok (.iaload, 1) := by decide +kernel
theorem dX6_oddOnes_43 : decode cX6_oddOnes 43 = .ok (.ishl, 1) := by decide +kernel
theorem dX6_oddOnes_44 : decode cX6_oddOnes 44 = .ok (.ixor, 1) := by decide +kernel
theorem dX6_oddOnes_45 : decode cX6_oddOnes 45 = .ok (.goto 4, 3) := by decide +kernel
theorem dX6_oddOnes_48 : decode cX6_oddOnes 48 = .ok (.iconst 0, 1) := by decide +kernel
theorem dX6_oddOnes_49 : decode cX6_oddOnes 49 = .ok (.ixor, 1) := by decide +kernel
theorem dX6_oddOnes_50 : decode cX6_oddOnes 50 = .ok (.istore_n 3, 1) := by decide +kernel
theorem dX6_oddOnes_51 : decode cX6_oddOnes 51 = .ok (.iinc 4 1, 3) := by decide +kernel
theorem dX6_oddOnes_54 : decode cX6_oddOnes 54 = .ok (.goto (-49), 3) := by decide +kernel
theorem dX6_oddOnes_57 : decode cX6_oddOnes 57 = .ok (.iload_n 3, 1) := by decide +kernel
theorem dX6_oddOnes_58 : decode cX6_oddOnes 58 = .ok (.ireturn, 1) := by decide +kernel
theorem dX6_isWord_0 : decode cX6_isWord 0 = .ok (.iload_n 1, 1) := by decide +kernel
theorem dX6_isWord_1 : decode cX6_isWord 1 = .ok (.invokestatic 69, 3) := by decide +kernel
theorem dX6_isWord_4 : decode cX6_isWord 4 = .ok (.ifCond .ne 5, 3) := by decide +kernel
theorem dX6_isWord_7 : decode cX6_isWord 7 = .ok (.iconst 0, 1) := by decide +kernel
theorem dX6_isWord_8 : decode cX6_isWord 8 = .ok (.ireturn, 1) := by decide +kernel
theorem dX6_isWord_9 : decode cX6_isWord 9 = .ok (.aload_n 0, 1) := by decide +kernel
theorem dX6_isWord_10 : decode cX6_isWord 10 = .ok (.iload_n 1, 1) := by decide +kernel
theorem dX6_isWord_11 : decode cX6_isWord 11 = .ok (.invokevirtual 109, 3) := by decide +kernel
theorem dX6_isWord_14 : decode cX6_isWord 14 = .ok (.lload_n 2, 1) := by decide +kernel
theorem dX6_isWord_15 : decode cX6_isWord 15 = .ok (.lconst 0, 1) := by decide +kernel
theorem dX6_isWord_16 : decode cX6_isWord 16 = .ok (.lcmp, 1) := by decide +kernel
theorem dX6_isWord_17 : decode cX6_isWord 17 = .ok (.ifCond .lt 18, 3) := by decide +kernel
theorem dX6_isWord_20 : decode cX6_isWord 20 = .ok (.lload_n 2, 1) := by decide +kernel
theorem dX6_isWord_21 : decode cX6_isWord 21 = .ok (.aload_n 0, 1) := by decide +kernel
theorem dX6_isWord_22 : decode cX6_isWord 22 = .ok (.getfield 105, 3) := by decide +kernel
theorem dX6_isWord_25 : decode cX6_isWord 25 = .ok (.lshr, 1) := by decide +kernel
theorem dX6_isWord_26 : decode cX6_isWord 26 = .ok (.lconst 0, 1) := by decide +kernel
theorem dX6_isWord_27 : decode cX6_isWord 27 = .ok (.lcmp, 1) := by decide +kernel
theorem dX6_isWord_28 : decode cX6_isWord 28 = .ok (.ifCond .ne 7, 3) := by decide +kernel
theorem dX6_isWord_31 : decode cX6_isWord 31 = .ok (.iconst 1, 1) := by decide +kernel
theorem dX6_isWord_32 : decode cX6_isWord 32 = .ok (.goto 4, 3) := by decide +kernel
theorem dX6_isWord_35 : decode cX6_isWord 35 = .ok (.iconst 0, 1) := by decide +kernel
theorem dX6_isWord_36 : decode cX6_isWord 36 = .ok (.ireturn, 1) := by decide +kernel
theorem dX6_odd_0 : decode cX6_odd 0 = .ok (.aload_n 0, 1) := by decide +kernel
theorem dX6_odd_1 : decode cX6_odd 1 = .ok (.iload_n 1, 1) := by decide +kernel
theorem dX6_odd_2 : decode cX6_odd 2 = .ok (.lload_n 2, 1) := by decide +kernel
theorem dX6_odd_3 : decode cX6_odd 3 = .ok (.invokevirtual 177, 3) := by decide +kernel
theorem dX6_odd_6 : decode cX6_odd 6 = .ok (.ifCond .eq 14, 3) := by decide +kernel
theorem dX6_odd_9 : decode cX6_odd 9 = .ok (.aload_n 0, 1) := by decide +kernel
theorem dX6_odd_10 : decode cX6_odd 10 = .ok (.lload_n 2, 1) := by decide +kernel
theorem dX6_odd_11 : decode cX6_odd 11 = .ok (.invokevirtual 181, 3) := by decide +kernel
theorem dX6_odd_14 : decode cX6_odd 14 = .ok (.invokestatic 73, 3) := by decide +kernel
theorem dX6_odd_17 : decode cX6_odd 17 = .ok (.goto 5, 3) := by decide +kernel
theorem dX6_odd_20 : decode cX6_odd 20 = .ok (.bipush (-2), 2) := by decide +kernel
theorem dX6_odd_22 : decode cX6_odd 22 = .ok (.ireturn, 1) := by decide +kernel
theorem dX6_flipped_0 : decode cX6_flipped 0 = .ok (.aload_n 0, 1) := by decide +kernel
theorem dX6_flipped_1 : decode cX6_flipped 1 = .ok (.iload_n 1, 1) := by decide +kernel
theorem dX6_flipped_2 : decode cX6_flipped 2 = .ok (.lload_n 2, 1) := by decide +kernel
theorem dX6_flipped_3 : decode cX6_flipped 3 = .ok (.invokevirtual 177, 3) := by decide +kernel
theorem dX6_flipped_6 : decode cX6_flipped 6 = .ok (.ifCond .ne 7, 3) := by decide +kernel
theorem dX6_flipped_9 : decode cX6_flipped 9 = .ok (.ldc2_w 145, 3) := by decide +kernel
theorem dX6_flipped_12 : decode cX6_flipped 12 = .ok (.lreturn, 1) := by decide +kernel
theorem dX6_flipped_13 : decode cX6_flipped 13 = .ok (.lload_n 2, 1) := by decide +kernel
theorem dX6_flipped_14 : decode cX6_flipped 14 = .ok (.lstore 4, 2) := by decide +kernel
theorem dX6_flipped_16 : decode cX6_flipped 16 = .ok (.iconst 1, 1) := by decide +kernel
theorem dX6_flipped_17 : decode cX6_flipped 17 = .ok (.istore 6, 2) := by decide +kernel
theorem dX6_flipped_19 : decode cX6_flipped 19 = .ok (.iload 6, 2) := by decide +kernel
theorem dX6_flipped_21 : decode cX6_flipped 21 = .ok (.ifCond .eq 84, 3) := by decide +kernel
theorem dX6_flipped_24 : decode cX6_flipped 24 = .ok (.aload_n 0, 1) := by decide +kernel
theorem dX6_flipped_25 : decode cX6_flipped 25 = .ok (.lload 4, 2) := by decide +kernel
theorem dX6_flipped_27 : decode cX6_flipped 27 = .ok (.invokevirtual 181, 3) := by decide +kernel
theorem dX6_flipped_30 : decode cX6_flipped 30 = .ok (.istore 7, 2) := by decide +kernel
theorem dX6_flipped_32 : decode cX6_flipped 32 = .ok (.iconst 0, 1) := by decide +kernel
theorem dX6_flipped_33 : decode cX6_flipped 33 = .ok (.istore 6, 2) := by decide +kernel
theorem dX6_flipped_35 : decode cX6_flipped 35 = .ok (.iconst 0, 1) := by decide +kernel
theorem dX6_flipped_36 : decode cX6_flipped 36 = .ok (.istore 8, 2) := by decide +kernel
theorem dX6_flipped_38 : decode cX6_flipped 38 = .ok (.iload 8, 2) := by decide +kernel
theorem dX6_flipped_40 : decode cX6_flipped 40 = .ok (.aload_n 0, 1) := by decide +kernel
theorem dX6_flipped_41 : decode cX6_flipped 41 = .ok (.getfield 105, 3) := by decide +kernel
theorem dX6_flipped_44 : decode cX6_flipped 44 = .ok (.if_icmp .ge 58, 3) := by decide +kernel
theorem dX6_flipped_47 : decode cX6_flipped 47 = .ok (.iload 6, 2) := by decide +kernel
theorem dX6_flipped_49 : decode cX6_flipped 49 = .ok (.ifCond .ne 53, 3) := by decide +kernel
theorem dX6_flipped_52 : decode cX6_flipped 52 = .ok (.iload 7, 2) := by decide +kernel
theorem dX6_flipped_54 : decode cX6_flipped 54 = .ok (.aload_n 0, 1) := by decide +kernel
theorem dX6_flipped_55 : decode cX6_flipped 55 = .ok (.getfield 22, 3) := by decide +kernel
theorem dX6_flipped_58 : decode cX6_flipped 58 = .ok (.iload 8, 2) := by decide +kernel
theorem dX6_flipped_60 : decode cX6_flipped 60 = .ok (.iaload, 1) := by decide +kernel
theorem dX6_flipped_61 : decode cX6_flipped 61 = .ok (.ishr, 1) := by decide +kernel
theorem dX6_flipped_62 : decode cX6_flipped 62 = .ok (.iconst 1, 1) := by decide +kernel
theorem dX6_flipped_63 : decode cX6_flipped 63 = .ok (.iand, 1) := by decide +kernel
theorem dX6_flipped_64 : decode cX6_flipped 64 = .ok (.iconst 1, 1) := by decide +kernel
theorem dX6_flipped_65 : decode cX6_flipped 65 = .ok (.if_icmp .ne 31, 3) := by decide +kernel
theorem dX6_flipped_68 : decode cX6_flipped 68 = .ok (.iload 7, 2) := by decide +kernel
theorem dX6_flipped_70 : decode cX6_flipped 70 = .ok (.aload_n 0, 1) := by decide +kernel
theorem dX6_flipped_71 : decode cX6_flipped 71 = .ok (.getfield 25, 3) := by decide +kernel
theorem dX6_flipped_74 : decode cX6_flipped 74 = .ok (.iload 8, 2) := by decide +kernel
theorem dX6_flipped_76 : decode cX6_flipped 76 = .ok (.iaload, 1) := by decide +kernel
theorem dX6_flipped_77 : decode cX6_flipped 77 = .ok (.ishr, 1) := by decide +kernel
theorem dX6_flipped_78 : decode cX6_flipped 78 = .ok (.iconst 1, 1) := by decide +kernel
theorem dX6_flipped_79 : decode cX6_flipped 79 = .ok (.iand, 1) := by decide +kernel
theorem dX6_flipped_80 : decode cX6_flipped 80 = .ok (.iconst 1, 1) := by decide +kernel
theorem dX6_flipped_81 : decode cX6_flipped 81 = .ok (.if_icmp .ne 15, 3) := by decide +kernel
theorem dX6_flipped_84 : decode cX6_flipped 84 = .ok (.lload 4, 2) := by decide +kernel
theorem dX6_flipped_86 : decode cX6_flipped 86 = .ok (.lconst 1, 1) := by decide +kernel
theorem dX6_flipped_87 : decode cX6_flipped 87 = .ok (.iload 8, 2) := by decide +kernel
theorem dX6_flipped_89 : decode cX6_flipped 89 = .ok (.lshl, 1) := by decide +kernel
theorem dX6_flipped_90 : decode cX6_flipped 90 = .ok (.lxor, 1) := by decide +kernel
theorem dX6_flipped_91 : decode cX6_flipped 91 = .ok (.lstore 4, 2) := by decide +kernel
theorem dX6_flipped_93 : decode cX6_flipped 93 = .ok (.iconst 1, 1) := by decide +kernel
theorem dX6_flipped_94 : decode cX6_flipped 94 = .ok (.istore 6, 2) := by decide +kernel
theorem dX6_flipped_96 : decode cX6_flipped 96 = .ok (.iinc 8 1, 3) := by decide +kernel
theorem dX6_flipped_99 : decode cX6_flipped 99 = .ok (.goto (-61), 3) := by decide +kernel
theorem dX6_flipped_102 : decode cX6_flipped 102 = .ok (.goto (-83), 3) := by decide +kernel
theorem dX6_flipped_105 : decode cX6_flipped 105 = .ok (.lload 4, 2) := by decide +kernel
theorem dX6_flipped_107 : decode cX6_flipped 107 = .ok (.lreturn, 1) := by decide +kernel
theorem dX6_digest_0 : decode cX6_digest 0 = .ok (.ldc2_w 185, 3) := by decide +kernel
theorem dX6_digest_3 : decode cX6_digest 3 = .ok (.lstore_n 1, 1) := by decide +kernel
theorem dX6_digest_4 : decode cX6_digest 4 = .ok (.iconst 0, 1) := by decide +kernel
theorem dX6_digest_5 : decode cX6_digest 5 = .ok (.istore_n 3, 1) := by decide +kernel
theorem dX6_digest_6 : decode cX6_digest 6 = .ok (.iload_n 3, 1) := by decide +kernel
theorem dX6_digest_7 : decode cX6_digest 7 = .ok (.iconst 4, 1) := by decide +kernel
theorem dX6_digest_8 : decode cX6_digest 8 = .ok (.if_icmp .ge 63, 3) := by decide +kernel
theorem dX6_digest_11 : decode cX6_digest 11 = .ok (.ldc2_w 187, 3) := by decide +kernel
theorem dX6_digest_14 : decode cX6_digest 14 = .ok (.lload_n 1, 1) := by decide +kernel
theorem dX6_digest_15 : decode cX6_digest 15 = .ok (.lmul, 1) := by decide +kernel
theorem dX6_digest_16 : decode cX6_digest 16 = .ok (.aload_n 0, 1) := by decide +kernel
theorem dX6_digest_17 : decode cX6_digest 17 = .ok (.getfield 7, 3) := by decide +kernel
theorem dX6_digest_20 : decode cX6_digest 20 = .ok (.iload_n 3, 1) := by decide +kernel
theorem dX6_digest_21 : decode cX6_digest 21 = .ok (.iaload, 1) := by decide +kernel
theorem dX6_digest_22 : decode cX6_digest 22 = .ok (.i2l, 1) := by decide +kernel
theorem dX6_digest_23 : decode cX6_digest 23 = .ok (.ladd, 1) := by decide +kernel
theorem dX6_digest_24 : decode cX6_digest 24 = .ok (.lstore_n 1, 1) := by decide +kernel
theorem dX6_digest_25 : decode cX6_digest 25 = .ok (.iconst 0, 1) := by decide +kernel
theorem dX6_digest_26 : decode cX6_digest 26 = .ok (.istore 4, 2) := by decide +kernel
theorem dX6_digest_28 : decode cX6_digest 28 = .ok (.iload 4, 2) := by decide +kernel
theorem dX6_digest_30 : decode cX6_digest 30 = .ok (.aload_n 0, 1) := by decide +kernel
theorem dX6_digest_31 : decode cX6_digest 31 = .ok (.getfield 7, 3) := by decide +kernel
theorem dX6_digest_34 : decode cX6_digest 34 = .ok (.iload_n 3, 1) := by decide +kernel
theorem dX6_digest_35 : decode cX6_digest 35 = .ok (.iaload, 1) := by decide +kernel
theorem dX6_digest_36 : decode cX6_digest 36 = .ok (.if_icmp .ge 29, 3) := by decide +kernel
theorem dX6_digest_39 : decode cX6_digest 39 = .ok (.ldc2_w 187, 3) := by decide +kernel
theorem dX6_digest_42 : decode cX6_digest 42 = .ok (.lload_n 1, 1) := by decide +kernel
theorem dX6_digest_43 : decode cX6_digest 43 = .ok (.lmul, 1) := by decide +kernel
theorem dX6_digest_44 : decode cX6_digest 44 = .ok (.aload_n 0, 1) := by decide +kernel
theorem dX6_digest_45 : decode cX6_digest 45 = .ok (.getfield 13, 3) := by decide +kernel
theorem dX6_digest_48 : decode cX6_digest 48 = .ok (.bipush 10, 2) := by decide +kernel
theorem dX6_digest_50 : decode cX6_digest 50 = .ok (.iload_n 3, 1) := by decide +kernel
theorem dX6_digest_51 : decode cX6_digest 51 = .ok (.imul, 1) := by decide +kernel
theorem dX6_digest_52 : decode cX6_digest 52 = .ok (.iload 4, 2) := by decide +kernel
theorem dX6_digest_54 : decode cX6_digest 54 = .ok (.iadd, 1) := by decide +kernel
theorem dX6_digest_55 : decode cX6_digest 55 = .ok (.iaload, 1) := by decide +kernel
theorem dX6_digest_56 : decode cX6_digest 56 = .ok (.i2l, 1) := by decide +kernel
theorem dX6_digest_57 : decode cX6_digest 57 = .ok (.ladd, 1) := by decide +kernel
theorem dX6_digest_58 : decode cX6_digest 58 = .ok (.lstore_n 1, 1) := by decide +kernel
theorem dX6_digest_59 : decode cX6_digest 59 = .ok (.iinc 4 1, 3) := by decide +kernel
theorem dX6_digest_62 : decode cX6_digest 62 = .ok (.goto (-34), 3) := by decide +kernel
theorem dX6_digest_65 : decode cX6_digest 65 = .ok (.iinc 3 1, 3) := by decide +kernel
theorem dX6_digest_68 : decode cX6_digest 68 = .ok (.goto (-62), 3) := by decide +kernel
theorem dX6_digest_71 : decode cX6_digest 71 = .ok (.lload_n 1, 1) := by decide +kernel
theorem dX6_digest_72 : decode cX6_digest 72 = .ok (.lreturn, 1) := by decide +kernel
theorem dJ6_bitCount_0f7a4_0 : decode cJ6_bitCount_0f7a4 0 = .ok (.iload_n 0, 1) := by decide +kernel
theorem dJ6_bitCount_0f7a4_1 : decode cJ6_bitCount_0f7a4 1 = .ok (.iload_n 0, 1) := by decide +kernel
theorem dJ6_bitCount_0f7a4_2 : decode cJ6_bitCount_0f7a4 2 = .ok (.iconst 1, 1) := by decide +kernel
theorem dJ6_bitCount_0f7a4_3 : decode cJ6_bitCount_0f7a4 3 = .ok (.iushr, 1) := by decide +kernel
theorem dJ6_bitCount_0f7a4_4 : decode cJ6_bitCount_0f7a4 4 = .ok (.ldc_w 265, 3) := by decide +kernel
theorem dJ6_bitCount_0f7a4_7 : decode cJ6_bitCount_0f7a4 7 = .ok (.iand, 1) := by decide +kernel
theorem dJ6_bitCount_0f7a4_8 : decode cJ6_bitCount_0f7a4 8 = .ok (.isub, 1) := by decide +kernel
theorem dJ6_bitCount_0f7a4_9 : decode cJ6_bitCount_0f7a4 9 = .ok (.istore_n 0, 1) := by decide +kernel
theorem dJ6_bitCount_0f7a4_10 : decode cJ6_bitCount_0f7a4 10 = .ok (.iload_n 0, 1) := by decide +kernel
theorem dJ6_bitCount_0f7a4_11 : decode cJ6_bitCount_0f7a4 11 = .ok (.ldc_w 266, 3) := by decide +kernel
theorem dJ6_bitCount_0f7a4_14 : decode cJ6_bitCount_0f7a4 14 = .ok (.iand, 1) := by decide +kernel
theorem dJ6_bitCount_0f7a4_15 : decode cJ6_bitCount_0f7a4 15 = .ok (.iload_n 0, 1) := by decide +kernel
theorem dJ6_bitCount_0f7a4_16 : decode cJ6_bitCount_0f7a4 16 = .ok (.iconst 2, 1) := by decide +kernel
theorem dJ6_bitCount_0f7a4_17 : decode cJ6_bitCount_0f7a4 17 = .ok (.iushr, 1) := by decide +kernel
theorem dJ6_bitCount_0f7a4_18 : decode cJ6_bitCount_0f7a4 18 = .ok (.ldc_w 266, 3) := by decide +kernel
theorem dJ6_bitCount_0f7a4_21 : decode cJ6_bitCount_0f7a4 21 = .ok (.iand, 1) := by decide +kernel
theorem dJ6_bitCount_0f7a4_22 : decode cJ6_bitCount_0f7a4 22 = .ok (.iadd, 1) := by decide +kernel
theorem dJ6_bitCount_0f7a4_23 : decode cJ6_bitCount_0f7a4 23 = .ok (.istore_n 0, 1) := by decide +kernel
theorem dJ6_bitCount_0f7a4_24 : decode cJ6_bitCount_0f7a4 24 = .ok (.iload_n 0, 1) := by decide +kernel
theorem dJ6_bitCount_0f7a4_25 : decode cJ6_bitCount_0f7a4 25 = .ok (.iload_n 0, 1) := by decide +kernel
theorem dJ6_bitCount_0f7a4_26 : decode cJ6_bitCount_0f7a4 26 = .ok (.iconst 4, 1) := by decide +kernel
theorem dJ6_bitCount_0f7a4_27 : decode cJ6_bitCount_0f7a4 27 = .ok (.iushr, 1) := by decide +kernel
theorem dJ6_bitCount_0f7a4_28 : decode cJ6_bitCount_0f7a4 28 = .ok (.iadd, 1) := by decide +kernel
theorem dJ6_bitCount_0f7a4_29 : decode cJ6_bitCount_0f7a4 29 = .ok (.ldc_w 267, 3) := by decide +kernel
theorem dJ6_bitCount_0f7a4_32 : decode cJ6_bitCount_0f7a4 32 = .ok (.iand, 1) := by decide +kernel
theorem dJ6_bitCount_0f7a4_33 : decode cJ6_bitCount_0f7a4 33 = .ok (.istore_n 0, 1) := by decide +kernel
theorem dJ6_bitCount_0f7a4_34 : decode cJ6_bitCount_0f7a4 34 = .ok (.iload_n 0, 1) := by decide +kernel
theorem dJ6_bitCount_0f7a4_35 : decode cJ6_bitCount_0f7a4 35 = .ok (.iload_n 0, 1) := by decide +kernel
theorem dJ6_bitCount_0f7a4_36 : decode cJ6_bitCount_0f7a4 36 = .ok (.bipush 8, 2) := by decide +kernel
theorem dJ6_bitCount_0f7a4_38 : decode cJ6_bitCount_0f7a4 38 = .ok (.iushr, 1) := by decide +kernel
theorem dJ6_bitCount_0f7a4_39 : decode cJ6_bitCount_0f7a4 39 = .ok (.iadd, 1) := by decide +kernel
theorem dJ6_bitCount_0f7a4_40 : decode cJ6_bitCount_0f7a4 40 = .ok (.istore_n 0, 1) := by decide +kernel
theorem dJ6_bitCount_0f7a4_41 : decode cJ6_bitCount_0f7a4 41 = .ok (.iload_n 0, 1) := by decide +kernel
theorem dJ6_bitCount_0f7a4_42 : decode cJ6_bitCount_0f7a4 42 = .ok (.iload_n 0, 1) := by decide +kernel
theorem dJ6_bitCount_0f7a4_43 : decode cJ6_bitCount_0f7a4 43 = .ok (.bipush 16, 2) := by decide +kernel
theorem dJ6_bitCount_0f7a4_45 : decode cJ6_bitCount_0f7a4 45 = .ok (.iushr, 1) := by decide +kernel
theorem dJ6_bitCount_0f7a4_46 : decode cJ6_bitCount_0f7a4 46 = .ok (.iadd, 1) := by decide +kernel
theorem dJ6_bitCount_0f7a4_47 : decode cJ6_bitCount_0f7a4 47 = .ok (.istore_n 0, 1) := by decide +kernel
theorem dJ6_bitCount_0f7a4_48 : decode cJ6_bitCount_0f7a4 48 = .ok (.iload_n 0, 1) := by decide +kernel
theorem dJ6_bitCount_0f7a4_49 : decode cJ6_bitCount_0f7a4 49 = .ok (.bipush 63, 2) := by decide +kernel
theorem dJ6_bitCount_0f7a4_51 : decode cJ6_bitCount_0f7a4 51 = .ok (.iand, 1) := by decide +kernel
theorem dJ6_bitCount_0f7a4_52 : decode cJ6_bitCount_0f7a4 52 = .ok (.ireturn, 1) := by decide +kernel
theorem dJ13_signum_95d88_0 : decode cJ13_signum_95d88 0 = .ok (.lload_n 0, 1) := by decide +kernel
theorem dJ13_signum_95d88_1 : decode cJ13_signum_95d88 1 = .ok (.bipush 63, 2) := by decide +kernel
theorem dJ13_signum_95d88_3 : decode cJ13_signum_95d88 3 = .ok (.lshr, 1) := by decide +kernel
theorem dJ13_signum_95d88_4 : decode cJ13_signum_95d88 4 = .ok (.lload_n 0, 1) := by decide +kernel
theorem dJ13_signum_95d88_5 : decode cJ13_signum_95d88 5 = .ok (.lneg, 1) := by decide +kernel
theorem dJ13_signum_95d88_6 : decode cJ13_signum_95d88 6 = .ok (.bipush 63, 2) := by decide +kernel
theorem dJ13_signum_95d88_8 : decode cJ13_signum_95d88 8 = .ok (.lushr, 1) := by decide +kernel
theorem dJ13_signum_95d88_9 : decode cJ13_signum_95d88 9 = .ok (.lor, 1) := by decide +kernel
theorem dJ13_signum_95d88_10 : decode cJ13_signum_95d88 10 = .ok (.l2i, 1) := by decide +kernel
theorem dJ13_signum_95d88_11 : decode cJ13_signum_95d88 11 = .ok (.ireturn, 1) := by decide +kernel
theorem dJ9_abs_067f4_0 : decode cJ9_abs_067f4 0 = .ok (.lload_n 0, 1) := by decide +kernel
theorem dJ9_abs_067f4_1 : decode cJ9_abs_067f4 1 = .ok (.lconst 0, 1) := by decide +kernel
theorem dJ9_abs_067f4_2 : decode cJ9_abs_067f4 2 = .ok (.lcmp, 1) := by decide +kernel
theorem dJ9_abs_067f4_3 : decode cJ9_abs_067f4 3 = .ok (.ifCond .ge 8, 3) := by decide +kernel
theorem dJ9_abs_067f4_6 : decode cJ9_abs_067f4 6 = .ok (.lload_n 0, 1) := by decide +kernel
theorem dJ9_abs_067f4_7 : decode cJ9_abs_067f4 7 = .ok (.lneg, 1) := by decide +kernel
theorem dJ9_abs_067f4_8 : decode cJ9_abs_067f4 8 = .ok (.goto 4, 3) := by decide +kernel
theorem dJ9_abs_067f4_11 : decode cJ9_abs_067f4 11 = .ok (.lload_n 0, 1) := by decide +kernel
theorem dJ9_abs_067f4_12 : decode cJ9_abs_067f4 12 = .ok (.lreturn, 1) := by decide +kernel
theorem dJ9_max_7cf53_0 : decode cJ9_max_7cf53 0 = .ok (.iload_n 0, 1) := by decide +kernel
theorem dJ9_max_7cf53_1 : decode cJ9_max_7cf53 1 = .ok (.iload_n 1, 1) := by decide +kernel
theorem dJ9_max_7cf53_2 : decode cJ9_max_7cf53 2 = .ok (.if_icmp .lt 7, 3) := by decide +kernel
theorem dJ9_max_7cf53_5 : decode cJ9_max_7cf53 5 = .ok (.iload_n 0, 1) := by decide +kernel
theorem dJ9_max_7cf53_6 : decode cJ9_max_7cf53 6 = .ok (.goto 4, 3) := by decide +kernel
theorem dJ9_max_7cf53_9 : decode cJ9_max_7cf53 9 = .ok (.iload_n 1, 1) := by decide +kernel
theorem dJ9_max_7cf53_10 : decode cJ9_max_7cf53 10 = .ok (.ireturn, 1) := by decide +kernel
theorem dJ9_min_7cf53_0 : decode cJ9_min_7cf53 0 = .ok (.iload_n 0, 1) := by decide +kernel
theorem dJ9_min_7cf53_1 : decode cJ9_min_7cf53 1 = .ok (.iload_n 1, 1) := by decide +kernel
theorem dJ9_min_7cf53_2 : decode cJ9_min_7cf53 2 = .ok (.if_icmp .gt 7, 3) := by decide +kernel
theorem dJ9_min_7cf53_5 : decode cJ9_min_7cf53 5 = .ok (.iload_n 0, 1) := by decide +kernel
theorem dJ9_min_7cf53_6 : decode cJ9_min_7cf53 6 = .ok (.goto 4, 3) := by decide +kernel
theorem dJ9_min_7cf53_9 : decode cJ9_min_7cf53 9 = .ok (.iload_n 1, 1) := by decide +kernel
theorem dJ9_min_7cf53_10 : decode cJ9_min_7cf53 10 = .ok (.ireturn, 1) := by decide +kernel
theorem dJ7_fill_d0a16_0 : decode cJ7_fill_d0a16 0 = .ok (.iconst 0, 1) := by decide +kernel
theorem dJ7_fill_d0a16_1 : decode cJ7_fill_d0a16 1 = .ok (.istore_n 3, 1) := by decide +kernel
theorem dJ7_fill_d0a16_2 : decode cJ7_fill_d0a16 2 = .ok (.aload_n 0, 1) := by decide +kernel
theorem dJ7_fill_d0a16_3 : decode cJ7_fill_d0a16 3 = .ok (.arraylength, 1) := by decide +kernel
theorem dJ7_fill_d0a16_4 : decode cJ7_fill_d0a16 4 = .ok (.istore 4, 2) := by decide +kernel
theorem dJ7_fill_d0a16_6 : decode cJ7_fill_d0a16 6 = .ok (.iload_n 3, 1) := by decide +kernel
theorem dJ7_fill_d0a16_7 : decode cJ7_fill_d0a16 7 = .ok (.iload 4, 2) := by decide +kernel
theorem dJ7_fill_d0a16_9 : decode cJ7_fill_d0a16 9 = .ok (.if_icmp .ge 13, 3) := by decide +kernel
theorem dJ7_fill_d0a16_12 : decode cJ7_fill_d0a16 12 = .ok (.aload_n 0, 1) := by decide +kernel
theorem dJ7_fill_d0a16_13 : decode cJ7_fill_d0a16 13 = .ok (.iload_n 3, 1) := by decide +kernel
theorem dJ7_fill_d0a16_14 : decode cJ7_fill_d0a16 14 = .ok (.lload_n 1, 1) := by decide +kernel
theorem dJ7_fill_d0a16_15 : decode cJ7_fill_d0a16 15 = .ok (.lastore, 1) := by decide +kernel
theorem dJ7_fill_d0a16_16 : decode cJ7_fill_d0a16 16 = .ok (.iinc 3 1, 3) := by decide +kernel
theorem dJ7_fill_d0a16_19 : decode cJ7_fill_d0a16 19 = .ok (.goto (-13), 3) := by decide +kernel
theorem dJ7_fill_d0a16_22 : decode cJ7_fill_d0a16 22 = .ok (.return_, 1) := by decide +kernel
theorem dJ7_fill_53178_0 : decode cJ7_fill_53178 0 = .ok (.iconst 0, 1) := by decide +kernel
theorem dJ7_fill_53178_1 : decode cJ7_fill_53178 1 = .ok (.istore_n 2, 1) := by decide +kernel
theorem dJ7_fill_53178_2 : decode cJ7_fill_53178 2 = .ok (.aload_n 0, 1) := by decide +kernel
theorem dJ7_fill_53178_3 : decode cJ7_fill_53178 3 = .ok (.arraylength, 1) := by decide +kernel
theorem dJ7_fill_53178_4 : decode cJ7_fill_53178 4 = .ok (.istore_n 3, 1) := by decide +kernel
theorem dJ7_fill_53178_5 : decode cJ7_fill_53178 5 = .ok (.iload_n 2, 1) := by decide +kernel
theorem dJ7_fill_53178_6 : decode cJ7_fill_53178 6 = .ok (.iload_n 3, 1) := by decide +kernel
theorem dJ7_fill_53178_7 : decode cJ7_fill_53178 7 = .ok (.if_icmp .ge 13, 3) := by decide +kernel
theorem dJ7_fill_53178_10 : decode cJ7_fill_53178 10 = .ok (.aload_n 0, 1) := by decide +kernel
theorem dJ7_fill_53178_11 : decode cJ7_fill_53178 11 = .ok (.iload_n 2, 1) := by decide +kernel
theorem dJ7_fill_53178_12 : decode cJ7_fill_53178 12 = .ok (.iload_n 1, 1) := by decide +kernel
theorem dJ7_fill_53178_13 : decode cJ7_fill_53178 13 = .ok (.iastore, 1) := by decide +kernel
theorem dJ7_fill_53178_14 : decode cJ7_fill_53178 14 = .ok (.iinc 2 1, 3) := by decide +kernel
theorem dJ7_fill_53178_17 : decode cJ7_fill_53178 17 = .ok (.goto (-12), 3) := by decide +kernel
theorem dJ7_fill_53178_20 : decode cJ7_fill_53178 20 = .ok (.return_, 1) := by decide +kernel
theorem dL_law_0 : decode cL_law 0 = .ok (.new 7, 3) := by decide +kernel
theorem dL_law_3 : decode cL_law 3 = .ok (.dup, 1) := by decide +kernel
theorem dL_law_4 : decode cL_law 4 = .ok (.invokespecial 9, 3) := by decide +kernel
theorem dL_law_7 : decode cL_law 7 = .ok (.astore_n 1, 1) := by decide +kernel
theorem dL_law_8 : decode cL_law 8 = .ok (.new 10, 3) := by decide +kernel
theorem dL_law_11 : decode cL_law 11 = .ok (.dup, 1) := by decide +kernel
theorem dL_law_12 : decode cL_law 12 = .ok (.invokespecial 12, 3) := by decide +kernel
theorem dL_law_15 : decode cL_law 15 = .ok (.astore_n 2, 1) := by decide +kernel
theorem dL_law_16 : decode cL_law 16 = .ok (.iconst 0, 1) := by decide +kernel
theorem dL_law_17 : decode cL_law 17 = .ok (.istore_n 3, 1) := by decide +kernel
theorem dL_law_18 : decode cL_law 18 = .ok (.iload_n 3, 1) := by decide +kernel
theorem dL_law_19 : decode cL_law 19 = .ok (.aload_n 0, 1) := by decide +kernel
theorem dL_law_20 : decode cL_law 20 = .ok (.arraylength, 1) := by decide +kernel
theorem dL_law_21 : decode cL_law 21 = .ok (.iconst 5, 1) := by decide +kernel
theorem dL_law_22 : decode cL_law 22 = .ok (.isub, 1) := by decide +kernel
theorem dL_law_23 : decode cL_law 23 = .ok (.if_icmp .gt 1021, 3) := by decide +kernel
theorem dL_law_26 : decode cL_law 26 = .ok (.aload_n 0, 1) := by decide +kernel
theorem dL_law_27 : decode cL_law 27 = .ok (.iload_n 3, 1) := by decide +kernel
theorem dL_law_28 : decode cL_law 28 = .ok (.iaload, 1) := by decide +kernel
theorem dL_law_29 : decode cL_law 29 = .ok (.bipush 31, 2) := by decide +kernel
theorem dL_law_31 : decode cL_law 31 = .ok (.iand, 1) := by decide +kernel
theorem dL_law_32 : decode cL_law 32 = .ok (.tableswitch 1006 0 21 #[104, 137, 206, 249, 292, 325, 358, 391, 434, 493, 536, 579, 602, 635, 658, 712, 756, 799, 842, 865, 928, 992], 104) := by decide +kernel
theorem dL_law_136 : decode cL_law 136 = .ok (.aload_n 1, 1) := by decide +kernel
theorem dL_law_137 : decode cL_law 137 = .ok (.aload_n 0, 1) := by decide +kernel
theorem dL_law_138 : decode cL_law 138 = .ok (.iload_n 3, 1) := by decide +kernel
theorem dL_law_139 : decode cL_law 139 = .ok (.iconst 1, 1) := by decide +kernel
theorem dL_law_140 : decode cL_law 140 = .ok (.iadd, 1) := by decide +kernel
theorem dL_law_141 : decode cL_law 141 = .ok (.iaload, 1) := by decide +kernel
theorem dL_law_142 : decode cL_law 142 = .ok (.aload_n 0, 1) := by decide +kernel
theorem dL_law_143 : decode cL_law 143 = .ok (.iload_n 3, 1) := by decide +kernel
theorem dL_law_144 : decode cL_law 144 = .ok (.iconst 2, 1) := by decide +kernel
theorem dL_law_145 : decode cL_law 145 = .ok (.iadd, 1) := by decide +kernel
theorem dL_law_146 : decode cL_law 146 = .ok (.iaload, 1) := by decide +kernel
theorem dL_law_147 : decode cL_law 147 = .ok (.invokevirtual 13, 3) := by decide +kernel
theorem dL_law_150 : decode cL_law 150 = .ok (.aload_n 2, 1) := by decide +kernel
theorem dL_law_151 : decode cL_law 151 = .ok (.aload_n 0, 1) := by decide +kernel
theorem dL_law_152 : decode cL_law 152 = .ok (.iload_n 3, 1) := by decide +kernel
theorem dL_law_153 : decode cL_law 153 = .ok (.iconst 1, 1) := by decide +kernel
theorem dL_law_154 : decode cL_law 154 = .ok (.iadd, 1) := by decide +kernel
theorem dL_law_155 : decode cL_law 155 = .ok (.iaload, 1) := by decide +kernel
theorem dL_law_156 : decode cL_law 156 = .ok (.aload_n 0, 1) := by decide +kernel
theorem dL_law_157 : decode cL_law 157 = .ok (.iload_n 3, 1) := by decide +kernel
theorem dL_law_158 : decode cL_law 158 = .ok (.iconst 2, 1) := by decide +kernel
theorem dL_law_159 : decode cL_law 159 = .ok (.iadd, 1) := by decide +kernel
theorem dL_law_160 : decode cL_law 160 = .ok (.iaload, 1) := by decide +kernel
theorem dL_law_161 : decode cL_law 161 = .ok (.invokevirtual 17, 3) := by decide +kernel
theorem dL_law_164 : decode cL_law 164 = .ok (.if_icmp .eq 874, 3) := by decide +kernel
theorem dL_law_167 : decode cL_law 167 = .ok (.iconst 0, 1) := by decide +kernel
theorem dL_law_168 : decode cL_law 168 = .ok (.ireturn, 1) := by decide +kernel
theorem dL_law_169 : decode cL_law 169 = .ok (.aload_n 1, 1) := by decide +kernel
theorem dL_law_170 : decode cL_law 170 = .ok (.aload_n 0, 1) := by decide +kernel
theorem dL_law_171 : decode cL_law 171 = .ok (.iload_n 3, 1) := by decide +kernel
theorem dL_law_172 : decode cL_law 172 = .ok (.iconst 1, 1) := by decide +kernel
theorem dL_law_173 : decode cL_law 173 = .ok (.iadd, 1) := by decide +kernel
theorem dL_law_174 : decode cL_law 174 = .ok (.iaload, 1) := by decide +kernel
theorem dL_law_175 : decode cL_law 175 = .ok (.aload_n 0, 1) := by decide +kernel
theorem dL_law_176 : decode cL_law 176 = .ok (.iload_n 3, 1) := by decide +kernel
theorem dL_law_177 : decode cL_law 177 = .ok (.iconst 2, 1) := by decide +kernel
theorem dL_law_178 : decode cL_law 178 = .ok (.iadd, 1) := by decide +kernel
theorem dL_law_179 : decode cL_law 179 = .ok (.iaload, 1) := by decide +kernel
theorem dL_law_180 : decode cL_law 180 = .ok (.aload_n 0, 1) := by decide +kernel
theorem dL_law_181 : decode cL_law 181 = .ok (.iload_n 3, 1) := by decide +kernel
theorem dL_law_182 : decode cL_law 182 = .ok (.iconst 3, 1) := by decide +kernel
theorem dL_law_183 : decode cL_law 183 = .ok (.iadd, 1) := by decide +kernel
theorem dL_law_184 : decode cL_law 184 = .ok (.iaload, 1) := by decide +kernel
theorem dL_law_185 : decode cL_law 185 = .ok (.aload_n 0, 1) := by decide +kernel
theorem dL_law_186 : decode cL_law 186 = .ok (.iload_n 3, 1) := by decide +kernel
theorem dL_law_187 : decode cL_law 187 = .ok (.iconst 4, 1) := by decide +kernel
theorem dL_law_188 : decode cL_law 188 = .ok (.iadd, 1) := by decide +kernel
theorem dL_law_189 : decode cL_law 189 = .ok (.iaload, 1) := by decide +kernel
theorem dL_law_190 : decode cL_law 190 = .ok (.ifCond .eq 7, 3) := by decide +kernel
theorem dL_law_193 : decode cL_law 193 = .ok (.iconst 1, 1) := by decide +kernel
theorem dL_law_194 : decode cL_law 194 = .ok (.goto 4, 3) := by decide +kernel
theorem dL_law_197 : decode cL_law 197 = .ok (.iconst 0, 1) := by decide +kernel
theorem dL_law_198 : decode cL_law 198 = .ok (.invokevirtual 18, 3) := by decide +kernel
theorem dL_law_201 : decode cL_law 201 = .ok (.aload_n 2, 1) := by decide +kernel
theorem dL_law_202 : decode cL_law 202 = .ok (.aload_n 0, 1) := by decide +kernel
theorem dL_law_203 : decode cL_law 203 = .ok (.iload_n 3, 1) := by decide +kernel
theorem dL_law_204 : decode cL_law 204 = .ok (.iconst 1, 1) := by decide +kernel
theorem dL_law_205 : decode cL_law 205 = .ok (.iadd, 1) := by decide +kernel
theorem dL_law_206 : decode cL_law 206 = .ok (.iaload, 1) := by decide +kernel
theorem dL_law_207 : decode cL_law 207 = .ok (.aload_n 0, 1) := by decide +kernel
theorem dL_law_208 : decode cL_law 208 = .ok (.iload_n 3, 1) := by decide +kernel
theorem dL_law_209 : decode cL_law 209 = .ok (.iconst 2, 1) := by decide +kernel
theorem dL_law_210 : decode cL_law 210 = .ok (.iadd, 1) := by decide +kernel
theorem dL_law_211 : decode cL_law 211 = .ok (.iaload, 1) := by decide +kernel
theorem dL_law_212 : decode cL_law 212 = .ok (.aload_n 0, 1) := by decide +kernel
theorem dL_law_213 : decode cL_law 213 = .ok (.iload_n 3, 1) := by decide +kernel
theorem dL_law_214 : decode cL_law 214 = .ok (.iconst 3, 1) := by decide +kernel
theorem dL_law_215 : decode cL_law 215 = .ok (.iadd, 1) := by decide +kernel
theorem dL_law_216 : decode cL_law 216 = .ok (.iaload, 1) := by decide +kernel
theorem dL_law_217 : decode cL_law 217 = .ok (.aload_n 0, 1) := by decide +kernel
theorem dL_law_218 : decode cL_law 218 = .ok (.iload_n 3, 1) := by decide +kernel
theorem dL_law_219 : decode cL_law 219 = .ok (.iconst 4, 1) := by decide +kernel
theorem dL_law_220 : decode cL_law 220 = .ok (.iadd, 1) := by decide +kernel
theorem dL_law_221 : decode cL_law 221 = .ok (.iaload, 1) := by decide +kernel
theorem dL_law_222 : decode cL_law 222 = .ok (.ifCond .eq 7, 3) := by decide +kernel
theorem dL_law_225 : decode cL_law 225 = .ok (.iconst 1, 1) := by decide +kernel
theorem dL_law_226 : decode cL_law 226 = .ok (.goto 4, 3) := by decide +kernel
theorem dL_law_229 : decode cL_law 229 = .ok (.iconst 0, 1) := by decide +kernel
theorem dL_law_230 : decode cL_law 230 = .ok (.invokevirtual 22, 3) := by decide +kernel
theorem dL_law_233 : decode cL_law 233 = .ok (.if_icmp .eq 805, 3) := by decide +kernel
theorem dL_law_236 : decode cL_law 236 = .ok (.iconst 0, 1) := by decide +kernel
theorem dL_law_237 : decode cL_law 237 = .ok (.ireturn, 1) := by decide +kernel
theorem dL_law_238 : decode cL_law 238 = .ok (.aload_n 1, 1) := by decide +kernel
theorem dL_law_239 : decode cL_law 239 = .ok (.aload_n 0, 1) := by decide +kernel
theorem dL_law_240 : decode cL_law 240 = .ok (.iload_n 3, 1) := by decide +kernel
theorem dL_law_241 : decode cL_law 241 = .ok (.iconst 1, 1) := by decide +kernel
theorem dL_law_242 : decode cL_law 242 = .ok (.iadd, 1) := by decide +kernel
theorem dL_law_243 : decode cL_law 243 = .ok (.iaload, 1) := by decide +kernel
theorem dL_law_244 : decode cL_law 244 = .ok (.aload_n 0, 1) := by decide +kernel
theorem dL_law_245 : decode cL_law 245 = .ok (.iload_n 3, 1) := by decide +kernel
theorem dL_law_246 : decode cL_law 246 = .ok (.iconst 2, 1) := by decide +kernel
theorem dL_law_247 : decode cL_law 247 = .ok (.iadd, 1) := by decide +kernel
theorem dL_law_248 : decode cL_law 248 = .ok (.iaload, 1) := by decide +kernel
theorem dL_law_249 : decode cL_law 249 = .ok (.aload_n 0, 1) := by decide +kernel
theorem dL_law_250 : decode cL_law 250 = .ok (.iload_n 3, 1) := by decide +kernel
theorem dL_law_251 : decode cL_law 251 = .ok (.iconst 3, 1) := by decide +kernel
theorem dL_law_252 : decode cL_law 252 = .ok (.iadd, 1) := by decide +kernel
theorem dL_law_253 : decode cL_law 253 = .ok (.iaload, 1) := by decide +kernel
theorem dL_law_254 : decode cL_law 254 = .ok (.invokevirtual 23, 3) := by decide +kernel
theorem dL_law_257 : decode cL_law 257 = .ok (.aload_n 2, 1) := by decide +kernel
theorem dL_law_258 : decode cL_law 258 = .ok (.aload_n 0, 1) := by decide +kernel
theorem dL_law_259 : decode cL_law 259 = .ok (.iload_n 3, 1) := by decide +kernel
theorem dL_law_260 : decode cL_law 260 = .ok (.iconst 1, 1) := by decide +kernel
theorem dL_law_261 : decode cL_law 261 = .ok (.iadd, 1) := by decide +kernel
theorem dL_law_262 : decode cL_law 262 = .ok (.iaload, 1) := by decide +kernel
theorem dL_law_263 : decode cL_law 263 = .ok (.aload_n 0, 1) := by decide +kernel
theorem dL_law_264 : decode cL_law 264 = .ok (.iload_n 3, 1) := by decide +kernel
theorem dL_law_265 : decode cL_law 265 = .ok (.iconst 2, 1) := by decide +kernel
theorem dL_law_266 : decode cL_law 266 = .ok (.iadd, 1) := by decide +kernel
theorem dL_law_267 : decode cL_law 267 = .ok (.iaload, 1) := by decide +kernel
theorem dL_law_268 : decode cL_law 268 = .ok (.aload_n 0, 1) := by decide +kernel
theorem dL_law_269 : decode cL_law 269 = .ok (.iload_n 3, 1) := by decide +kernel
theorem dL_law_270 : decode cL_law 270 = .ok (.iconst 3, 1) := by decide +kernel
theorem dL_law_271 : decode cL_law 271 = .ok (.iadd, 1) := by decide +kernel
theorem dL_law_272 : decode cL_law 272 = .ok (.iaload, 1) := by decide +kernel
theorem dL_law_273 : decode cL_law 273 = .ok (.invokevirtual 27, 3) := by decide +kernel
theorem dL_law_276 : decode cL_law 276 = .ok (.if_icmp .eq 762, 3) := by decide +kernel
theorem dL_law_279 : decode cL_law 279 = .ok (.iconst 0, 1) := by decide +kernel
theorem dL_law_280 : decode cL_law 280 = .ok (.ireturn, 1) := by decide +kernel
theorem dL_law_281 : decode cL_law 281 = .ok (.aload_n 1, 1) := by decide +kernel
theorem dL_law_282 : decode cL_law 282 = .ok (.aload_n 0, 1) := by decide +kernel
theorem dL_law_283 : decode cL_law 283 = .ok (.iload_n 3, 1) := by decide +kernel
theorem dL_law_284 : decode cL_law 284 = .ok (.iconst 1, 1) := by decide +kernel
theorem dL_law_285 : decode cL_law 285 = .ok (.iadd, 1) := by decide +kernel
theorem dL_law_286 : decode cL_law 286 = .ok (.iaload, 1) := by decide +kernel
theorem dL_law_287 : decode cL_law 287 = .ok (.aload_n 0, 1) := by decide +kernel
theorem dL_law_288 : decode cL_law 288 = .ok (.iload_n 3, 1) := by decide +kernel
theorem dL_law_289 : decode cL_law 289 = .ok (.iconst 2, 1) := by decide +kernel
theorem dL_law_290 : decode cL_law 290 = .ok (.iadd, 1) := by decide +kernel
theorem dL_law_291 : decode cL_law 291 = .ok (.iaload, 1) := by decide +kernel
theorem dL_law_292 : decode cL_law 292 = .ok (.aload_n 0, 1) := by decide +kernel
theorem dL_law_293 : decode cL_law 293 = .ok (.iload_n 3, 1) := by decide +kernel
theorem dL_law_294 : decode cL_law 294 = .ok (.iconst 3, 1) := by decide +kernel
theorem dL_law_295 : decode cL_law 295 = .ok (.iadd, 1) := by decide +kernel
theorem dL_law_296 : decode cL_law 296 = .ok (.iaload, 1) := by decide +kernel
theorem dL_law_297 : decode cL_law 297 = .ok (.invokevirtual 28, 3) := by decide +kernel
theorem dL_law_300 : decode cL_law 300 = .ok (.aload_n 2, 1) := by decide +kernel
theorem dL_law_301 : decode cL_law 301 = .ok (.aload_n 0, 1) := by decide +kernel
theorem dL_law_302 : decode cL_law 302 = .ok (.iload_n 3, 1) := by decide +kernel
theorem dL_law_303 : decode cL_law 303 = .ok (.iconst 1, 1) := by decide +kernel
theorem dL_law_304 : decode cL_law 304 = .ok (.iadd, 1) := by decide +kernel
theorem dL_law_305 : decode cL_law 305 = .ok (.iaload, 1) := by decide +kernel
theorem dL_law_306 : decode cL_law 306 = .ok (.aload_n 0, 1) := by decide +kernel
theorem dL_law_307 : decode cL_law 307 = .ok (.iload_n 3, 1) := by decide +kernel
theorem dL_law_308 : decode cL_law 308 = .ok (.iconst 2, 1) := by decide +kernel
theorem dL_law_309 : decode cL_law 309 = .ok (.iadd, 1) := by decide +kernel
theorem dL_law_310 : decode cL_law 310 = .ok (.iaload, 1) := by decide +kernel
theorem dL_law_311 : decode cL_law 311 = .ok (.aload_n 0, 1) := by decide +kernel
theorem dL_law_312 : decode cL_law 312 = .ok (.iload_n 3, 1) := by decide +kernel
theorem dL_law_313 : decode cL_law 313 = .ok (.iconst 3, 1) := by decide +kernel
theorem dL_law_314 : decode cL_law 314 = .ok (.iadd, 1) := by decide +kernel
theorem dL_law_315 : decode cL_law 315 = .ok (.iaload, 1) := by decide +kernel
theorem dL_law_316 : decode cL_law 316 = .ok (.invokevirtual 31, 3) := by decide +kernel
theorem dL_law_319 : decode cL_law 319 = .ok (.if_icmp .eq 719, 3) := by decide +kernel
theorem dL_law_322 : decode cL_law 322 = .ok (.iconst 0, 1) := by decide +kernel
theorem dL_law_323 : decode cL_law 323 = .ok (.ireturn, 1) := by decide +kernel
theorem dL_law_324 : decode cL_law 324 = .ok (.aload_n 1, 1) := by decide +kernel
theorem dL_law_325 : decode cL_law 325 = .ok (.aload_n 0, 1) := by decide +kernel
theorem dL_law_326 : decode cL_law 326 = .ok (.iload_n 3, 1) := by decide +kernel
theorem dL_law_327 : decode cL_law 327 = .ok (.iconst 1, 1) := by decide +kernel
theorem dL_law_328 : decode cL_law 328 = .ok (.iadd, 1) := by decide +kernel
theorem dL_law_329 : decode cL_law 329 = .ok (.iaload, 1) := by decide +kernel
theorem dL_law_330 : decode cL_law 330 = .ok (.aload_n 0, 1) := by decide +kernel
theorem dL_law_331 : decode cL_law 331 = .ok (.iload_n 3, 1) := by decide +kernel
theorem dL_law_332 : decode cL_law 332 = .ok (.iconst 2, 1) := by decide +kernel
theorem dL_law_333 : decode cL_law 333 = .ok (.iadd, 1) := by decide +kernel
theorem dL_law_334 : decode cL_law 334 = .ok (.iaload, 1) := by decide +kernel
theorem dL_law_335 : decode cL_law 335 = .ok (.invokevirtual 32, 3) := by decide +kernel
theorem dL_law_338 : decode cL_law 338 = .ok (.aload_n 2, 1) := by decide +kernel
theorem dL_law_339 : decode cL_law 339 = .ok (.aload_n 0, 1) := by decide +kernel
theorem dL_law_340 : decode cL_law 340 = .ok (.iload_n 3, 1) := by decide +kernel
theorem dL_law_341 : decode cL_law 341 = .ok (.iconst 1, 1) := by decide +kernel
theorem dL_law_342 : decode cL_law 342 = .ok (.iadd, 1) := by decide +kernel
theorem dL_law_343 : decode cL_law 343 = .ok (.iaload, 1) := by decide +kernel
theorem dL_law_344 : decode cL_law 344 = .ok (.aload_n 0, 1) := by decide +kernel
theorem dL_law_345 : decode cL_law 345 = .ok (.iload_n 3, 1) := by decide +kernel
theorem dL_law_346 : decode cL_law 346 = .ok (.iconst 2, 1) := by decide +kernel
theorem dL_law_347 : decode cL_law 347 = .ok (.iadd, 1) := by decide +kernel
theorem dL_law_348 : decode cL_law 348 = .ok (.iaload, 1) := by decide +kernel
theorem dL_law_349 : decode cL_law 349 = .ok (.invokevirtual 35, 3) := by decide +kernel
theorem dL_law_352 : decode cL_law 352 = .ok (.if_icmp .eq 686, 3) := by decide +kernel
theorem dL_law_355 : decode cL_law 355 = .ok (.iconst 0, 1) := by decide +kernel
theorem dL_law_356 : decode cL_law 356 = .ok (.ireturn, 1) := by decide +kernel
theorem dL_law_357 : decode cL_law 357 = .ok (.aload_n 1, 1) := by decide +kernel
theorem dL_law_358 : decode cL_law 358 = .ok (.aload_n 0, 1) := by decide +kernel
theorem dL_law_359 : decode cL_law 359 = .ok (.iload_n 3, 1) := by decide +kernel
theorem dL_law_360 : decode cL_law 360 = .ok (.iconst 1, 1) := by decide +kernel
theorem dL_law_361 : decode cL_law 361 = .ok (.iadd, 1) := by decide +kernel
theorem dL_law_362 : decode cL_law 362 = .ok (.iaload, 1) := by decide +kernel
theorem dL_law_363 : decode cL_law 363 = .ok (.aload_n 0, 1) := by decide +kernel
theorem dL_law_364 : decode cL_law 364 = .ok (.iload_n 3, 1) := by decide +kernel
theorem dL_law_365 : decode cL_law 365 = .ok (.iconst 2, 1) := by decide +kernel
theorem dL_law_366 : decode cL_law 366 = .ok (.iadd, 1) := by decide +kernel
theorem dL_law_367 : decode cL_law 367 = .ok (.iaload, 1) := by decide +kernel
theorem dL_law_368 : decode cL_law 368 = .ok (.invokevirtual 36, 3) := by decide +kernel
theorem dL_law_371 : decode cL_law 371 = .ok (.aload_n 2, 1) := by decide +kernel
theorem dL_law_372 : decode cL_law 372 = .ok (.aload_n 0, 1) := by decide +kernel
theorem dL_law_373 : decode cL_law 373 = .ok (.iload_n 3, 1) := by decide +kernel
theorem dL_law_374 : decode cL_law 374 = .ok (.iconst 1, 1) := by decide +kernel
theorem dL_law_375 : decode cL_law 375 = .ok (.iadd, 1) := by decide +kernel
theorem dL_law_376 : decode cL_law 376 = .ok (.iaload, 1) := by decide +kernel
theorem dL_law_377 : decode cL_law 377 = .ok (.aload_n 0, 1) := by decide +kernel
theorem dL_law_378 : decode cL_law 378 = .ok (.iload_n 3, 1) := by decide +kernel
theorem dL_law_379 : decode cL_law 379 = .ok (.iconst 2, 1) := by decide +kernel
theorem dL_law_380 : decode cL_law 380 = .ok (.iadd, 1) := by decide +kernel
theorem dL_law_381 : decode cL_law 381 = .ok (.iaload, 1) := by decide +kernel
theorem dL_law_382 : decode cL_law 382 = .ok (.invokevirtual 39, 3) := by decide +kernel
theorem dL_law_385 : decode cL_law 385 = .ok (.if_icmp .eq 653, 3) := by decide +kernel
theorem dL_law_388 : decode cL_law 388 = .ok (.iconst 0, 1) := by decide +kernel
theorem dL_law_389 : decode cL_law 389 = .ok (.ireturn, 1) := by decide +kernel
theorem dL_law_390 : decode cL_law 390 = .ok (.aload_n 1, 1) := by decide +kernel
theorem dL_law_391 : decode cL_law 391 = .ok (.aload_n 0, 1) := by decide +kernel
theorem dL_law_392 : decode cL_law 392 = .ok (.iload_n 3, 1) := by decide +kernel
theorem dL_law_393 : decode cL_law 393 = .ok (.iconst 1, 1) := by decide +kernel
theorem dL_law_394 : decode cL_law 394 = .ok (.iadd, 1) := by decide +kernel
theorem dL_law_395 : decode cL_law 395 = .ok (.iaload, 1) := by decide +kernel
theorem dL_law_396 : decode cL_law 396 = .ok (.aload_n 0, 1) := by decide +kernel
theorem dL_law_397 : decode cL_law 397 = .ok (.iload_n 3, 1) := by decide +kernel
theorem dL_law_398 : decode cL_law 398 = .ok (.iconst 2, 1) := by decide +kernel
theorem dL_law_399 : decode cL_law 399 = .ok (.iadd, 1) := by decide +kernel
theorem dL_law_400 : decode cL_law 400 = .ok (.iaload, 1) := by decide +kernel
theorem dL_law_401 : decode cL_law 401 = .ok (.invokevirtual 40, 3) := by decide +kernel
theorem dL_law_404 : decode cL_law 404 = .ok (.aload_n 2, 1) := by decide +kernel
theorem dL_law_405 : decode cL_law 405 = .ok (.aload_n 0, 1) := by decide +kernel
theorem dL_law_406 : decode cL_law 406 = .ok (.iload_n 3, 1) := by decide +kernel
theorem dL_law_407 : decode cL_law 407 = .ok (.iconst 1, 1) := by decide +kernel
theorem dL_law_408 : decode cL_law 408 = .ok (.iadd, 1) := by decide +kernel
theorem dL_law_409 : decode cL_law 409 = .ok (.iaload, 1) := by decide +kernel
theorem dL_law_410 : decode cL_law 410 = .ok (.aload_n 0, 1) := by decide +kernel
theorem dL_law_411 : decode cL_law 411 = .ok (.iload_n 3, 1) := by decide +kernel
theorem dL_law_412 : decode cL_law 412 = .ok (.iconst 2, 1) := by decide +kernel
theorem dL_law_413 : decode cL_law 413 = .ok (.iadd, 1) := by decide +kernel
theorem dL_law_414 : decode cL_law 414 = .ok (.iaload, 1) := by decide +kernel
theorem dL_law_415 : decode cL_law 415 = .ok (.invokevirtual 43, 3) := by decide +kernel
theorem dL_law_418 : decode cL_law 418 = .ok (.if_icmp .eq 620, 3) := by decide +kernel
theorem dL_law_421 : decode cL_law 421 = .ok (.iconst 0, 1) := by decide +kernel
theorem dL_law_422 : decode cL_law 422 = .ok (.ireturn, 1) := by decide +kernel
theorem dL_law_423 : decode cL_law 423 = .ok (.aload_n 1, 1) := by decide +kernel
theorem dL_law_424 : decode cL_law 424 = .ok (.aload_n 0, 1) := by decide +kernel
theorem dL_law_425 : decode cL_law 425 = .ok (.iload_n 3, 1) := by decide +kernel
theorem dL_law_426 : decode cL_law 426 = .ok (.iconst 1, 1) := by decide +kernel
theorem dL_law_427 : decode cL_law 427 = .ok (.iadd, 1) := by decide +kernel
theorem dL_law_428 : decode cL_law 428 = .ok (.iaload, 1) := by decide +kernel
theorem dL_law_429 : decode cL_law 429 = .ok (.aload_n 0, 1) := by decide +kernel
theorem dL_law_430 : decode cL_law 430 = .ok (.iload_n 3, 1) := by decide +kernel
theorem dL_law_431 : decode cL_law 431 = .ok (.iconst 2, 1) := by decide +kernel
theorem dL_law_432 : decode cL_law 432 = .ok (.iadd, 1) := by decide +kernel
theorem dL_law_433 : decode cL_law 433 = .ok (.iaload, 1) := by decide +kernel
theorem dL_law_434 : decode cL_law 434 = .ok (.aload_n 0, 1) := by decide +kernel
theorem dL_law_435 : decode cL_law 435 = .ok (.iload_n 3, 1) := by decide +kernel
theorem dL_law_436 : decode cL_law 436 = .ok (.iconst 3, 1) := by decide +kernel
theorem dL_law_437 : decode cL_law 437 = .ok (.iadd, 1) := by decide +kernel
theorem dL_law_438 : decode cL_law 438 = .ok (.iaload, 1) := by decide +kernel
theorem dL_law_439 : decode cL_law 439 = .ok (.invokevirtual 44, 3) := by decide +kernel
theorem dL_law_442 : decode cL_law 442 = .ok (.aload_n 2, 1) := by decide +kernel
theorem dL_law_443 : decode cL_law 443 = .ok (.aload_n 0, 1) := by decide +kernel
theorem dL_law_444 : decode cL_law 444 = .ok (.iload_n 3, 1) := by decide +kernel
theorem dL_law_445 : decode cL_law 445 = .ok (.iconst 1, 1) := by decide +kernel
theorem dL_law_446 : decode cL_law 446 = .ok (.iadd, 1) := by decide +kernel
theorem dL_law_447 : decode cL_law 447 = .ok (.iaload, 1) := by decide +kernel
theorem dL_law_448 : decode cL_law 448 = .ok (.aload_n 0, 1) := by decide +kernel
theorem dL_law_449 : decode cL_law 449 = .ok (.iload_n 3, 1) := by decide +kernel
theorem dL_law_450 : decode cL_law 450 = .ok (.iconst 2, 1) := by decide +kernel
theorem dL_law_451 : decode cL_law 451 = .ok (.iadd, 1) := by decide +kernel
theorem dL_law_452 : decode cL_law 452 = .ok (.iaload, 1) := by decide +kernel
theorem dL_law_453 : decode cL_law 453 = .ok (.aload_n 0, 1) := by decide +kernel
theorem dL_law_454 : decode cL_law 454 = .ok (.iload_n 3, 1) := by decide +kernel
theorem dL_law_455 : decode cL_law 455 = .ok (.iconst 3, 1) := by decide +kernel
theorem dL_law_456 : decode cL_law 456 = .ok (.iadd, 1) := by decide +kernel
theorem dL_law_457 : decode cL_law 457 = .ok (.iaload, 1) := by decide +kernel
theorem dL_law_458 : decode cL_law 458 = .ok (.invokevirtual 47, 3) := by decide +kernel
theorem dL_law_461 : decode cL_law 461 = .ok (.if_icmp .eq 577, 3) := by decide +kernel
theorem dL_law_464 : decode cL_law 464 = .ok (.iconst 0, 1) := by decide +kernel
theorem dL_law_465 : decode cL_law 465 = .ok (.ireturn, 1) := by decide +kernel
theorem dL_law_466 : decode cL_law 466 = .ok (.aload_n 1, 1) := by decide +kernel
theorem dL_law_467 : decode cL_law 467 = .ok (.aload_n 0, 1) := by decide +kernel
theorem dL_law_468 : decode cL_law 468 = .ok (.iload_n 3, 1) := by decide +kernel
theorem dL_law_469 : decode cL_law 469 = .ok (.iconst 1, 1) := by decide +kernel
theorem dL_law_470 : decode cL_law 470 = .ok (.iadd, 1) := by decide +kernel
theorem dL_law_471 : decode cL_law 471 = .ok (.iaload, 1) := by decide +kernel
theorem dL_law_472 : decode cL_law 472 = .ok (.aload_n 0, 1) := by decide +kernel
theorem dL_law_473 : decode cL_law 473 = .ok (.iload_n 3, 1) := by decide +kernel
theorem dL_law_474 : decode cL_law 474 = .ok (.iconst 2, 1) := by decide +kernel
theorem dL_law_475 : decode cL_law 475 = .ok (.iadd, 1) := by decide +kernel
theorem dL_law_476 : decode cL_law 476 = .ok (.iaload, 1) := by decide +kernel
theorem dL_law_477 : decode cL_law 477 = .ok (.ifCond .eq 7, 3) := by decide +kernel
theorem dL_law_480 : decode cL_law 480 = .ok (.iconst 1, 1) := by decide +kernel
theorem dL_law_481 : decode cL_law 481 = .ok (.goto 4, 3) := by decide +kernel
theorem dL_law_484 : decode cL_law 484 = .ok (.iconst 0, 1) := by decide +kernel
theorem dL_law_485 : decode cL_law 485 = .ok (.aload_n 0, 1) := by decide +kernel
theorem dL_law_486 : decode cL_law 486 = .ok (.iload_n 3, 1) := by decide +kernel
theorem dL_law_487 : decode cL_law 487 = .ok (.iconst 3, 1) := by decide +kernel
theorem dL_law_488 : decode cL_law 488 = .ok (.iadd, 1) := by decide +kernel
theorem dL_law_489 : decode cL_law 489 = .ok (.iaload, 1) := by decide +kernel
theorem dL_law_490 : decode cL_law 490 = .ok (.invokevirtual 48, 3) := by decide +kernel
theorem dL_law_493 : decode cL_law 493 = .ok (.aload_n 2, 1) := by decide +kernel
theorem dL_law_494 : decode cL_law 494 = .ok (.aload_n 0, 1) := by decide +kernel
theorem dL_law_495 : decode cL_law 495 = .ok (.iload_n 3, 1) := by decide +kernel
theorem dL_law_496 : decode cL_law 496 = .ok (.iconst 1, 1) := by decide +kernel
theorem dL_law_497 : decode cL_law 497 = .ok (.iadd, 1) := by decide +kernel
theorem dL_law_498 : decode cL_law 498 = .ok (.iaload, 1) := by decide +kernel
theorem dL_law_499 : decode cL_law 499 = .ok (.aload_n 0, 1) := by decide +kernel
theorem dL_law_500 : decode cL_law 500 = .ok (.iload_n 3, 1) := by decide +kernel
theorem dL_law_501 : decode cL_law 501 = .ok (.iconst 2, 1) := by decide +kernel
theorem dL_law_502 : decode cL_law 502 = .ok (.iadd, 1) := by decide +kernel
theorem dL_law_503 : decode cL_law 503 = .ok (.iaload, 1) := by decide +kernel
theorem dL_law_504 : decode cL_law 504 = .ok (.ifCond .eq 7, 3) := by decide +kernel
theorem dL_law_507 : decode cL_law 507 = .ok (.iconst 1, 1) := by decide +kernel
theorem dL_law_508 : decode cL_law 508 = .ok (.goto 4, 3) := by decide +kernel
theorem dL_law_511 : decode cL_law 511 = .ok (.iconst 0, 1) := by decide +kernel
theorem dL_law_512 : decode cL_law 512 = .ok (.aload_n 0, 1) := by decide +kernel
theorem dL_law_513 : decode cL_law 513 = .ok (.iload_n 3, 1) := by decide +kernel
theorem dL_law_514 : decode cL_law 514 = .ok (.iconst 3, 1) := by decide +kernel
theorem dL_law_515 : decode cL_law 515 = .ok (.iadd, 1) := by decide +kernel
theorem dL_law_516 : decode cL_law 516 = .ok (.iaload, 1) := by decide +kernel
theorem dL_law_517 : decode cL_law 517 = .ok (.invokevirtual 52, 3) := by decide +kernel
theorem dL_law_520 : decode cL_law 520 = .ok (.if_icmp .eq 518, 3) := by decide +kernel
theorem dL_law_523 : decode cL_law 523 = .ok (.iconst 0, 1) := by decide +kernel
theorem dL_law_524 : decode cL_law 524 = .ok (.ireturn, 1) := by decide +kernel
theorem dL_law_525 : decode cL_law 525 = .ok (.aload_n 1, 1) := by decide +kernel
theorem dL_law_526 : decode cL_law 526 = .ok (.aload_n 0, 1) := by decide +kernel
theorem dL_law_527 : decode cL_law 527 = .ok (.iload_n 3, 1) := by decide +kernel
theorem dL_law_528 : decode cL_law 528 = .ok (.iconst 1, 1) := by decide +kernel
theorem dL_law_529 : decode cL_law 529 = .ok (.iadd, 1) := by decide +kernel
theorem dL_law_530 : decode cL_law 530 = .ok (.iaload, 1) := by decide +kernel
theorem dL_law_531 : decode cL_law 531 = .ok (.aload_n 0, 1) := by decide +kernel
theorem dL_law_532 : decode cL_law 532 = .ok (.iload_n 3, 1) := by decide +kernel
theorem dL_law_533 : decode cL_law 533 = .ok (.iconst 2, 1) := by decide +kernel
theorem dL_law_534 : decode cL_law 534 = .ok (.iadd, 1) := by decide +kernel
theorem dL_law_535 : decode cL_law 535 = .ok (.iaload, 1) := by decide +kernel
theorem dL_law_536 : decode cL_law 536 = .ok (.aload_n 0, 1) := by decide +kernel
theorem dL_law_537 : decode cL_law 537 = .ok (.iload_n 3, 1) := by decide +kernel
theorem dL_law_538 : decode cL_law 538 = .ok (.iconst 3, 1) := by decide +kernel
theorem dL_law_539 : decode cL_law 539 = .ok (.iadd, 1) := by decide +kernel
theorem dL_law_540 : decode cL_law 540 = .ok (.iaload, 1) := by decide +kernel
theorem dL_law_541 : decode cL_law 541 = .ok (.invokevirtual 53, 3) := by decide +kernel
theorem dL_law_544 : decode cL_law 544 = .ok (.aload_n 2, 1) := by decide +kernel
theorem dL_law_545 : decode cL_law 545 = .ok (.aload_n 0, 1) := by decide +kernel
theorem dL_law_546 : decode cL_law 546 = .ok (.iload_n 3, 1) := by decide +kernel
theorem dL_law_547 : decode cL_law 547 = .ok (.iconst 1, 1) := by decide +kernel
theorem dL_law_548 : decode cL_law 548 = .ok (.iadd, 1) := by decide +kernel
theorem dL_law_549 : decode cL_law 549 = .ok (.iaload, 1) := by decide +kernel
theorem dL_law_550 : decode cL_law 550 = .ok (.aload_n 0, 1) := by decide +kernel
theorem dL_law_551 : decode cL_law 551 = .ok (.iload_n 3, 1) := by decide +kernel
theorem dL_law_552 : decode cL_law 552 = .ok (.iconst 2, 1) := by decide +kernel
theorem dL_law_553 : decode cL_law 553 = .ok (.iadd, 1) := by decide +kernel
theorem dL_law_554 : decode cL_law 554 = .ok (.iaload, 1) := by decide +kernel
theorem dL_law_555 : decode cL_law 555 = .ok (.aload_n 0, 1) := by decide +kernel
theorem dL_law_556 : decode cL_law 556 = .ok (.iload_n 3, 1) := by decide +kernel
theorem dL_law_557 : decode cL_law 557 = .ok (.iconst 3, 1) := by decide +kernel
theorem dL_law_558 : decode cL_law 558 = .ok (.iadd, 1) := by decide +kernel
theorem dL_law_559 : decode cL_law 559 = .ok (.iaload, 1) := by decide +kernel
theorem dL_law_560 : decode cL_law 560 = .ok (.invokevirtual 56, 3) := by decide +kernel
theorem dL_law_563 : decode cL_law 563 = .ok (.if_icmp .eq 475, 3) := by decide +kernel
theorem dL_law_566 : decode cL_law 566 = .ok (.iconst 0, 1) := by decide +kernel
theorem dL_law_567 : decode cL_law 567 = .ok (.ireturn, 1) := by decide +kernel
theorem dL_law_568 : decode cL_law 568 = .ok (.aload_n 1, 1) := by decide +kernel
theorem dL_law_569 : decode cL_law 569 = .ok (.aload_n 0, 1) := by decide +kernel
theorem dL_law_570 : decode cL_law 570 = .ok (.iload_n 3, 1) := by decide +kernel
theorem dL_law_571 : decode cL_law 571 = .ok (.iconst 1, 1) := by decide +kernel
theorem dL_law_572 : decode cL_law 572 = .ok (.iadd, 1) := by decide +kernel
theorem dL_law_573 : decode cL_law 573 = .ok (.iaload, 1) := by decide +kernel
theorem dL_law_574 : decode cL_law 574 = .ok (.aload_n 0, 1) := by decide +kernel
theorem dL_law_575 : decode cL_law 575 = .ok (.iload_n 3, 1) := by decide +kernel
theorem dL_law_576 : decode cL_law 576 = .ok (.iconst 2, 1) := by decide +kernel
theorem dL_law_577 : decode cL_law 577 = .ok (.iadd, 1) := by decide +kernel
theorem dL_law_578 : decode cL_law 578 = .ok (.iaload, 1) := by decide +kernel
theorem dL_law_579 : decode cL_law 579 = .ok (.aload_n 0, 1) := by decide +kernel
theorem dL_law_580 : decode cL_law 580 = .ok (.iload_n 3, 1) := by decide +kernel
theorem dL_law_581 : decode cL_law 581 = .ok (.iconst 3, 1) := by decide +kernel
theorem dL_law_582 : decode cL_law 582 = .ok (.iadd, 1) := by decide +kernel
theorem dL_law_583 : decode cL_law 583 = .ok (.iaload, 1) := by decide +kernel
theorem dL_law_584 : decode cL_law 584 = .ok (.invokevirtual 57, 3) := by decide +kernel
theorem dL_law_587 : decode cL_law 587 = .ok (.aload_n 2, 1) := by decide +kernel
theorem dL_law_588 : decode cL_law 588 = .ok (.aload_n 0, 1) := by decide +kernel
theorem dL_law_589 : decode cL_law 589 = .ok (.iload_n 3, 1) := by decide +kernel
theorem dL_law_590 : decode cL_law 590 = .ok (.iconst 1, 1) := by decide +kernel
theorem dL_law_591 : decode cL_law 591 = .ok (.iadd, 1) := by decide +kernel
theorem dL_law_592 : decode cL_law 592 = .ok (.iaload, 1) := by decide +kernel
theorem dL_law_593 : decode cL_law 593 = .ok (.aload_n 0, 1) := by decide +kernel
theorem dL_law_594 : decode cL_law 594 = .ok (.iload_n 3, 1) := by decide +kernel
theorem dL_law_595 : decode cL_law 595 = .ok (.iconst 2, 1) := by decide +kernel
theorem dL_law_596 : decode cL_law 596 = .ok (.iadd, 1) := by decide +kernel
theorem dL_law_597 : decode cL_law 597 = .ok (.iaload, 1) := by decide +kernel
theorem dL_law_598 : decode cL_law 598 = .ok (.aload_n 0, 1) := by decide +kernel
theorem dL_law_599 : decode cL_law 599 = .ok (.iload_n 3, 1) := by decide +kernel
theorem dL_law_600 : decode cL_law 600 = .ok (.iconst 3, 1) := by decide +kernel
theorem dL_law_601 : decode cL_law 601 = .ok (.iadd, 1) := by decide +kernel
theorem dL_law_602 : decode cL_law 602 = .ok (.iaload, 1) := by decide +kernel
theorem dL_law_603 : decode cL_law 603 = .ok (.invokevirtual 60, 3) := by decide +kernel
theorem dL_law_606 : decode cL_law 606 = .ok (.if_icmp .eq 432, 3) := by decide +kernel
theorem dL_law_609 : decode cL_law 609 = .ok (.iconst 0, 1) := by decide +kernel
theorem dL_law_610 : decode cL_law 610 = .ok (.ireturn, 1) := by decide +kernel
