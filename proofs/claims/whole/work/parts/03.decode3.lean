theorem dX6_product_32 : decode cX6_product 32 = .ok (.aload_n 0, 1) := by decide +kernel
theorem dX6_product_33 : decode cX6_product 33 = .ok (.getfield 7, 3) := by decide +kernel
theorem dX6_product_36 : decode cX6_product 36 = .ok (.iload_n 2, 1) := by decide +kernel
theorem dX6_product_37 : decode cX6_product 37 = .ok (.iaload, 1) := by decide +kernel
theorem dX6_product_38 : decode cX6_product 38 = .ok (.istore 5, 2) := by decide +kernel
theorem dX6_product_40 : decode cX6_product 40 = .ok (.iload 4, 2) := by decide +kernel
theorem dX6_product_42 : decode cX6_product 42 = .ok (.iload 5, 2) := by decide +kernel
theorem dX6_product_44 : decode cX6_product 44 = .ok (.imul, 1) := by decide +kernel
theorem dX6_product_45 : decode cX6_product 45 = .ok (.bipush 10, 2) := by decide +kernel
theorem dX6_product_47 : decode cX6_product 47 = .ok (.if_icmp .le 6, 3) := by decide +kernel
theorem dX6_product_50 : decode cX6_product 50 = .ok (.bipush (-3), 2) := by decide +kernel
theorem dX6_product_52 : decode cX6_product 52 = .ok (.ireturn, 1) := by decide +kernel
theorem dX6_product_53 : decode cX6_product 53 = .ok (.iconst 0, 1) := by decide +kernel
theorem dX6_product_54 : decode cX6_product 54 = .ok (.istore 6, 2) := by decide +kernel
theorem dX6_product_56 : decode cX6_product 56 = .ok (.iload 6, 2) := by decide +kernel
theorem dX6_product_58 : decode cX6_product 58 = .ok (.bipush 10, 2) := by decide +kernel
theorem dX6_product_60 : decode cX6_product 60 = .ok (.if_icmp .ge 47, 3) := by decide +kernel
theorem dX6_product_63 : decode cX6_product 63 = .ok (.aload_n 0, 1) := by decide +kernel
theorem dX6_product_64 : decode cX6_product 64 = .ok (.getfield 16, 3) := by decide +kernel
theorem dX6_product_67 : decode cX6_product 67 = .ok (.iload 6, 2) := by decide +kernel
theorem dX6_product_69 : decode cX6_product 69 = .ok (.aload_n 0, 1) := by decide +kernel
theorem dX6_product_70 : decode cX6_product 70 = .ok (.getfield 13, 3) := by decide +kernel
theorem dX6_product_73 : decode cX6_product 73 = .ok (.bipush 10, 2) := by decide +kernel
theorem dX6_product_75 : decode cX6_product 75 = .ok (.iload_n 1, 1) := by decide +kernel
theorem dX6_product_76 : decode cX6_product 76 = .ok (.imul, 1) := by decide +kernel
theorem dX6_product_77 : decode cX6_product 77 = .ok (.iload 6, 2) := by decide +kernel
theorem dX6_product_79 : decode cX6_product 79 = .ok (.iadd, 1) := by decide +kernel
theorem dX6_product_80 : decode cX6_product 80 = .ok (.iaload, 1) := by decide +kernel
theorem dX6_product_81 : decode cX6_product 81 = .ok (.iastore, 1) := by decide +kernel
theorem dX6_product_82 : decode cX6_product 82 = .ok (.aload_n 0, 1) := by decide +kernel
theorem dX6_product_83 : decode cX6_product 83 = .ok (.getfield 19, 3) := by decide +kernel
theorem dX6_product_86 : decode cX6_product 86 = .ok (.iload 6, 2) := by decide +kernel
theorem dX6_product_88 : decode cX6_product 88 = .ok (.aload_n 0, 1) := by decide +kernel
theorem dX6_product_89 : decode cX6_product 89 = .ok (.getfield 13, 3) := by decide +kernel
theorem dX6_product_92 : decode cX6_product 92 = .ok (.bipush 10, 2) := by decide +kernel
theorem dX6_product_94 : decode cX6_product 94 = .ok (.iload_n 2, 1) := by decide +kernel
theorem dX6_product_95 : decode cX6_product 95 = .ok (.imul, 1) := by decide +kernel
theorem dX6_product_96 : decode cX6_product 96 = .ok (.iload 6, 2) := by decide +kernel
theorem dX6_product_98 : decode cX6_product 98 = .ok (.iadd, 1) := by decide +kernel
theorem dX6_product_99 : decode cX6_product 99 = .ok (.iaload, 1) := by decide +kernel
theorem dX6_product_100 : decode cX6_product 100 = .ok (.iastore, 1) := by decide +kernel
theorem dX6_product_101 : decode cX6_product 101 = .ok (.iinc 6 1, 3) := by decide +kernel
theorem dX6_product_104 : decode cX6_product 104 = .ok (.goto (-48), 3) := by decide +kernel
theorem dX6_product_107 : decode cX6_product 107 = .ok (.aload_n 0, 1) := by decide +kernel
theorem dX6_product_108 : decode cX6_product 108 = .ok (.iload_n 3, 1) := by decide +kernel
theorem dX6_product_109 : decode cX6_product 109 = .ok (.iload 4, 2) := by decide +kernel
theorem dX6_product_111 : decode cX6_product 111 = .ok (.iload 5, 2) := by decide +kernel
theorem dX6_product_113 : decode cX6_product 113 = .ok (.imul, 1) := by decide +kernel
theorem dX6_product_114 : decode cX6_product 114 = .ok (.invokevirtual 77, 3) := by decide +kernel
theorem dX6_product_117 : decode cX6_product 117 = .ok (.iconst 0, 1) := by decide +kernel
theorem dX6_product_118 : decode cX6_product 118 = .ok (.istore 6, 2) := by decide +kernel
theorem dX6_product_120 : decode cX6_product 120 = .ok (.iload 6, 2) := by decide +kernel
theorem dX6_product_122 : decode cX6_product 122 = .ok (.iload 4, 2) := by decide +kernel
theorem dX6_product_124 : decode cX6_product 124 = .ok (.iload 5, 2) := by decide +kernel
theorem dX6_product_126 : decode cX6_product 126 = .ok (.imul, 1) := by decide +kernel
theorem dX6_product_127 : decode cX6_product 127 = .ok (.if_icmp .ge 131, 3) := by decide +kernel
theorem dX6_product_130 : decode cX6_product 130 = .ok (.iconst 0, 1) := by decide +kernel
theorem dX6_product_131 : decode cX6_product 131 = .ok (.istore 7, 2) := by decide +kernel
theorem dX6_product_133 : decode cX6_product 133 = .ok (.iload 7, 2) := by decide +kernel
theorem dX6_product_135 : decode cX6_product 135 = .ok (.iload 4, 2) := by decide +kernel
theorem dX6_product_137 : decode cX6_product 137 = .ok (.iload 5, 2) := by decide +kernel
theorem dX6_product_139 : decode cX6_product 139 = .ok (.imul, 1) := by decide +kernel
theorem dX6_product_140 : decode cX6_product 140 = .ok (.if_icmp .ge 112, 3) := by decide +kernel
theorem dX6_product_143 : decode cX6_product 143 = .ok (.iload 6, 2) := by decide +kernel
theorem dX6_product_145 : decode cX6_product 145 = .ok (.iload 5, 2) := by decide +kernel
theorem dX6_product_147 : decode cX6_product 147 = .ok (.idiv, 1) := by decide +kernel
theorem dX6_product_148 : decode cX6_product 148 = .ok (.iload 7, 2) := by decide +kernel
theorem dX6_product_150 : decode cX6_product 150 = .ok (.iload 5, 2) := by decide +kernel
theorem dX6_product_152 : decode cX6_product 152 = .ok (.idiv, 1) := by decide +kernel
theorem dX6_product_153 : decode cX6_product 153 = .ok (.if_icmp .ne 29, 3) := by decide +kernel
theorem dX6_product_156 : decode cX6_product 156 = .ok (.aload_n 0, 1) := by decide +kernel
theorem dX6_product_157 : decode cX6_product 157 = .ok (.getfield 19, 3) := by decide +kernel
theorem dX6_product_160 : decode cX6_product 160 = .ok (.iload 6, 2) := by decide +kernel
theorem dX6_product_162 : decode cX6_product 162 = .ok (.iload 5, 2) := by decide +kernel
theorem dX6_product_164 : decode cX6_product 164 = .ok (.irem, 1) := by decide +kernel
theorem dX6_product_165 : decode cX6_product 165 = .ok (.iaload, 1) := by decide +kernel
theorem dX6_product_166 : decode cX6_product 166 = .ok (.iload 7, 2) := by decide +kernel
theorem dX6_product_168 : decode cX6_product 168 = .ok (.iload 5, 2) := by decide +kernel
theorem dX6_product_170 : decode cX6_product 170 = .ok (.irem, 1) := by decide +kernel
theorem dX6_product_171 : decode cX6_product 171 = .ok (.ishr, 1) := by decide +kernel
theorem dX6_product_172 : decode cX6_product 172 = .ok (.iconst 1, 1) := by decide +kernel
theorem dX6_product_173 : decode cX6_product 173 = .ok (.iand, 1) := by decide +kernel
theorem dX6_product_174 : decode cX6_product 174 = .ok (.iconst 1, 1) := by decide +kernel
theorem dX6_product_175 : decode cX6_product 175 = .ok (.if_icmp .ne 7, 3) := by decide +kernel
theorem dX6_product_178 : decode cX6_product 178 = .ok (.iconst 1, 1) := by decide +kernel
theorem dX6_product_179 : decode cX6_product 179 = .ok (.goto 4, 3) := by decide +kernel
theorem dX6_product_182 : decode cX6_product 182 = .ok (.iconst 0, 1) := by decide +kernel
theorem dX6_product_183 : decode cX6_product 183 = .ok (.istore 8, 2) := by decide +kernel
theorem dX6_product_185 : decode cX6_product 185 = .ok (.iload 6, 2) := by decide +kernel
theorem dX6_product_187 : decode cX6_product 187 = .ok (.iload 5, 2) := by decide +kernel
theorem dX6_product_189 : decode cX6_product 189 = .ok (.irem, 1) := by decide +kernel
theorem dX6_product_190 : decode cX6_product 190 = .ok (.iload 7, 2) := by decide +kernel
theorem dX6_product_192 : decode cX6_product 192 = .ok (.iload 5, 2) := by decide +kernel
theorem dX6_product_194 : decode cX6_product 194 = .ok (.irem, 1) := by decide +kernel
theorem dX6_product_195 : decode cX6_product 195 = .ok (.if_icmp .ne 29, 3) := by decide +kernel
theorem dX6_product_198 : decode cX6_product 198 = .ok (.aload_n 0, 1) := by decide +kernel
theorem dX6_product_199 : decode cX6_product 199 = .ok (.getfield 16, 3) := by decide +kernel
theorem dX6_product_202 : decode cX6_product 202 = .ok (.iload 6, 2) := by decide +kernel
theorem dX6_product_204 : decode cX6_product 204 = .ok (.iload 5, 2) := by decide +kernel
theorem dX6_product_206 : decode cX6_product 206 = .ok (.idiv, 1) := by decide +kernel
theorem dX6_product_207 : decode cX6_product 207 = .ok (.iaload, 1) := by decide +kernel
theorem dX6_product_208 : decode cX6_product 208 = .ok (.iload 7, 2) := by decide +kernel
theorem dX6_product_210 : decode cX6_product 210 = .ok (.iload 5, 2) := by decide +kernel
theorem dX6_product_212 : decode cX6_product 212 = .ok (.idiv, 1) := by decide +kernel
theorem dX6_product_213 : decode cX6_product 213 = .ok (.ishr, 1) := by decide +kernel
theorem dX6_product_214 : decode cX6_product 214 = .ok (.iconst 1, 1) := by decide +kernel
theorem dX6_product_215 : decode cX6_product 215 = .ok (.iand, 1) := by decide +kernel
theorem dX6_product_216 : decode cX6_product 216 = .ok (.iconst 1, 1) := by decide +kernel
theorem dX6_product_217 : decode cX6_product 217 = .ok (.if_icmp .ne 7, 3) := by decide +kernel
theorem dX6_product_220 : decode cX6_product 220 = .ok (.iconst 1, 1) := by decide +kernel
theorem dX6_product_221 : decode cX6_product 221 = .ok (.goto 4, 3) := by decide +kernel
theorem dX6_product_224 : decode cX6_product 224 = .ok (.iconst 0, 1) := by decide +kernel
theorem dX6_product_225 : decode cX6_product 225 = .ok (.istore 9, 2) := by decide +kernel
theorem dX6_product_227 : decode cX6_product 227 = .ok (.iload 8, 2) := by decide +kernel
theorem dX6_product_229 : decode cX6_product 229 = .ok (.ifCond .ne 8, 3) := by decide +kernel
theorem dX6_product_232 : decode cX6_product 232 = .ok (.iload 9, 2) := by decide +kernel
theorem dX6_product_234 : decode cX6_product 234 = .ok (.ifCond .eq 12, 3) := by decide +kernel
theorem dX6_product_237 : decode cX6_product 237 = .ok (.aload_n 0, 1) := by decide +kernel
theorem dX6_product_238 : decode cX6_product 238 = .ok (.iload_n 3, 1) := by decide +kernel
theorem dX6_product_239 : decode cX6_product 239 = .ok (.iload 6, 2) := by decide +kernel
theorem dX6_product_241 : decode cX6_product 241 = .ok (.iload 7, 2) := by decide +kernel
theorem dX6_product_243 : decode cX6_product 243 = .ok (.invokevirtual 88, 3) := by decide +kernel
theorem dX6_product_246 : decode cX6_product 246 = .ok (.iinc 7 1, 3) := by decide +kernel
theorem dX6_product_249 : decode cX6_product 249 = .ok (.goto (-116), 3) := by decide +kernel
theorem dX6_product_252 : decode cX6_product 252 = .ok (.iinc 6 1, 3) := by decide +kernel
theorem dX6_product_255 : decode cX6_product 255 = .ok (.goto (-135), 3) := by decide +kernel
theorem dX6_product_258 : decode cX6_product 258 = .ok (.iload 4, 2) := by decide +kernel
theorem dX6_product_260 : decode cX6_product 260 = .ok (.iload 5, 2) := by decide +kernel
theorem dX6_product_262 : decode cX6_product 262 = .ok (.imul, 1) := by decide +kernel
theorem dX6_product_263 : decode cX6_product 263 = .ok (.ireturn, 1) := by decide +kernel
theorem dX6_turned_0 : decode cX6_turned 0 = .ok (.iload_n 1, 1) := by decide +kernel
theorem dX6_turned_1 : decode cX6_turned 1 = .ok (.invokestatic 69, 3) := by decide +kernel
theorem dX6_turned_4 : decode cX6_turned 4 = .ok (.ifCond .eq 10, 3) := by decide +kernel
theorem dX6_turned_7 : decode cX6_turned 7 = .ok (.iload_n 2, 1) := by decide +kernel
theorem dX6_turned_8 : decode cX6_turned 8 = .ok (.invokestatic 69, 3) := by decide +kernel
theorem dX6_turned_11 : decode cX6_turned 11 = .ok (.ifCond .ne 6, 3) := by decide +kernel
theorem dX6_turned_14 : decode cX6_turned 14 = .ok (.bipush (-2), 2) := by decide +kernel
theorem dX6_turned_16 : decode cX6_turned 16 = .ok (.ireturn, 1) := by decide +kernel
theorem dX6_turned_17 : decode cX6_turned 17 = .ok (.aload_n 0, 1) := by decide +kernel
theorem dX6_turned_18 : decode cX6_turned 18 = .ok (.getfield 7, 3) := by decide +kernel
theorem dX6_turned_21 : decode cX6_turned 21 = .ok (.iload_n 1, 1) := by decide +kernel
theorem dX6_turned_22 : decode cX6_turned 22 = .ok (.iaload, 1) := by decide +kernel
theorem dX6_turned_23 : decode cX6_turned 23 = .ok (.istore_n 3, 1) := by decide +kernel
theorem dX6_turned_24 : decode cX6_turned 24 = .ok (.iconst 0, 1) := by decide +kernel
theorem dX6_turned_25 : decode cX6_turned 25 = .ok (.istore 4, 2) := by decide +kernel
theorem dX6_turned_27 : decode cX6_turned 27 = .ok (.iload 4, 2) := by decide +kernel
theorem dX6_turned_29 : decode cX6_turned 29 = .ok (.bipush 10, 2) := by decide +kernel
theorem dX6_turned_31 : decode cX6_turned 31 = .ok (.if_icmp .ge 28, 3) := by decide +kernel
theorem dX6_turned_34 : decode cX6_turned 34 = .ok (.aload_n 0, 1) := by decide +kernel
theorem dX6_turned_35 : decode cX6_turned 35 = .ok (.getfield 16, 3) := by decide +kernel
theorem dX6_turned_38 : decode cX6_turned 38 = .ok (.iload 4, 2) := by decide +kernel
theorem dX6_turned_40 : decode cX6_turned 40 = .ok (.aload_n 0, 1) := by decide +kernel
theorem dX6_turned_41 : decode cX6_turned 41 = .ok (.getfield 13, 3) := by decide +kernel
theorem dX6_turned_44 : decode cX6_turned 44 = .ok (.bipush 10, 2) := by decide +kernel
theorem dX6_turned_46 : decode cX6_turned 46 = .ok (.iload_n 1, 1) := by decide +kernel
theorem dX6_turned_47 : decode cX6_turned 47 = .ok (.imul, 1) := by decide +kernel
theorem dX6_turned_48 : decode cX6_turned 48 = .ok (.iload 4, 2) := by decide +kernel
theorem dX6_turned_50 : decode cX6_turned 50 = .ok (.iadd, 1) := by decide +kernel
theorem dX6_turned_51 : decode cX6_turned 51 = .ok (.iaload, 1) := by decide +kernel
theorem dX6_turned_52 : decode cX6_turned 52 = .ok (.iastore, 1) := by decide +kernel
theorem dX6_turned_53 : decode cX6_turned 53 = .ok (.iinc 4 1, 3) := by decide +kernel
theorem dX6_turned_56 : decode cX6_turned 56 = .ok (.goto (-29), 3) := by decide +kernel
theorem dX6_turned_59 : decode cX6_turned 59 = .ok (.aload_n 0, 1) := by decide +kernel
theorem dX6_turned_60 : decode cX6_turned 60 = .ok (.iload_n 2, 1) := by decide +kernel
theorem dX6_turned_61 : decode cX6_turned 61 = .ok (.iload_n 3, 1) := by decide +kernel
theorem dX6_turned_62 : decode cX6_turned 62 = .ok (.invokevirtual 77, 3) := by decide +kernel
theorem dX6_turned_65 : decode cX6_turned 65 = .ok (.iconst 0, 1) := by decide +kernel
theorem dX6_turned_66 : decode cX6_turned 66 = .ok (.istore 4, 2) := by decide +kernel
theorem dX6_turned_68 : decode cX6_turned 68 = .ok (.iload 4, 2) := by decide +kernel
theorem dX6_turned_70 : decode cX6_turned 70 = .ok (.iload_n 3, 1) := by decide +kernel
theorem dX6_turned_71 : decode cX6_turned 71 = .ok (.if_icmp .ge 43, 3) := by decide +kernel
theorem dX6_turned_74 : decode cX6_turned 74 = .ok (.aload_n 0, 1) := by decide +kernel
theorem dX6_turned_75 : decode cX6_turned 75 = .ok (.getfield 13, 3) := by decide +kernel
theorem dX6_turned_78 : decode cX6_turned 78 = .ok (.bipush 10, 2) := by decide +kernel
theorem dX6_turned_80 : decode cX6_turned 80 = .ok (.iload_n 2, 1) := by decide +kernel
theorem dX6_turned_81 : decode cX6_turned 81 = .ok (.imul, 1) := by decide +kernel
theorem dX6_turned_82 : decode cX6_turned 82 = .ok (.iload 4, 2) := by decide +kernel
theorem dX6_turned_84 : decode cX6_turned 84 = .ok (.iadd, 1) := by decide +kernel
theorem dX6_turned_85 : decode cX6_turned 85 = .ok (.iconst 1, 1) := by decide +kernel
theorem dX6_turned_86 : decode cX6_turned 86 = .ok (.iload_n 3, 1) := by decide +kernel
theorem dX6_turned_87 : decode cX6_turned 87 = .ok (.ishl, 1) := by decide +kernel
theorem dX6_turned_88 : decode cX6_turned 88 = .ok (.iconst 1, 1) := by decide +kernel
theorem dX6_turned_89 : decode cX6_turned 89 = .ok (.isub, 1) := by decide +kernel
theorem dX6_turned_90 : decode cX6_turned 90 = .ok (.aload_n 0, 1) := by decide +kernel
theorem dX6_turned_91 : decode cX6_turned 91 = .ok (.getfield 16, 3) := by decide +kernel
theorem dX6_turned_94 : decode cX6_turned 94 = .ok (.iload 4, 2) := by decide +kernel
theorem dX6_turned_96 : decode cX6_turned 96 = .ok (.iaload, 1) := by decide +kernel
theorem dX6_turned_97 : decode cX6_turned 97 = .ok (.iconst (-1), 1) := by decide +kernel
theorem dX6_turned_98 : decode cX6_turned 98 = .ok (.ixor, 1) := by decide +kernel
theorem dX6_turned_99 : decode cX6_turned 99 = .ok (.iand, 1) := by decide +kernel
theorem dX6_turned_100 : decode cX6_turned 100 = .ok (.iconst 1, 1) := by decide +kernel
theorem dX6_turned_101 : decode cX6_turned 101 = .ok (.iload 4, 2) := by decide +kernel
theorem dX6_turned_103 : decode cX6_turned 103 = .ok (.ishl, 1) := by decide +kernel
theorem dX6_turned_104 : decode cX6_turned 104 = .ok (.iconst (-1), 1) := by decide +kernel
theorem dX6_turned_105 : decode cX6_turned 105 = .ok (.ixor, 1) := by decide +kernel
theorem dX6_turned_106 : decode cX6_turned 106 = .ok (.iand, 1) := by decide +kernel
theorem dX6_turned_107 : decode cX6_turned 107 = .ok (.iastore, 1) := by decide +kernel
theorem dX6_turned_108 : decode cX6_turned 108 = .ok (.iinc 4 1, 3) := by decide +kernel
theorem dX6_turned_111 : decode cX6_turned 111 = .ok (.goto (-43), 3) := by decide +kernel
theorem dX6_turned_114 : decode cX6_turned 114 = .ok (.aload_n 0, 1) := by decide +kernel
theorem dX6_turned_115 : decode cX6_turned 115 = .ok (.iload_n 2, 1) := by decide +kernel
theorem dX6_turned_116 : decode cX6_turned 116 = .ok (.invokevirtual 92, 3) := by decide +kernel
theorem dX6_turned_119 : decode cX6_turned 119 = .ok (.ireturn, 1) := by decide +kernel
theorem dX6_degreeOf_0 : decode cX6_degreeOf 0 = .ok (.aload_n 0, 1) := by decide +kernel
theorem dX6_degreeOf_1 : decode cX6_degreeOf 1 = .ok (.getfield 13, 3) := by decide +kernel
theorem dX6_degreeOf_4 : decode cX6_degreeOf 4 = .ok (.bipush 10, 2) := by decide +kernel
theorem dX6_degreeOf_6 : decode cX6_degreeOf 6 = .ok (.iload_n 1, 1) := by decide +kernel
theorem dX6_degreeOf_7 : decode cX6_degreeOf 7 = .ok (.imul, 1) := by decide +kernel
theorem dX6_degreeOf_8 : decode cX6_degreeOf 8 = .ok (.iaload, 1) := by decide +kernel
theorem dX6_degreeOf_9 : decode cX6_degreeOf 9 = .ok (.invokestatic 73, 3) := by decide +kernel
theorem dX6_degreeOf_12 : decode cX6_degreeOf 12 = .ok (.istore_n 2, 1) := by decide +kernel
theorem dX6_degreeOf_13 : decode cX6_degreeOf 13 = .ok (.iconst 1, 1) := by decide +kernel
theorem dX6_degreeOf_14 : decode cX6_degreeOf 14 = .ok (.istore_n 3, 1) := by decide +kernel
theorem dX6_degreeOf_15 : decode cX6_degreeOf 15 = .ok (.iload_n 3, 1) := by decide +kernel
theorem dX6_degreeOf_16 : decode cX6_degreeOf 16 = .ok (.aload_n 0, 1) := by decide +kernel
theorem dX6_degreeOf_17 : decode cX6_degreeOf 17 = .ok (.getfield 7, 3) := by decide +kernel
theorem dX6_degreeOf_20 : decode cX6_degreeOf 20 = .ok (.iload_n 1, 1) := by decide +kernel
theorem dX6_degreeOf_21 : decode cX6_degreeOf 21 = .ok (.iaload, 1) := by decide +kernel
theorem dX6_degreeOf_22 : decode cX6_degreeOf 22 = .ok (.if_icmp .ge 33, 3) := by decide +kernel
theorem dX6_degreeOf_25 : decode cX6_degreeOf 25 = .ok (.aload_n 0, 1) := by decide +kernel
theorem dX6_degreeOf_26 : decode cX6_degreeOf 26 = .ok (.getfield 13, 3) := by decide +kernel
theorem dX6_degreeOf_29 : decode cX6_degreeOf 29 = .ok (.bipush 10, 2) := by decide +kernel
theorem dX6_degreeOf_31 : decode cX6_degreeOf 31 = .ok (.iload_n 1, 1) := by decide +kernel
theorem dX6_degreeOf_32 : decode cX6_degreeOf 32 = .ok (.imul, 1) := by decide +kernel
theorem dX6_degreeOf_33 : decode cX6_degreeOf 33 = .ok (.iload_n 3, 1) := by decide +kernel
theorem dX6_degreeOf_34 : decode cX6_degreeOf 34 = .ok (.iadd, 1) := by decide +kernel
theorem dX6_degreeOf_35 : decode cX6_degreeOf 35 = .ok (.iaload, 1) := by decide +kernel
theorem dX6_degreeOf_36 : decode cX6_degreeOf 36 = .ok (.invokestatic 73, 3) := by decide +kernel
theorem dX6_degreeOf_39 : decode cX6_degreeOf 39 = .ok (.iload_n 2, 1) := by decide +kernel
theorem dX6_degreeOf_40 : decode cX6_degreeOf 40 = .ok (.if_icmp .ne 7, 3) := by decide +kernel
theorem dX6_degreeOf_43 : decode cX6_degreeOf 43 = .ok (.iload_n 2, 1) := by decide +kernel
theorem dX6_degreeOf_44 : decode cX6_degreeOf 44 = .ok (.goto 4, 3) := by decide +kernel
theorem dX6_degreeOf_47 : decode cX6_degreeOf 47 = .ok (.iconst (-1), 1) := by decide +kernel
theorem dX6_degreeOf_48 : decode cX6_degreeOf 48 = .ok (.istore_n 2, 1) := by decide +kernel
theorem dX6_degreeOf_49 : decode cX6_degreeOf 49 = .ok (.iinc 3 1, 3) := by decide +kernel
theorem dX6_degreeOf_52 : decode cX6_degreeOf 52 = .ok (.goto (-37), 3) := by decide +kernel
theorem dX6_degreeOf_55 : decode cX6_degreeOf 55 = .ok (.iload_n 2, 1) := by decide +kernel
theorem dX6_degreeOf_56 : decode cX6_degreeOf 56 = .ok (.ireturn, 1) := by decide +kernel
theorem dX6_grown_0 : decode cX6_grown 0 = .ok (.iload_n 2, 1) := by decide +kernel
theorem dX6_grown_1 : decode cX6_grown 1 = .ok (.istore_n 3, 1) := by decide +kernel
theorem dX6_grown_2 : decode cX6_grown 2 = .ok (.iconst 0, 1) := by decide +kernel
theorem dX6_grown_3 : decode cX6_grown 3 = .ok (.istore 4, 2) := by decide +kernel
theorem dX6_grown_5 : decode cX6_grown 5 = .ok (.iload 4, 2) := by decide +kernel
theorem dX6_grown_7 : decode cX6_grown 7 = .ok (.aload_n 0, 1) := by decide +kernel
theorem dX6_grown_8 : decode cX6_grown 8 = .ok (.getfield 7, 3) := by decide +kernel
theorem dX6_grown_11 : decode cX6_grown 11 = .ok (.iload_n 1, 1) := by decide +kernel
theorem dX6_grown_12 : decode cX6_grown 12 = .ok (.iaload, 1) := by decide +kernel
theorem dX6_grown_13 : decode cX6_grown 13 = .ok (.if_icmp .ge 58, 3) := by decide +kernel
theorem dX6_grown_16 : decode cX6_grown 16 = .ok (.iconst 0, 1) := by decide +kernel
theorem dX6_grown_17 : decode cX6_grown 17 = .ok (.istore 5, 2) := by decide +kernel
theorem dX6_grown_19 : decode cX6_grown 19 = .ok (.iload 5, 2) := by decide +kernel
theorem dX6_grown_21 : decode cX6_grown 21 = .ok (.aload_n 0, 1) := by decide +kernel
theorem dX6_grown_22 : decode cX6_grown 22 = .ok (.getfield 7, 3) := by decide +kernel
theorem dX6_grown_25 : decode cX6_grown 25 = .ok (.iload_n 1, 1) := by decide +kernel
theorem dX6_grown_26 : decode cX6_grown 26 = .ok (.iaload, 1) := by decide +kernel
theorem dX6_grown_27 : decode cX6_grown 27 = .ok (.if_icmp .ge 38, 3) := by decide +kernel
theorem dX6_grown_30 : decode cX6_grown 30 = .ok (.iload_n 3, 1) := by decide +kernel
theorem dX6_grown_31 : decode cX6_grown 31 = .ok (.iload_n 3, 1) := by decide +kernel
theorem dX6_grown_32 : decode cX6_grown 32 = .ok (.iload 5, 2) := by decide +kernel
theorem dX6_grown_34 : decode cX6_grown 34 = .ok (.ishr, 1) := by decide +kernel
theorem dX6_grown_35 : decode cX6_grown 35 = .ok (.iconst 1, 1) := by decide +kernel
theorem dX6_grown_36 : decode cX6_grown 36 = .ok (.iand, 1) := by decide +kernel
theorem dX6_grown_37 : decode cX6_grown 37 = .ok (.iconst 1, 1) := by decide +kernel
theorem dX6_grown_38 : decode cX6_grown 38 = .ok (.if_icmp .ne 18, 3) := by decide +kernel
theorem dX6_grown_41 : decode cX6_grown 41 = .ok (.aload_n 0, 1) := by decide +kernel
theorem dX6_grown_42 : decode cX6_grown 42 = .ok (.getfield 13, 3) := by decide +kernel
theorem dX6_grown_45 : decode cX6_grown 45 = .ok (.bipush 10, 2) := by decide +kernel
theorem dX6_grown_47 : decode cX6_grown 47 = .ok (.iload_n 1, 1) := by decide +kernel
theorem dX6_grown_48 : decode cX6_grown 48 = .ok (.imul, 1) := by decide +kernel
theorem dX6_grown_49 : decode cX6_grown 49 = .ok (.iload 5, 2) := by decide +kernel
theorem dX6_grown_51 : decode cX6_grown 51 = .ok (.iadd, 1) := by decide +kernel
theorem dX6_grown_52 : decode cX6_grown 52 = .ok (.iaload, 1) := by decide +kernel
theorem dX6_grown_53 : decode cX6_grown 53 = .ok (.goto 4, 3) := by decide +kernel
theorem dX6_grown_56 : decode cX6_grown 56 = .ok (.iconst 0, 1) := by decide +kernel
theorem dX6_grown_57 : decode cX6_grown 57 = .ok (.ior, 1) := by decide +kernel
theorem dX6_grown_58 : decode cX6_grown 58 = .ok (.istore_n 3, 1) := by decide +kernel
theorem dX6_grown_59 : decode cX6_grown 59 = .ok (.iinc 5 1, 3) := by decide +kernel
theorem dX6_grown_62 : decode cX6_grown 62 = .ok (.goto (-43), 3) := by decide +kernel
theorem dX6_grown_65 : decode cX6_grown 65 = .ok (.iinc 4 1, 3) := by decide +kernel
theorem dX6_grown_68 : decode cX6_grown 68 = .ok (.goto (-63), 3) := by decide +kernel
theorem dX6_grown_71 : decode cX6_grown 71 = .ok (.iload_n 3, 1) := by decide +kernel
theorem dX6_grown_72 : decode cX6_grown 72 = .ok (.ireturn, 1) := by decide +kernel
theorem dX6_parts_0 : decode cX6_parts 0 = .ok (.iconst 0, 1) := by decide +kernel
theorem dX6_parts_1 : decode cX6_parts 1 = .ok (.istore_n 2, 1) := by decide +kernel
theorem dX6_parts_2 : decode cX6_parts 2 = .ok (.iconst 0, 1) := by decide +kernel
theorem dX6_parts_3 : decode cX6_parts 3 = .ok (.istore_n 3, 1) := by decide +kernel
theorem dX6_parts_4 : decode cX6_parts 4 = .ok (.iconst 0, 1) := by decide +kernel
theorem dX6_parts_5 : decode cX6_parts 5 = .ok (.istore 4, 2) := by decide +kernel
theorem dX6_parts_7 : decode cX6_parts 7 = .ok (.iload 4, 2) := by decide +kernel
theorem dX6_parts_9 : decode cX6_parts 9 = .ok (.aload_n 0, 1) := by decide +kernel
theorem dX6_parts_10 : decode cX6_parts 10 = .ok (.getfield 7, 3) := by decide +kernel
theorem dX6_parts_13 : decode cX6_parts 13 = .ok (.iload_n 1, 1) := by decide +kernel
theorem dX6_parts_14 : decode cX6_parts 14 = .ok (.iaload, 1) := by decide +kernel
theorem dX6_parts_15 : decode cX6_parts 15 = .ok (.if_icmp .ge 33, 3) := by decide +kernel
theorem dX6_parts_18 : decode cX6_parts 18 = .ok (.iload_n 3, 1) := by decide +kernel
theorem dX6_parts_19 : decode cX6_parts 19 = .ok (.iload 4, 2) := by decide +kernel
theorem dX6_parts_21 : decode cX6_parts 21 = .ok (.ishr, 1) := by decide +kernel
theorem dX6_parts_22 : decode cX6_parts 22 = .ok (.iconst 1, 1) := by decide +kernel
theorem dX6_parts_23 : decode cX6_parts 23 = .ok (.iand, 1) := by decide +kernel
theorem dX6_parts_24 : decode cX6_parts 24 = .ok (.ifCond .ne 18, 3) := by decide +kernel
theorem dX6_parts_27 : decode cX6_parts 27 = .ok (.iload_n 3, 1) := by decide +kernel
theorem dX6_parts_28 : decode cX6_parts 28 = .ok (.aload_n 0, 1) := by decide +kernel
theorem dX6_parts_29 : decode cX6_parts 29 = .ok (.iload_n 1, 1) := by decide +kernel
theorem dX6_parts_30 : decode cX6_parts 30 = .ok (.iconst 1, 1) := by decide +kernel
theorem dX6_parts_31 : decode cX6_parts 31 = .ok (.iload 4, 2) := by decide +kernel
theorem dX6_parts_33 : decode cX6_parts 33 = .ok (.ishl, 1) := by decide +kernel
theorem dX6_parts_34 : decode cX6_parts 34 = .ok (.invokevirtual 95, 3) := by decide +kernel
theorem dX6_parts_37 : decode cX6_parts 37 = .ok (.ior, 1) := by decide +kernel
theorem dX6_parts_38 : decode cX6_parts 38 = .ok (.istore_n 3, 1) := by decide +kernel
theorem dX6_parts_39 : decode cX6_parts 39 = .ok (.iinc 2 1, 3) := by decide +kernel
theorem dX6_parts_42 : decode cX6_parts 42 = .ok (.iinc 4 1, 3) := by decide +kernel
theorem dX6_parts_45 : decode cX6_parts 45 = .ok (.goto (-38), 3) := by decide +kernel
theorem dX6_parts_48 : decode cX6_parts 48 = .ok (.iload_n 2, 1) := by decide +kernel
theorem dX6_parts_49 : decode cX6_parts 49 = .ok (.ireturn, 1) := by decide +kernel
theorem dX6_about_0 : decode cX6_about 0 = .ok (.iload_n 1, 1) := by decide +kernel
theorem dX6_about_1 : decode cX6_about 1 = .ok (.invokestatic 69, 3) := by decide +kernel
theorem dX6_about_4 : decode cX6_about 4 = .ok (.ifCond .ne 6, 3) := by decide +kernel
theorem dX6_about_7 : decode cX6_about 7 = .ok (.bipush (-2), 2) := by decide +kernel
theorem dX6_about_9 : decode cX6_about 9 = .ok (.ireturn, 1) := by decide +kernel
theorem dX6_about_10 : decode cX6_about 10 = .ok (.iload_n 2, 1) := by decide +kernel
theorem dX6_about_11 : decode cX6_about 11 = .ok (.ifCond .ne 12, 3) := by decide +kernel
theorem dX6_about_14 : decode cX6_about 14 = .ok (.aload_n 0, 1) := by decide +kernel
theorem dX6_about_15 : decode cX6_about 15 = .ok (.getfield 7, 3) := by decide +kernel
theorem dX6_about_18 : decode cX6_about 18 = .ok (.iload_n 1, 1) := by decide +kernel
theorem dX6_about_19 : decode cX6_about 19 = .ok (.iaload, 1) := by decide +kernel
theorem dX6_about_20 : decode cX6_about 20 = .ok (.goto 44, 3) := by decide +kernel
theorem dX6_about_23 : decode cX6_about 23 = .ok (.iload_n 2, 1) := by decide +kernel
theorem dX6_about_24 : decode cX6_about 24 = .ok (.iconst 1, 1) := by decide +kernel
theorem dX6_about_25 : decode cX6_about 25 = .ok (.if_icmp .ne 11, 3) := by decide +kernel
theorem dX6_about_28 : decode cX6_about 28 = .ok (.aload_n 0, 1) := by decide +kernel
theorem dX6_about_29 : decode cX6_about 29 = .ok (.iload_n 1, 1) := by decide +kernel
theorem dX6_about_30 : decode cX6_about 30 = .ok (.invokevirtual 92, 3) := by decide +kernel
theorem dX6_about_33 : decode cX6_about 33 = .ok (.goto 31, 3) := by decide +kernel
theorem dX6_about_36 : decode cX6_about 36 = .ok (.iload_n 2, 1) := by decide +kernel
theorem dX6_about_37 : decode cX6_about 37 = .ok (.iconst 2, 1) := by decide +kernel
theorem dX6_about_38 : decode cX6_about 38 = .ok (.if_icmp .ne 11, 3) := by decide +kernel
theorem dX6_about_41 : decode cX6_about 41 = .ok (.aload_n 0, 1) := by decide +kernel
theorem dX6_about_42 : decode cX6_about 42 = .ok (.iload_n 1, 1) := by decide +kernel
theorem dX6_about_43 : decode cX6_about 43 = .ok (.invokevirtual 99, 3) := by decide +kernel
theorem dX6_about_46 : decode cX6_about 46 = .ok (.goto 18, 3) := by decide +kernel
theorem dX6_about_49 : decode cX6_about 49 = .ok (.iload_n 2, 1) := by decide +kernel
theorem dX6_about_50 : decode cX6_about 50 = .ok (.iconst 3, 1) := by decide +kernel
theorem dX6_about_51 : decode cX6_about 51 = .ok (.if_icmp .ne 11, 3) := by decide +kernel
theorem dX6_about_54 : decode cX6_about 54 = .ok (.aload_n 0, 1) := by decide +kernel
theorem dX6_about_55 : decode cX6_about 55 = .ok (.iload_n 1, 1) := by decide +kernel
theorem dX6_about_56 : decode cX6_about 56 = .ok (.invokevirtual 102, 3) := by decide +kernel
theorem dX6_about_59 : decode cX6_about 59 = .ok (.goto 5, 3) := by decide +kernel
theorem dX6_about_62 : decode cX6_about 62 = .ok (.bipush (-2), 2) := by decide +kernel
theorem dX6_about_64 : decode cX6_about 64 = .ok (.ireturn, 1) := by decide +kernel
theorem dX6_near_0 : decode cX6_near 0 = .ok (.aload_n 0, 1) := by decide +kernel
theorem dX6_near_1 : decode cX6_near 1 = .ok (.iload_n 1, 1) := by decide +kernel
theorem dX6_near_2 : decode cX6_near 2 = .ok (.iload_n 2, 1) := by decide +kernel
theorem dX6_near_3 : decode cX6_near 3 = .ok (.invokevirtual 81, 3) := by decide +kernel
theorem dX6_near_6 : decode cX6_near 6 = .ok (.ifCond .eq 17, 3) := by decide +kernel
theorem dX6_near_9 : decode cX6_near 9 = .ok (.aload_n 0, 1) := by decide +kernel
theorem dX6_near_10 : decode cX6_near 10 = .ok (.getfield 13, 3) := by decide +kernel
theorem dX6_near_13 : decode cX6_near 13 = .ok (.bipush 10, 2) := by decide +kernel
theorem dX6_near_15 : decode cX6_near 15 = .ok (.iload_n 1, 1) := by decide +kernel
theorem dX6_near_16 : decode cX6_near 16 = .ok (.imul, 1) := by decide +kernel
theorem dX6_near_17 : decode cX6_near 17 = .ok (.iload_n 2, 1) := by decide +kernel
theorem dX6_near_18 : decode cX6_near 18 = .ok (.iadd, 1) := by decide +kernel
theorem dX6_near_19 : decode cX6_near 19 = .ok (.iaload, 1) := by decide +kernel
theorem dX6_near_20 : decode cX6_near 20 = .ok (.goto 5, 3) := by decide +kernel
theorem dX6_near_23 : decode cX6_near 23 = .ok (.bipush (-2), 2) := by decide +kernel
theorem dX6_near_25 : decode cX6_near 25 = .ok (.ireturn, 1) := by decide +kernel
theorem dX6_layLines_0 : decode cX6_layLines 0 = .ok (.aload_n 0, 1) := by decide +kernel
theorem dX6_layLines_1 : decode cX6_layLines 1 = .ok (.iconst 0, 1) := by decide +kernel
theorem dX6_layLines_2 : decode cX6_layLines 2 = .ok (.putfield 105, 3) := by decide +kernel
theorem dX6_layLines_5 : decode cX6_layLines 5 = .ok (.iconst 0, 1) := by decide +kernel
theorem dX6_layLines_6 : decode cX6_layLines 6 = .ok (.istore_n 2, 1) := by decide +kernel
theorem dX6_layLines_7 : decode cX6_layLines 7 = .ok (.iload_n 2, 1) := by decide +kernel
theorem dX6_layLines_8 : decode cX6_layLines 8 = .ok (.aload_n 0, 1) := by decide +kernel
theorem dX6_layLines_9 : decode cX6_layLines 9 = .ok (.getfield 7, 3) := by decide +kernel
theorem dX6_layLines_12 : decode cX6_layLines 12 = .ok (.iload_n 1, 1) := by decide +kernel
theorem dX6_layLines_13 : decode cX6_layLines 13 = .ok (.iaload, 1) := by decide +kernel
theorem dX6_layLines_14 : decode cX6_layLines 14 = .ok (.if_icmp .ge 69, 3) := by decide +kernel
theorem dX6_layLines_17 : decode cX6_layLines 17 = .ok (.iload_n 2, 1) := by decide +kernel
theorem dX6_layLines_18 : decode cX6_layLines 18 = .ok (.iconst 1, 1) := by decide +kernel
theorem dX6_layLines_19 : decode cX6_layLines 19 = .ok (.iadd, 1) := by decide +kernel
theorem dX6_layLines_20 : decode cX6_layLines 20 = .ok (.istore_n 3, 1) := by decide +kernel
theorem dX6_layLines_21 : decode cX6_layLines 21 = .ok (.iload_n 3, 1) := by decide +kernel
theorem dX6_layLines_22 : decode cX6_layLines 22 = .ok (.aload_n 0, 1) := by decide +kernel
theorem dX6_layLines_23 : decode cX6_layLines 23 = .ok (.getfield 7, 3) := by decide +kernel
theorem dX6_layLines_26 : decode cX6_layLines 26 = .ok (.iload_n 1, 1) := by decide +kernel
theorem dX6_layLines_27 : decode cX6_layLines 27 = .ok (.iaload, 1) := by decide +kernel
theorem dX6_layLines_28 : decode cX6_layLines 28 = .ok (.if_icmp .ge 49, 3) := by decide +kernel
theorem dX6_layLines_31 : decode cX6_layLines 31 = .ok (.aload_n 0, 1) := by decide +kernel
theorem dX6_layLines_32 : decode cX6_layLines 32 = .ok (.iload_n 1, 1) := by decide +kernel
theorem dX6_layLines_33 : decode cX6_layLines 33 = .ok (.iload_n 2, 1) := by decide +kernel
theorem dX6_layLines_34 : decode cX6_layLines 34 = .ok (.iload_n 3, 1) := by decide +kernel
theorem dX6_layLines_35 : decode cX6_layLines 35 = .ok (.invokevirtual 85, 3) := by decide +kernel
theorem dX6_layLines_38 : decode cX6_layLines 38 = .ok (.ifCond .eq 33, 3) := by decide +kernel
theorem dX6_layLines_41 : decode cX6_layLines 41 = .ok (.aload_n 0, 1) := by decide +kernel
theorem dX6_layLines_42 : decode cX6_layLines 42 = .ok (.getfield 22, 3) := by decide +kernel
theorem dX6_layLines_45 : decode cX6_layLines 45 = .ok (.aload_n 0, 1) := by decide +kernel
theorem dX6_layLines_46 : decode cX6_layLines 46 = .ok (.getfield 105, 3) := by decide +kernel
theorem dX6_layLines_49 : decode cX6_layLines 49 = .ok (.iload_n 2, 1) := by decide +kernel
theorem dX6_layLines_50 : decode cX6_layLines 50 = .ok (.iastore, 1) := by decide +kernel
theorem dX6_layLines_51 : decode cX6_layLines 51 = .ok (.aload_n 0, 1) := by decide +kernel
theorem dX6_layLines_52 : decode cX6_layLines 52 = .ok (.getfield 25, 3) := by decide +kernel
theorem dX6_layLines_55 : decode cX6_layLines 55 = .ok (.aload_n 0, 1) := by decide +kernel
theorem dX6_layLines_56 : decode cX6_layLines 56 = .ok (.getfield 105, 3) := by decide +kernel
theorem dX6_layLines_59 : decode cX6_layLines 59 = .ok (.iload_n 3, 1) := by decide +kernel
theorem dX6_layLines_60 : decode cX6_layLines 60 = .ok (.iastore, 1) := by decide +kernel
theorem dX6_layLines_61 : decode cX6_layLines 61 = .ok (.aload_n 0, 1) := by decide +kernel
theorem dX6_layLines_62 : decode cX6_layLines 62 = .ok (.dup, 1) := by decide +kernel
theorem dX6_layLines_63 : decode cX6_layLines 63 = .ok (.getfield 105, 3) := by decide +kernel
theorem dX6_layLines_66 : decode cX6_layLines 66 = .ok (.iconst 1, 1) := by decide +kernel
theorem dX6_layLines_67 : decode cX6_layLines 67 = .ok (.iadd, 1) := by decide +kernel
theorem dX6_layLines_68 : decode cX6_layLines 68 = .ok (.putfield 105, 3) := by decide +kernel
theorem dX6_layLines_71 : decode cX6_layLines 71 = .ok (.iinc 3 1, 3) := by decide +kernel
theorem dX6_layLines_74 : decode cX6_layLines 74 = .ok (.goto (-53), 3) := by decide +kernel
theorem dX6_layLines_77 : decode cX6_layLines 77 = .ok (.iinc 2 1, 3) := by decide +kernel
theorem dX6_layLines_80 : decode cX6_layLines 80 = .ok (.goto (-73), 3) := by decide +kernel
theorem dX6_layLines_83 : decode cX6_layLines 83 = .ok (.return_, 1) := by decide +kernel
theorem dX6_number_0 : decode cX6_number 0 = .ok (.aload_n 0, 1) := by decide +kernel
theorem dX6_number_1 : decode cX6_number 1 = .ok (.iload_n 1, 1) := by decide +kernel
theorem dX6_number_2 : decode cX6_number 2 = .ok (.iload_n 2, 1) := by decide +kernel
theorem dX6_number_3 : decode cX6_number 3 = .ok (.invokevirtual 81, 3) := by decide +kernel
theorem dX6_number_6 : decode cX6_number 6 = .ok (.ifCond .eq 17, 3) := by decide +kernel
theorem dX6_number_9 : decode cX6_number 9 = .ok (.aload_n 0, 1) := by decide +kernel
theorem dX6_number_10 : decode cX6_number 10 = .ok (.iload_n 1, 1) := by decide +kernel
theorem dX6_number_11 : decode cX6_number 11 = .ok (.iload_n 3, 1) := by decide +kernel
theorem dX6_number_12 : decode cX6_number 12 = .ok (.invokevirtual 81, 3) := by decide +kernel
theorem dX6_number_15 : decode cX6_number 15 = .ok (.ifCond .eq 8, 3) := by decide +kernel
theorem dX6_number_18 : decode cX6_number 18 = .ok (.iload_n 2, 1) := by decide +kernel
theorem dX6_number_19 : decode cX6_number 19 = .ok (.iload_n 3, 1) := by decide +kernel
theorem dX6_number_20 : decode cX6_number 20 = .ok (.if_icmp .ne 6, 3) := by decide +kernel
theorem dX6_number_23 : decode cX6_number 23 = .ok (.bipush (-2), 2) := by decide +kernel
theorem dX6_number_25 : decode cX6_number 25 = .ok (.ireturn, 1) := by decide +kernel
theorem dX6_number_26 : decode cX6_number 26 = .ok (.aload_n 0, 1) := by decide +kernel
theorem dX6_number_27 : decode cX6_number 27 = .ok (.iload_n 1, 1) := by decide +kernel
theorem dX6_number_28 : decode cX6_number 28 = .ok (.invokevirtual 109, 3) := by decide +kernel
theorem dX6_number_31 : decode cX6_number 31 = .ok (.iload_n 2, 1) := by decide +kernel
theorem dX6_number_32 : decode cX6_number 32 = .ok (.iload_n 3, 1) := by decide +kernel
theorem dX6_number_33 : decode cX6_number 33 = .ok (.if_icmp .ge 7, 3) := by decide +kernel
theorem dX6_number_36 : decode cX6_number 36 = .ok (.iload_n 2, 1) := by decide +kernel
theorem dX6_number_37 : decode cX6_number 37 = .ok (.goto 4, 3) := by decide +kernel
theorem dX6_number_40 : decode cX6_number 40 = .ok (.iload_n 3, 1) := by decide +kernel
theorem dX6_number_41 : decode cX6_number 41 = .ok (.istore 4, 2) := by decide +kernel
theorem dX6_number_43 : decode cX6_number 43 = .ok (.iload_n 2, 1) := by decide +kernel
theorem dX6_number_44 : decode cX6_number 44 = .ok (.iload_n 3, 1) := by decide +kernel
theorem dX6_number_45 : decode cX6_number 45 = .ok (.iadd, 1) := by decide +kernel
theorem dX6_number_46 : decode cX6_number 46 = .ok (.iload 4, 2) := by decide +kernel
theorem dX6_number_48 : decode cX6_number 48 = .ok (.isub, 1) := by decide +kernel
theorem dX6_number_49 : decode cX6_number 49 = .ok (.istore 5, 2) := by decide +kernel
theorem dX6_number_51 : decode cX6_number 51 = .ok (.iconst 0, 1) := by decide +kernel
theorem dX6_number_52 : decode cX6_number 52 = .ok (.istore 6, 2) := by decide +kernel
theorem dX6_number_54 : decode cX6_number 54 = .ok (.iload 6, 2) := by decide +kernel
theorem dX6_number_56 : decode cX6_number 56 = .ok (.aload_n 0, 1) := by decide +kernel
theorem dX6_number_57 : decode cX6_number 57 = .ok (.getfield 105, 3) := by decide +kernel
theorem dX6_number_60 : decode cX6_number 60 = .ok (.if_icmp .ge 36, 3) := by decide +kernel
theorem dX6_number_63 : decode cX6_number 63 = .ok (.aload_n 0, 1) := by decide +kernel
theorem dX6_number_64 : decode cX6_number 64 = .ok (.getfield 22, 3) := by decide +kernel
theorem dX6_number_67 : decode cX6_number 67 = .ok (.iload 6, 2) := by decide +kernel
theorem dX6_number_69 : decode cX6_number 69 = .ok (.iaload, 1) := by decide +kernel
theorem dX6_number_70 : decode cX6_number 70 = .ok (.iload 4, 2) := by decide +kernel
theorem dX6_number_72 : decode cX6_number 72 = .ok (.if_icmp .ne 18, 3) := by decide +kernel
theorem dX6_number_75 : decode cX6_number 75 = .ok (.aload_n 0, 1) := by decide +kernel
theorem dX6_number_76 : decode cX6_number 76 = .ok (.getfield 25, 3) := by decide +kernel
theorem dX6_number_79 : decode cX6_number 79 = .ok (.iload 6, 2) := by decide +kernel
theorem dX6_number_81 : decode cX6_number 81 = .ok (.iaload, 1) := by decide +kernel
theorem dX6_number_82 : decode cX6_number 82 = .ok (.iload 5, 2) := by decide +kernel
theorem dX6_number_84 : decode cX6_number 84 = .ok (.if_icmp .ne 6, 3) := by decide +kernel
theorem dX6_number_87 : decode cX6_number 87 = .ok (.iload 6, 2) := by decide +kernel
theorem dX6_number_89 : decode cX6_number 89 = .ok (.ireturn, 1) := by decide +kernel
theorem dX6_number_90 : decode cX6_number 90 = .ok (.iinc 6 1, 3) := by decide +kernel
theorem dX6_number_93 : decode cX6_number 93 = .ok (.goto (-39), 3) := by decide +kernel
theorem dX6_number_96 : decode cX6_number 96 = .ok (.iconst (-1), 1) := by decide +kernel
theorem dX6_number_97 : decode cX6_number 97 = .ok (.ireturn, 1) := by decide +kernel
theorem dX6_outside_0 : decode cX6_outside 0 = .ok (.iconst 0, 1) := by decide +kernel
theorem dX6_outside_1 : decode cX6_outside 1 = .ok (.istore 4, 2) := by decide +kernel
theorem dX6_outside_3 : decode cX6_outside 3 = .ok (.iconst 0, 1) := by decide +kernel
theorem dX6_outside_4 : decode cX6_outside 4 = .ok (.istore 5, 2) := by decide +kernel
theorem dX6_outside_6 : decode cX6_outside 6 = .ok (.iload 5, 2) := by decide +kernel
theorem dX6_outside_8 : decode cX6_outside 8 = .ok (.aload_n 0, 1) := by decide +kernel
theorem dX6_outside_9 : decode cX6_outside 9 = .ok (.getfield 7, 3) := by decide +kernel
theorem dX6_outside_12 : decode cX6_outside 12 = .ok (.iload_n 1, 1) := by decide +kernel
theorem dX6_outside_13 : decode cX6_outside 13 = .ok (.iaload, 1) := by decide +kernel
theorem dX6_outside_14 : decode cX6_outside 14 = .ok (.if_icmp .ge 66, 3) := by decide +kernel
theorem dX6_outside_17 : decode cX6_outside 17 = .ok (.iload_n 2, 1) := by decide +kernel
theorem dX6_outside_18 : decode cX6_outside 18 = .ok (.iload 5, 2) := by decide +kernel
theorem dX6_outside_20 : decode cX6_outside 20 = .ok (.ishr, 1) := by decide +kernel
theorem dX6_outside_21 : decode cX6_outside 21 = .ok (.iconst 1, 1) := by decide +kernel
theorem dX6_outside_22 : decode cX6_outside 22 = .ok (.iand, 1) := by decide +kernel
theorem dX6_outside_23 : decode cX6_outside 23 = .ok (.iconst 1, 1) := by decide +kernel
theorem dX6_outside_24 : decode cX6_outside 24 = .ok (.if_icmp .ne 7, 3) := by decide +kernel
theorem dX6_outside_27 : decode cX6_outside 27 = .ok (.iconst 0, 1) := by decide +kernel
theorem dX6_outside_28 : decode cX6_outside 28 = .ok (.goto 20, 3) := by decide +kernel
theorem dX6_outside_31 : decode cX6_outside 31 = .ok (.aload_n 0, 1) := by decide +kernel
theorem dX6_outside_32 : decode cX6_outside 32 = .ok (.getfield 13, 3) := by decide +kernel
theorem dX6_outside_35 : decode cX6_outside 35 = .ok (.bipush 10, 2) := by decide +kernel
theorem dX6_outside_37 : decode cX6_outside 37 = .ok (.iload_n 1, 1) := by decide +kernel
theorem dX6_outside_38 : decode cX6_outside 38 = .ok (.imul, 1) := by decide +kernel
theorem dX6_outside_39 : decode cX6_outside 39 = .ok (.iload 5, 2) := by decide +kernel
theorem dX6_outside_41 : decode cX6_outside 41 = .ok (.iadd, 1) := by decide +kernel
theorem dX6_outside_42 : decode cX6_outside 42 = .ok (.iaload, 1) := by decide +kernel
theorem dX6_outside_43 : decode cX6_outside 43 = .ok (.iload_n 2, 1) := by decide +kernel
theorem dX6_outside_44 : decode cX6_outside 44 = .ok (.iand, 1) := by decide +kernel
theorem dX6_outside_45 : decode cX6_outside 45 = .ok (.invokestatic 73, 3) := by decide +kernel
theorem dX6_outside_48 : decode cX6_outside 48 = .ok (.istore 6, 2) := by decide +kernel
theorem dX6_outside_50 : decode cX6_outside 50 = .ok (.iload 4, 2) := by decide +kernel
theorem dX6_outside_52 : decode cX6_outside 52 = .ok (.iload_n 3, 1) := by decide +kernel
theorem dX6_outside_53 : decode cX6_outside 53 = .ok (.ifCond .eq 8, 3) := by decide +kernel
theorem dX6_outside_56 : decode cX6_outside 56 = .ok (.iload 6, 2) := by decide +kernel
theorem dX6_outside_58 : decode cX6_outside 58 = .ok (.goto 13, 3) := by decide +kernel
theorem dX6_outside_61 : decode cX6_outside 61 = .ok (.iload 6, 2) := by decide +kernel
theorem dX6_outside_63 : decode cX6_outside 63 = .ok (.ifCond .le 7, 3) := by decide +kernel
theorem dX6_outside_66 : decode cX6_outside 66 = .ok (.iconst 1, 1) := by decide +kernel
theorem dX6_outside_67 : decode cX6_outside 67 = .ok (.goto 4, 3) := by decide +kernel
theorem dX6_outside_70 : decode cX6_outside 70 = .ok (.iconst 0, 1) := by decide +kernel
theorem dX6_outside_71 : decode cX6_outside 71 = .ok (.iadd, 1) := by decide +kernel
theorem dX6_outside_72 : decode cX6_outside 72 = .ok (.istore 4, 2) := by decide +kernel
theorem dX6_outside_74 : decode cX6_outside 74 = .ok (.iinc 5 1, 3) := by decide +kernel
theorem dX6_outside_77 : decode cX6_outside 77 = .ok (.goto (-71), 3) := by decide +kernel
theorem dX6_outside_80 : decode cX6_outside 80 = .ok (.iload 4, 2) := by decide +kernel
theorem dX6_outside_82 : decode cX6_outside 82 = .ok (.ireturn, 1) := by decide +kernel
theorem dX6_growth_0 : decode cX6_growth 0 = .ok (.iload_n 1, 1) := by decide +kernel
theorem dX6_growth_1 : decode cX6_growth 1 = .ok (.invokestatic 69, 3) := by decide +kernel
theorem dX6_growth_4 : decode cX6_growth 4 = .ok (.ifCond .eq 12, 3) := by decide +kernel
theorem dX6_growth_7 : decode cX6_growth 7 = .ok (.iload_n 3, 1) := by decide +kernel
theorem dX6_growth_8 : decode cX6_growth 8 = .ok (.iconst 0, 1) := by decide +kernel
theorem dX6_growth_9 : decode cX6_growth 9 = .ok (.iconst 2, 1) := by decide +kernel
theorem dX6_growth_10 : decode cX6_growth 10 = .ok (.invokestatic 65, 3) := by decide +kernel
theorem dX6_growth_13 : decode cX6_growth 13 = .ok (.ifCond .ne 6, 3) := by decide +kernel
theorem dX6_growth_16 : decode cX6_growth 16 = .ok (.bipush (-2), 2) := by decide +kernel
theorem dX6_growth_18 : decode cX6_growth 18 = .ok (.ireturn, 1) := by decide +kernel
theorem dX6_growth_19 : decode cX6_growth 19 = .ok (.iconst 0, 1) := by decide +kernel
theorem dX6_growth_20 : decode cX6_growth 20 = .ok (.istore 4, 2) := by decide +kernel
theorem dX6_growth_22 : decode cX6_growth 22 = .ok (.iconst 1, 1) := by decide +kernel
theorem dX6_growth_23 : decode cX6_growth 23 = .ok (.istore 5, 2) := by decide +kernel
theorem dX6_growth_25 : decode cX6_growth 25 = .ok (.iload 5, 2) := by decide +kernel
theorem dX6_growth_27 : decode cX6_growth 27 = .ok (.iconst 1, 1) := by decide +kernel
theorem dX6_growth_28 : decode cX6_growth 28 = .ok (.aload_n 0, 1) := by decide +kernel
theorem dX6_growth_29 : decode cX6_growth 29 = .ok (.getfield 7, 3) := by decide +kernel
theorem dX6_growth_32 : decode cX6_growth 32 = .ok (.iload_n 1, 1) := by decide +kernel
theorem dX6_growth_33 : decode cX6_growth 33 = .ok (.iaload, 1) := by decide +kernel
theorem dX6_growth_34 : decode cX6_growth 34 = .ok (.ishl, 1) := by decide +kernel
theorem dX6_growth_35 : decode cX6_growth 35 = .ok (.if_icmp .ge 82, 3) := by decide +kernel
theorem dX6_growth_38 : decode cX6_growth 38 = .ok (.iconst 2, 1) := by decide +kernel
theorem dX6_growth_39 : decode cX6_growth 39 = .ok (.iload 5, 2) := by decide +kernel
theorem dX6_growth_41 : decode cX6_growth 41 = .ok (.invokestatic 73, 3) := by decide +kernel
theorem dX6_growth_44 : decode cX6_growth 44 = .ok (.imul, 1) := by decide +kernel
theorem dX6_growth_45 : decode cX6_growth 45 = .ok (.aload_n 0, 1) := by decide +kernel
theorem dX6_growth_46 : decode cX6_growth 46 = .ok (.getfield 7, 3) := by decide +kernel
theorem dX6_growth_49 : decode cX6_growth 49 = .ok (.iload_n 1, 1) := by decide +kernel
theorem dX6_growth_50 : decode cX6_growth 50 = .ok (.iaload, 1) := by decide +kernel
theorem dX6_growth_51 : decode cX6_growth 51 = .ok (.if_icmp .gt 60, 3) := by decide +kernel
theorem dX6_growth_54 : decode cX6_growth 54 = .ok (.iload 4, 2) := by decide +kernel
theorem dX6_growth_56 : decode cX6_growth 56 = .ok (.ifCond .eq 34, 3) := by decide +kernel
theorem dX6_growth_59 : decode cX6_growth 59 = .ok (.aload_n 0, 1) := by decide +kernel
theorem dX6_growth_60 : decode cX6_growth 60 = .ok (.iload_n 1, 1) := by decide +kernel
theorem dX6_growth_61 : decode cX6_growth 61 = .ok (.iload 5, 2) := by decide +kernel
theorem dX6_growth_63 : decode cX6_growth 63 = .ok (.iload_n 2, 1) := by decide +kernel
theorem dX6_growth_64 : decode cX6_growth 64 = .ok (.invokevirtual 113, 3) := by decide +kernel
theorem dX6_growth_67 : decode cX6_growth 67 = .ok (.iload 4, 2) := by decide +kernel
theorem dX6_growth_69 : decode cX6_growth 69 = .ok (.invokestatic 73, 3) := by decide +kernel
theorem dX6_growth_72 : decode cX6_growth 72 = .ok (.imul, 1) := by decide +kernel
theorem dX6_growth_73 : decode cX6_growth 73 = .ok (.aload_n 0, 1) := by decide +kernel
theorem dX6_growth_74 : decode cX6_growth 74 = .ok (.iload_n 1, 1) := by decide +kernel
theorem dX6_growth_75 : decode cX6_growth 75 = .ok (.iload 4, 2) := by decide +kernel
theorem dX6_growth_77 : decode cX6_growth 77 = .ok (.iload_n 2, 1) := by decide +kernel
theorem dX6_growth_78 : decode cX6_growth 78 = .ok (.invokevirtual 113, 3) := by decide +kernel
theorem dX6_growth_81 : decode cX6_growth 81 = .ok (.iload 5, 2) := by decide +kernel
theorem dX6_growth_83 : decode cX6_growth 83 = .ok (.invokestatic 73, 3) := by decide +kernel
theorem dX6_growth_86 : decode cX6_growth 86 = .ok (.imul, 1) := by decide +kernel
theorem dX6_growth_87 : decode cX6_growth 87 = .ok (.if_icmp .ge 7, 3) := by decide +kernel
theorem dX6_growth_90 : decode cX6_growth 90 = .ok (.iconst 1, 1) := by decide +kernel
theorem dX6_growth_91 : decode cX6_growth 91 = .ok (.goto 4, 3) := by decide +kernel
theorem dX6_growth_94 : decode cX6_growth 94 = .ok (.iconst 0, 1) := by decide +kernel
theorem dX6_growth_95 : decode cX6_growth 95 = .ok (.istore 6, 2) := by decide +kernel
theorem dX6_growth_97 : decode cX6_growth 97 = .ok (.iload 6, 2) := by decide +kernel
theorem dX6_growth_99 : decode cX6_growth 99 = .ok (.ifCond .eq 8, 3) := by decide +kernel
theorem dX6_growth_102 : decode cX6_growth 102 = .ok (.iload 5, 2) := by decide +kernel
theorem dX6_growth_104 : decode cX6_growth 104 = .ok (.goto 5, 3) := by decide +kernel
theorem dX6_growth_107 : decode cX6_growth 107 = .ok (.iload 4, 2) := by decide +kernel
theorem dX6_growth_109 : decode cX6_growth 109 = .ok (.istore 4, 2) := by decide +kernel
theorem dX6_growth_111 : decode cX6_growth 111 = .ok (.iinc 5 1, 3) := by decide +kernel
theorem dX6_growth_114 : decode cX6_growth 114 = .ok (.goto (-89), 3) := by decide +kernel
theorem dX6_growth_117 : decode cX6_growth 117 = .ok (.iload 4, 2) := by decide +kernel
theorem dX6_growth_119 : decode cX6_growth 119 = .ok (.ifCond .ne 7, 3) := by decide +kernel
theorem dX6_growth_122 : decode cX6_growth 122 = .ok (.iconst (-1), 1) := by decide +kernel
theorem dX6_growth_123 : decode cX6_growth 123 = .ok (.goto 33, 3) := by decide +kernel
theorem dX6_growth_126 : decode cX6_growth 126 = .ok (.iload_n 3, 1) := by decide +kernel
theorem dX6_growth_127 : decode cX6_growth 127 = .ok (.ifCond .ne 14, 3) := by decide +kernel
theorem dX6_growth_130 : decode cX6_growth 130 = .ok (.aload_n 0, 1) := by decide +kernel
theorem dX6_growth_131 : decode cX6_growth 131 = .ok (.iload_n 1, 1) := by decide +kernel
theorem dX6_growth_132 : decode cX6_growth 132 = .ok (.iload 4, 2) := by decide +kernel
theorem dX6_growth_134 : decode cX6_growth 134 = .ok (.iload_n 2, 1) := by decide +kernel
theorem dX6_growth_135 : decode cX6_growth 135 = .ok (.invokevirtual 113, 3) := by decide +kernel
theorem dX6_growth_138 : decode cX6_growth 138 = .ok (.goto 18, 3) := by decide +kernel
theorem dX6_growth_141 : decode cX6_growth 141 = .ok (.iload_n 3, 1) := by decide +kernel
theorem dX6_growth_142 : decode cX6_growth 142 = .ok (.iconst 1, 1) := by decide +kernel
theorem dX6_growth_143 : decode cX6_growth 143 = .ok (.if_icmp .ne 11, 3) := by decide +kernel
theorem dX6_growth_146 : decode cX6_growth 146 = .ok (.iload 4, 2) := by decide +kernel
theorem dX6_growth_148 : decode cX6_growth 148 = .ok (.invokestatic 73, 3) := by decide +kernel
theorem dX6_growth_151 : decode cX6_growth 151 = .ok (.goto 5, 3) := by decide +kernel
theorem dX6_growth_154 : decode cX6_growth 154 = .ok (.iload 4, 2) := by decide +kernel
theorem dX6_growth_156 : decode cX6_growth 156 = .ok (.ireturn, 1) := by decide +kernel
theorem dX6_layTable_0 : decode cX6_layTable 0 = .ok (.aload_n 0, 1) := by decide +kernel
theorem dX6_layTable_1 : decode cX6_layTable 1 = .ok (.iload_n 1, 1) := by decide +kernel
theorem dX6_layTable_2 : decode cX6_layTable 2 = .ok (.invokevirtual 109, 3) := by decide +kernel
theorem dX6_layTable_5 : decode cX6_layTable 5 = .ok (.iconst 0, 1) := by decide +kernel
theorem dX6_layTable_6 : decode cX6_layTable 6 = .ok (.istore_n 3, 1) := by decide +kernel
theorem dX6_layTable_7 : decode cX6_layTable 7 = .ok (.iload_n 3, 1) := by decide +kernel
theorem dX6_layTable_8 : decode cX6_layTable 8 = .ok (.bipush 100, 2) := by decide +kernel
theorem dX6_layTable_10 : decode cX6_layTable 10 = .ok (.if_icmp .ge 16, 3) := by decide +kernel
theorem dX6_layTable_13 : decode cX6_layTable 13 = .ok (.aload_n 0, 1) := by decide +kernel
theorem dX6_layTable_14 : decode cX6_layTable 14 = .ok (.getfield 28, 3) := by decide +kernel
theorem dX6_layTable_17 : decode cX6_layTable 17 = .ok (.iload_n 3, 1) := by decide +kernel
theorem dX6_layTable_18 : decode cX6_layTable 18 = .ok (.lconst 0, 1) := by decide +kernel
theorem dX6_layTable_19 : decode cX6_layTable 19 = .ok (.lastore, 1) := by decide +kernel
theorem dX6_layTable_20 : decode cX6_layTable 20 = .ok (.iinc 3 1, 3) := by decide +kernel
theorem dX6_layTable_23 : decode cX6_layTable 23 = .ok (.goto (-16), 3) := by decide +kernel
theorem dX6_layTable_26 : decode cX6_layTable 26 = .ok (.iconst 0, 1) := by decide +kernel
theorem dX6_layTable_27 : decode cX6_layTable 27 = .ok (.istore_n 3, 1) := by decide +kernel
theorem dX6_layTable_28 : decode cX6_layTable 28 = .ok (.iload_n 3, 1) := by decide +kernel
theorem dX6_layTable_29 : decode cX6_layTable 29 = .ok (.aload_n 0, 1) := by decide +kernel
theorem dX6_layTable_30 : decode cX6_layTable 30 = .ok (.getfield 105, 3) := by decide +kernel
theorem dX6_layTable_33 : decode cX6_layTable 33 = .ok (.if_icmp .ge 79, 3) := by decide +kernel
theorem dX6_layTable_36 : decode cX6_layTable 36 = .ok (.iload_n 3, 1) := by decide +kernel
theorem dX6_layTable_37 : decode cX6_layTable 37 = .ok (.bipush 31, 2) := by decide +kernel
theorem dX6_layTable_39 : decode cX6_layTable 39 = .ok (.if_icmp .ge 18, 3) := by decide +kernel
theorem dX6_layTable_42 : decode cX6_layTable 42 = .ok (.iload_n 2, 1) := by decide +kernel
theorem dX6_layTable_43 : decode cX6_layTable 43 = .ok (.iload_n 3, 1) := by decide +kernel
theorem dX6_layTable_44 : decode cX6_layTable 44 = .ok (.ishr, 1) := by decide +kernel
theorem dX6_layTable_45 : decode cX6_layTable 45 = .ok (.iconst 1, 1) := by decide +kernel
theorem dX6_layTable_46 : decode cX6_layTable 46 = .ok (.iand, 1) := by decide +kernel
theorem dX6_layTable_47 : decode cX6_layTable 47 = .ok (.iconst 1, 1) := by decide +kernel
theorem dX6_layTable_48 : decode cX6_layTable 48 = .ok (.if_icmp .ne 9, 3) := by decide +kernel
theorem dX6_layTable_51 : decode cX6_layTable 51 = .ok (.ldc2_w 117, 3) := by decide +kernel
theorem dX6_layTable_54 : decode cX6_layTable 54 = .ok (.goto 4, 3) := by decide +kernel
theorem dX6_layTable_57 : decode cX6_layTable 57 = .ok (.lconst 1, 1) := by decide +kernel
theorem dX6_layTable_58 : decode cX6_layTable 58 = .ok (.lstore 4, 2) := by decide +kernel
theorem dX6_layTable_60 : decode cX6_layTable 60 = .ok (.aload_n 0, 1) := by decide +kernel
theorem dX6_layTable_61 : decode cX6_layTable 61 = .ok (.getfield 28, 3) := by decide +kernel
theorem dX6_layTable_64 : decode cX6_layTable 64 = .ok (.bipush 10, 2) := by decide +kernel
theorem dX6_layTable_66 : decode cX6_layTable 66 = .ok (.aload_n 0, 1) := by decide +kernel
theorem dX6_layTable_67 : decode cX6_layTable 67 = .ok (.getfield 22, 3) := by decide +kernel
theorem dX6_layTable_70 : decode cX6_layTable 70 = .ok (.iload_n 3, 1) := by decide +kernel
theorem dX6_layTable_71 : decode cX6_layTable 71 = .ok (.iaload, 1) := by decide +kernel
theorem dX6_layTable_72 : decode cX6_layTable 72 = .ok (.imul, 1) := by decide +kernel
theorem dX6_layTable_73 : decode cX6_layTable 73 = .ok (.aload_n 0, 1) := by decide +kernel
theorem dX6_layTable_74 : decode cX6_layTable 74 = .ok (.getfield 25, 3) := by decide +kernel
theorem dX6_layTable_77 : decode cX6_layTable 77 = .ok (.iload_n 3, 1) := by decide +kernel
theorem dX6_layTable_78 : decode cX6_layTable 78 = .ok (.iaload, 1) := by decide +kernel
theorem dX6_layTable_79 : decode cX6_layTable 79 = .ok (.iadd, 1) := by decide +kernel
theorem dX6_layTable_80 : decode cX6_layTable 80 = .ok (.lload 4, 2) := by decide +kernel
theorem dX6_layTable_82 : decode cX6_layTable 82 = .ok (.lastore, 1) := by decide +kernel
theorem dX6_layTable_83 : decode cX6_layTable 83 = .ok (.aload_n 0, 1) := by decide +kernel
theorem dX6_layTable_84 : decode cX6_layTable 84 = .ok (.getfield 28, 3) := by decide +kernel
theorem dX6_layTable_87 : decode cX6_layTable 87 = .ok (.bipush 10, 2) := by decide +kernel
theorem dX6_layTable_89 : decode cX6_layTable 89 = .ok (.aload_n 0, 1) := by decide +kernel
theorem dX6_layTable_90 : decode cX6_layTable 90 = .ok (.getfield 25, 3) := by decide +kernel
theorem dX6_layTable_93 : decode cX6_layTable 93 = .ok (.iload_n 3, 1) := by decide +kernel
theorem dX6_layTable_94 : decode cX6_layTable 94 = .ok (.iaload, 1) := by decide +kernel
theorem dX6_layTable_95 : decode cX6_layTable 95 = .ok (.imul, 1) := by decide +kernel
theorem dX6_layTable_96 : decode cX6_layTable 96 = .ok (.aload_n 0, 1) := by decide +kernel
theorem dX6_layTable_97 : decode cX6_layTable 97 = .ok (.getfield 22, 3) := by decide +kernel
theorem dX6_layTable_100 : decode cX6_layTable 100 = .ok (.iload_n 3, 1) := by decide +kernel
theorem dX6_layTable_101 : decode cX6_layTable 101 = .ok (.iaload, 1) := by decide +kernel
theorem dX6_layTable_102 : decode cX6_layTable 102 = .ok (.iadd, 1) := by decide +kernel
theorem dX6_layTable_103 : decode cX6_layTable 103 = .ok (.lload 4, 2) := by decide +kernel
theorem dX6_layTable_105 : decode cX6_layTable 105 = .ok (.lastore, 1) := by decide +kernel
theorem dX6_layTable_106 : decode cX6_layTable 106 = .ok (.iinc 3 1, 3) := by decide +kernel
theorem dX6_layTable_109 : decode cX6_layTable 109 = .ok (.goto (-81), 3) := by decide +kernel
theorem dX6_layTable_112 : decode cX6_layTable 112 = .ok (.return_, 1) := by decide +kernel
theorem dX6_layPolynomial_0 : decode cX6_layPolynomial 0 = .ok (.iconst 0, 1) := by decide +kernel
theorem dX6_layPolynomial_1 : decode cX6_layPolynomial 1 = .ok (.istore_n 2, 1) := by decide +kernel
theorem dX6_layPolynomial_2 : decode cX6_layPolynomial 2 = .ok (.iload_n 2, 1) := by decide +kernel
theorem dX6_layPolynomial_3 : decode cX6_layPolynomial 3 = .ok (.bipush 100, 2) := by decide +kernel
theorem dX6_layPolynomial_5 : decode cX6_layPolynomial 5 = .ok (.if_icmp .ge 31, 3) := by decide +kernel
theorem dX6_layPolynomial_8 : decode cX6_layPolynomial 8 = .ok (.aload_n 0, 1) := by decide +kernel
theorem dX6_layPolynomial_9 : decode cX6_layPolynomial 9 = .ok (.getfield 32, 3) := by decide +kernel
theorem dX6_layPolynomial_12 : decode cX6_layPolynomial 12 = .ok (.iload_n 2, 1) := by decide +kernel
theorem dX6_layPolynomial_13 : decode cX6_layPolynomial 13 = .ok (.iload_n 2, 1) := by decide +kernel
theorem dX6_layPolynomial_14 : decode cX6_layPolynomial 14 = .ok (.bipush 10, 2) := by decide +kernel
theorem dX6_layPolynomial_16 : decode cX6_layPolynomial 16 = .ok (.idiv, 1) := by decide +kernel
theorem dX6_layPolynomial_17 : decode cX6_layPolynomial 17 = .ok (.iload_n 2, 1) := by decide +kernel
theorem dX6_layPolynomial_18 : decode cX6_layPolynomial 18 = .ok (.bipush 10, 2) := by decide +kernel
theorem dX6_layPolynomial_20 : decode cX6_layPolynomial 20 = .ok (.irem, 1) := by decide +kernel
theorem dX6_layPolynomial_21 : decode cX6_layPolynomial 21 = .ok (.if_icmp .ne 7, 3) := by decide +kernel
theorem dX6_layPolynomial_24 : decode cX6_layPolynomial 24 = .ok (.lconst 1, 1) := by decide +kernel
theorem dX6_layPolynomial_25 : decode cX6_layPolynomial 25 = .ok (.goto 4, 3) := by decide +kernel
theorem dX6_layPolynomial_28 : decode cX6_layPolynomial 28 = .ok (.lconst 0, 1) := by decide +kernel
theorem dX6_layPolynomial_29 : decode cX6_layPolynomial 29 = .ok (.lastore, 1) := by decide +kernel
theorem dX6_layPolynomial_30 : decode cX6_layPolynomial 30 = .ok (.iinc 2 1, 3) := by decide +kernel
theorem dX6_layPolynomial_33 : decode cX6_layPolynomial 33 = .ok (.goto (-31), 3) := by decide +kernel
theorem dX6_layPolynomial_36 : decode cX6_layPolynomial 36 = .ok (.aload_n 0, 1) := by decide +kernel
theorem dX6_layPolynomial_37 : decode cX6_layPolynomial 37 = .ok (.getfield 38, 3) := by decide +kernel
theorem dX6_layPolynomial_40 : decode cX6_layPolynomial 40 = .ok (.iload_n 1, 1) := by decide +kernel
theorem dX6_layPolynomial_41 : decode cX6_layPolynomial 41 = .ok (.lconst 1, 1) := by decide +kernel
theorem dX6_layPolynomial_42 : decode cX6_layPolynomial 42 = .ok (.lastore, 1) := by decide +kernel
theorem dX6_layPolynomial_43 : decode cX6_layPolynomial 43 = .ok (.iconst 1, 1) := by decide +kernel
theorem dX6_layPolynomial_44 : decode cX6_layPolynomial 44 = .ok (.istore_n 2, 1) := by decide +kernel
theorem dX6_layPolynomial_45 : decode cX6_layPolynomial 45 = .ok (.iload_n 2, 1) := by decide +kernel
theorem dX6_layPolynomial_46 : decode cX6_layPolynomial 46 = .ok (.iload_n 1, 1) := by decide +kernel
theorem dX6_layPolynomial_47 : decode cX6_layPolynomial 47 = .ok (.if_icmp .gt 222, 3) := by decide +kernel
theorem dX6_layPolynomial_50 : decode cX6_layPolynomial 50 = .ok (.iconst 0, 1) := by decide +kernel
theorem dX6_layPolynomial_51 : decode cX6_layPolynomial 51 = .ok (.istore_n 3, 1) := by decide +kernel
theorem dX6_layPolynomial_52 : decode cX6_layPolynomial 52 = .ok (.iload_n 3, 1) := by decide +kernel
theorem dX6_layPolynomial_53 : decode cX6_layPolynomial 53 = .ok (.iload_n 1, 1) := by decide +kernel
theorem dX6_layPolynomial_54 : decode cX6_layPolynomial 54 = .ok (.if_icmp .ge 87, 3) := by decide +kernel
theorem dX6_layPolynomial_57 : decode cX6_layPolynomial 57 = .ok (.iconst 0, 1) := by decide +kernel
theorem dX6_layPolynomial_58 : decode cX6_layPolynomial 58 = .ok (.istore 4, 2) := by decide +kernel
theorem dX6_layPolynomial_60 : decode cX6_layPolynomial 60 = .ok (.iload 4, 2) := by decide +kernel
theorem dX6_layPolynomial_62 : decode cX6_layPolynomial 62 = .ok (.iload_n 1, 1) := by decide +kernel
theorem dX6_layPolynomial_63 : decode cX6_layPolynomial 63 = .ok (.if_icmp .ge 72, 3) := by decide +kernel
theorem dX6_layPolynomial_66 : decode cX6_layPolynomial 66 = .ok (.lconst 0, 1) := by decide +kernel
theorem dX6_layPolynomial_67 : decode cX6_layPolynomial 67 = .ok (.lstore 5, 2) := by decide +kernel
theorem dX6_layPolynomial_69 : decode cX6_layPolynomial 69 = .ok (.iconst 0, 1) := by decide +kernel
theorem dX6_layPolynomial_70 : decode cX6_layPolynomial 70 = .ok (.istore 7, 2) := by decide +kernel
theorem dX6_layPolynomial_72 : decode cX6_layPolynomial 72 = .ok (.iload 7, 2) := by decide +kernel
theorem dX6_layPolynomial_74 : decode cX6_layPolynomial 74 = .ok (.iload_n 1, 1) := by decide +kernel
theorem dX6_layPolynomial_75 : decode cX6_layPolynomial 75 = .ok (.if_icmp .ge 40, 3) := by decide +kernel
theorem dX6_layPolynomial_78 : decode cX6_layPolynomial 78 = .ok (.lload 5, 2) := by decide +kernel
theorem dX6_layPolynomial_80 : decode cX6_layPolynomial 80 = .ok (.aload_n 0, 1) := by decide +kernel
theorem dX6_layPolynomial_81 : decode cX6_layPolynomial 81 = .ok (.getfield 28, 3) := by decide +kernel
theorem dX6_layPolynomial_84 : decode cX6_layPolynomial 84 = .ok (.bipush 10, 2) := by decide +kernel
theorem dX6_layPolynomial_86 : decode cX6_layPolynomial 86 = .ok (.iload_n 3, 1) := by decide +kernel
theorem dX6_layPolynomial_87 : decode cX6_layPolynomial 87 = .ok (.imul, 1) := by decide +kernel
theorem dX6_layPolynomial_88 : decode cX6_layPolynomial 88 = .ok (.iload 7, 2) := by decide +kernel
theorem dX6_layPolynomial_90 : decode cX6_layPolynomial 90 = .ok (.iadd, 1) := by decide +kernel
theorem dX6_layPolynomial_91 : decode cX6_layPolynomial 91 = .ok (.laload, 1) := by decide +kernel
theorem dX6_layPolynomial_92 : decode cX6_layPolynomial 92 = .ok (.aload_n 0, 1) := by decide +kernel
theorem dX6_layPolynomial_93 : decode cX6_layPolynomial 93 = .ok (.getfield 32, 3) := by decide +kernel
theorem dX6_layPolynomial_96 : decode cX6_layPolynomial 96 = .ok (.bipush 10, 2) := by decide +kernel
theorem dX6_layPolynomial_98 : decode cX6_layPolynomial 98 = .ok (.iload 7, 2) := by decide +kernel
theorem dX6_layPolynomial_100 : decode cX6_layPolynomial 100 = .ok (.imul, 1) := by decide +kernel
theorem dX6_layPolynomial_101 : decode cX6_layPolynomial 101 = .ok (.iload 4, 2) := by decide +kernel
theorem dX6_layPolynomial_103 : decode cX6_layPolynomial 103 = .ok (.iadd, 1) := by decide +kernel
theorem dX6_layPolynomial_104 : decode cX6_layPolynomial 104 = .ok (.laload, 1) := by decide +kernel
theorem dX6_layPolynomial_105 : decode cX6_layPolynomial 105 = .ok (.lmul, 1) := by decide +kernel
theorem dX6_layPolynomial_106 : decode cX6_layPolynomial 106 = .ok (.ladd, 1) := by decide +kernel
theorem dX6_layPolynomial_107 : decode cX6_layPolynomial 107 = .ok (.lstore 5, 2) := by decide +kernel
theorem dX6_layPolynomial_109 : decode cX6_layPolynomial 109 = .ok (.iinc 7 1, 3) := by decide +kernel
theorem dX6_layPolynomial_112 : decode cX6_layPolynomial 112 = .ok (.goto (-40), 3) := by decide +kernel
theorem dX6_layPolynomial_115 : decode cX6_layPolynomial 115 = .ok (.aload_n 0, 1) := by decide +kernel
theorem dX6_layPolynomial_116 : decode cX6_layPolynomial 116 = .ok (.getfield 35, 3) := by decide +kernel
theorem dX6_layPolynomial_119 : decode cX6_layPolynomial 119 = .ok (.bipush 10, 2) := by decide +kernel
theorem dX6_layPolynomial_121 : decode cX6_layPolynomial 121 = .ok (.iload_n 3, 1) := by decide +kernel
theorem dX6_layPolynomial_122 : decode cX6_layPolynomial 122 = .ok (.imul, 1) := by decide +kernel
theorem dX6_layPolynomial_123 : decode cX6_layPolynomial 123 = .ok (.iload 4, 2) := by decide +kernel
theorem dX6_layPolynomial_125 : decode cX6_layPolynomial 125 = .ok (.iadd, 1) := by decide +kernel
theorem dX6_layPolynomial_126 : decode cX6_layPolynomial 126 = .ok (.lload 5, 2) := by decide +kernel
theorem dX6_layPolynomial_128 : decode cX6_layPolynomial 128 = .ok (.lastore, 1) := by decide +kernel
theorem dX6_layPolynomial_129 : decode cX6_layPolynomial 129 = .ok (.iinc 4 1, 3) := by decide +kernel
theorem dX6_layPolynomial_132 : decode cX6_layPolynomial 132 = .ok (.goto (-72), 3) := by decide +kernel
theorem dX6_layPolynomial_135 : decode cX6_layPolynomial 135 = .ok (.iinc 3 1, 3) := by decide +kernel
theorem dX6_layPolynomial_138 : decode cX6_layPolynomial 138 = .ok (.goto (-86), 3) := by decide +kernel
theorem dX6_layPolynomial_141 : decode cX6_layPolynomial 141 = .ok (.lconst 0, 1) := by decide +kernel
theorem dX6_layPolynomial_142 : decode cX6_layPolynomial 142 = .ok (.lstore_n 3, 1) := by decide +kernel
theorem dX6_layPolynomial_143 : decode cX6_layPolynomial 143 = .ok (.iconst 0, 1) := by decide +kernel
theorem dX6_layPolynomial_144 : decode cX6_layPolynomial 144 = .ok (.istore 5, 2) := by decide +kernel
theorem dX6_layPolynomial_146 : decode cX6_layPolynomial 146 = .ok (.iload 5, 2) := by decide +kernel
theorem dX6_layPolynomial_148 : decode cX6_layPolynomial 148 = .ok (.iload_n 1, 1) := by decide +kernel
theorem dX6_layPolynomial_149 : decode cX6_layPolynomial 149 = .ok (.if_icmp .ge 25, 3) := by decide +kernel
theorem dX6_layPolynomial_152 : decode cX6_layPolynomial 152 = .ok (.lload_n 3, 1) := by decide +kernel
theorem dX6_layPolynomial_153 : decode cX6_layPolynomial 153 = .ok (.aload_n 0, 1) := by decide +kernel
theorem dX6_layPolynomial_154 : decode cX6_layPolynomial 154 = .ok (.getfield 35, 3) := by decide +kernel
theorem dX6_layPolynomial_157 : decode cX6_layPolynomial 157 = .ok (.bipush 10, 2) := by decide +kernel
theorem dX6_layPolynomial_159 : decode cX6_layPolynomial 159 = .ok (.iload 5, 2) := by decide +kernel
theorem dX6_layPolynomial_161 : decode cX6_layPolynomial 161 = .ok (.imul, 1) := by decide +kernel
theorem dX6_layPolynomial_162 : decode cX6_layPolynomial 162 = .ok (.iload 5, 2) := by decide +kernel
theorem dX6_layPolynomial_164 : decode cX6_layPolynomial 164 = .ok (.iadd, 1) := by decide +kernel
theorem dX6_layPolynomial_165 : decode cX6_layPolynomial 165 = .ok (.laload, 1) := by decide +kernel
theorem dX6_layPolynomial_166 : decode cX6_layPolynomial 166 = .ok (.ladd, 1) := by decide +kernel
theorem dX6_layPolynomial_167 : decode cX6_layPolynomial 167 = .ok (.lstore_n 3, 1) := by decide +kernel
theorem dX6_layPolynomial_168 : decode cX6_layPolynomial 168 = .ok (.iinc 5 1, 3) := by decide +kernel
theorem dX6_layPolynomial_171 : decode cX6_layPolynomial 171 = .ok (.goto (-25), 3) := by decide +kernel
theorem dX6_layPolynomial_174 : decode cX6_layPolynomial 174 = .ok (.aload_n 0, 1) := by decide +kernel
theorem dX6_layPolynomial_175 : decode cX6_layPolynomial 175 = .ok (.getfield 38, 3) := by decide +kernel
theorem dX6_layPolynomial_178 : decode cX6_layPolynomial 178 = .ok (.iload_n 1, 1) := by decide +kernel
theorem dX6_layPolynomial_179 : decode cX6_layPolynomial 179 = .ok (.iload_n 2, 1) := by decide +kernel
theorem dX6_layPolynomial_180 : decode cX6_layPolynomial 180 = .ok (.isub, 1) := by decide +kernel
theorem dX6_layPolynomial_181 : decode cX6_layPolynomial 181 = .ok (.lload_n 3, 1) := by decide +kernel
theorem dX6_layPolynomial_182 : decode cX6_layPolynomial 182 = .ok (.lneg, 1) := by decide +kernel
theorem dX6_layPolynomial_183 : decode cX6_layPolynomial 183 = .ok (.iload_n 2, 1) := by decide +kernel
theorem dX6_layPolynomial_184 : decode cX6_layPolynomial 184 = .ok (.i2l, 1) := by decide +kernel
theorem dX6_layPolynomial_185 : decode cX6_layPolynomial 185 = .ok (.ldiv, 1) := by decide +kernel
theorem dX6_layPolynomial_186 : decode cX6_layPolynomial 186 = .ok (.lastore, 1) := by decide +kernel
theorem dX6_layPolynomial_187 : decode cX6_layPolynomial 187 = .ok (.iconst 0, 1) := by decide +kernel
theorem dX6_layPolynomial_188 : decode cX6_layPolynomial 188 = .ok (.istore 5, 2) := by decide +kernel
theorem dX6_layPolynomial_190 : decode cX6_layPolynomial 190 = .ok (.iload 5, 2) := by decide +kernel
theorem dX6_layPolynomial_192 : decode cX6_layPolynomial 192 = .ok (.iload_n 1, 1) := by decide +kernel
theorem dX6_layPolynomial_193 : decode cX6_layPolynomial 193 = .ok (.if_icmp .ge 70, 3) := by decide +kernel
theorem dX6_layPolynomial_196 : decode cX6_layPolynomial 196 = .ok (.iconst 0, 1) := by decide +kernel
theorem dX6_layPolynomial_197 : decode cX6_layPolynomial 197 = .ok (.istore 6, 2) := by decide +kernel
theorem dX6_layPolynomial_199 : decode cX6_layPolynomial 199 = .ok (.iload 6, 2) := by decide +kernel
theorem dX6_layPolynomial_201 : decode cX6_layPolynomial 201 = .ok (.iload_n 1, 1) := by decide +kernel
theorem dX6_layPolynomial_202 : decode cX6_layPolynomial 202 = .ok (.if_icmp .ge 55, 3) := by decide +kernel
theorem dX6_layPolynomial_205 : decode cX6_layPolynomial 205 = .ok (.aload_n 0, 1) := by decide +kernel
theorem dX6_layPolynomial_206 : decode cX6_layPolynomial 206 = .ok (.getfield 32, 3) := by decide +kernel
theorem dX6_layPolynomial_209 : decode cX6_layPolynomial 209 = .ok (.bipush 10, 2) := by decide +kernel
theorem dX6_layPolynomial_211 : decode cX6_layPolynomial 211 = .ok (.iload 5, 2) := by decide +kernel
theorem dX6_layPolynomial_213 : decode cX6_layPolynomial 213 = .ok (.imul, 1) := by decide +kernel
theorem dX6_layPolynomial_214 : decode cX6_layPolynomial 214 = .ok (.iload 6, 2) := by decide +kernel
theorem dX6_layPolynomial_216 : decode cX6_layPolynomial 216 = .ok (.iadd, 1) := by decide +kernel
theorem dX6_layPolynomial_217 : decode cX6_layPolynomial 217 = .ok (.aload_n 0, 1) := by decide +kernel
theorem dX6_layPolynomial_218 : decode cX6_layPolynomial 218 = .ok (.getfield 35, 3) := by decide +kernel
theorem dX6_layPolynomial_221 : decode cX6_layPolynomial 221 = .ok (.bipush 10, 2) := by decide +kernel
theorem dX6_layPolynomial_223 : decode cX6_layPolynomial 223 = .ok (.iload 5, 2) := by decide +kernel
theorem dX6_layPolynomial_225 : decode cX6_layPolynomial 225 = .ok (.imul, 1) := by decide +kernel
theorem dX6_layPolynomial_226 : decode cX6_layPolynomial 226 = .ok (.iload 6, 2) := by decide +kernel
theorem dX6_layPolynomial_228 : decode cX6_layPolynomial 228 = .ok (.iadd, 1) := by decide +kernel
theorem dX6_layPolynomial_229 : decode cX6_layPolynomial 229 = .ok (.laload, 1) := by decide +kernel
theorem dX6_layPolynomial_230 : decode cX6_layPolynomial 230 = .ok (.iload 5, 2) := by decide +kernel
theorem dX6_layPolynomial_232 : decode cX6_layPolynomial 232 = .ok (.iload 6, 2) := by decide +kernel
theorem dX6_layPolynomial_234 : decode cX6_layPolynomial 234 = .ok (.if_icmp .ne 14, 3) := by decide +kernel
theorem dX6_layPolynomial_237 : decode cX6_layPolynomial 237 = .ok (.aload_n 0, 1) := by decide +kernel
theorem dX6_layPolynomial_238 : decode cX6_layPolynomial 238 = .ok (.getfield 38, 3) := by decide +kernel
theorem dX6_layPolynomial_241 : decode cX6_layPolynomial 241 = .ok (.iload_n 1, 1) := by decide +kernel
theorem dX6_layPolynomial_242 : decode cX6_layPolynomial 242 = .ok (.iload_n 2, 1) := by decide +kernel
theorem dX6_layPolynomial_243 : decode cX6_layPolynomial 243 = .ok (.isub, 1) := by decide +kernel
theorem dX6_layPolynomial_244 : decode cX6_layPolynomial 244 = .ok (.laload, 1) := by decide +kernel
theorem dX6_layPolynomial_245 : decode cX6_layPolynomial 245 = .ok (.goto 4, 3) := by decide +kernel
theorem dX6_layPolynomial_248 : decode cX6_layPolynomial 248 = .ok (.lconst 0, 1) := by decide +kernel
theorem dX6_layPolynomial_249 : decode cX6_layPolynomial 249 = .ok (.ladd, 1) := by decide +kernel
theorem dX6_layPolynomial_250 : decode cX6_layPolynomial 250 = .ok (.lastore, 1) := by decide +kernel
theorem dX6_layPolynomial_251 : decode cX6_layPolynomial 251 = .ok (.iinc 6 1, 3) := by decide +kernel
theorem dX6_layPolynomial_254 : decode cX6_layPolynomial 254 = .ok (.goto (-55), 3) := by decide +kernel
theorem dX6_layPolynomial_257 : decode cX6_layPolynomial 257 = .ok (.iinc 5 1, 3) := by decide +kernel
theorem dX6_layPolynomial_260 : decode cX6_layPolynomial 260 = .ok (.goto (-70), 3) := by decide +kernel
theorem dX6_layPolynomial_263 : decode cX6_layPolynomial 263 = .ok (.iinc 2 1, 3) := by decide +kernel
theorem dX6_layPolynomial_266 : decode cX6_layPolynomial 266 = .ok (.goto (-221), 3) := by decide +kernel
theorem dX6_layPolynomial_269 : decode cX6_layPolynomial 269 = .ok (.return_, 1) := by decide +kernel
theorem dX6_move_0 : decode cX6_move 0 = .ok (.iconst 0, 1) := by decide +kernel
theorem dX6_move_1 : decode cX6_move 1 = .ok (.istore_n 3, 1) := by decide +kernel
theorem dX6_move_2 : decode cX6_move 2 = .ok (.iload_n 3, 1) := by decide +kernel
theorem dX6_move_3 : decode cX6_move 3 = .ok (.iload_n 1, 1) := by decide +kernel
theorem dX6_move_4 : decode cX6_move 4 = .ok (.if_icmp .gt 16, 3) := by decide +kernel
theorem dX6_move_7 : decode cX6_move 7 = .ok (.aload_n 0, 1) := by decide +kernel
theorem dX6_move_8 : decode cX6_move 8 = .ok (.getfield 41, 3) := by decide +kernel
theorem dX6_move_11 : decode cX6_move 11 = .ok (.iload_n 3, 1) := by decide +kernel
theorem dX6_move_12 : decode cX6_move 12 = .ok (.lconst 0, 1) := by decide +kernel
theorem dX6_move_13 : decode cX6_move 13 = .ok (.lastore, 1) := by decide +kernel
theorem dX6_move_14 : decode cX6_move 14 = .ok (.iinc 3 1, 3) := by decide +kernel
theorem dX6_move_17 : decode cX6_move 17 = .ok (.goto (-15), 3) := by decide +kernel
theorem dX6_move_20 : decode cX6_move 20 = .ok (.lconst 1, 1) := by decide +kernel
theorem dX6_move_21 : decode cX6_move 21 = .ok (.lstore_n 3, 1) := by decide +kernel
theorem dX6_move_22 : decode cX6_move 22 = .ok (.iload_n 1, 1) := by decide +kernel
theorem dX6_move_23 : decode cX6_move 23 = .ok (.istore 5, 2) := by decide +kernel
theorem dX6_move_25 : decode cX6_move 25 = .ok (.iload 5, 2) := by decide +kernel
theorem dX6_move_27 : decode cX6_move 27 = .ok (.ifCond .lt 83, 3) := by decide +kernel
theorem dX6_move_30 : decode cX6_move 30 = .ok (.iload_n 1, 1) := by decide +kernel
theorem dX6_move_31 : decode cX6_move 31 = .ok (.istore 6, 2) := by decide +kernel
theorem dX6_move_33 : decode cX6_move 33 = .ok (.iload 6, 2) := by decide +kernel
theorem dX6_move_35 : decode cX6_move 35 = .ok (.ifCond .lt 45, 3) := by decide +kernel
theorem dX6_move_38 : decode cX6_move 38 = .ok (.aload_n 0, 1) := by decide +kernel
theorem dX6_move_39 : decode cX6_move 39 = .ok (.getfield 41, 3) := by decide +kernel
theorem dX6_move_42 : decode cX6_move 42 = .ok (.iload 6, 2) := by decide +kernel
theorem dX6_move_44 : decode cX6_move 44 = .ok (.aload_n 0, 1) := by decide +kernel
theorem dX6_move_45 : decode cX6_move 45 = .ok (.getfield 41, 3) := by decide +kernel
theorem dX6_move_48 : decode cX6_move 48 = .ok (.iload 6, 2) := by decide +kernel
theorem dX6_move_50 : decode cX6_move 50 = .ok (.laload, 1) := by decide +kernel
theorem dX6_move_51 : decode cX6_move 51 = .ok (.iload_n 2, 1) := by decide +kernel
theorem dX6_move_52 : decode cX6_move 52 = .ok (.i2l, 1) := by decide +kernel
theorem dX6_move_53 : decode cX6_move 53 = .ok (.lmul, 1) := by decide +kernel
theorem dX6_move_54 : decode cX6_move 54 = .ok (.iload 6, 2) := by decide +kernel
theorem dX6_move_56 : decode cX6_move 56 = .ok (.ifCond .le 15, 3) := by decide +kernel
theorem dX6_move_59 : decode cX6_move 59 = .ok (.aload_n 0, 1) := by decide +kernel
theorem dX6_move_60 : decode cX6_move 60 = .ok (.getfield 41, 3) := by decide +kernel
theorem dX6_move_63 : decode cX6_move 63 = .ok (.iload 6, 2) := by decide +kernel
theorem dX6_move_65 : decode cX6_move 65 = .ok (.iconst 1, 1) := by decide +kernel
theorem dX6_move_66 : decode cX6_move 66 = .ok (.isub, 1) := by decide +kernel
theorem dX6_move_67 : decode cX6_move 67 = .ok (.laload, 1) := by decide +kernel
theorem dX6_move_68 : decode cX6_move 68 = .ok (.goto 4, 3) := by decide +kernel
theorem dX6_move_71 : decode cX6_move 71 = .ok (.lconst 0, 1) := by decide +kernel
theorem dX6_move_72 : decode cX6_move 72 = .ok (.ladd, 1) := by decide +kernel
theorem dX6_move_73 : decode cX6_move 73 = .ok (.lastore, 1) := by decide +kernel
theorem dX6_move_74 : decode cX6_move 74 = .ok (.iinc 6 (-1), 3) := by decide +kernel
theorem dX6_move_77 : decode cX6_move 77 = .ok (.goto (-44), 3) := by decide +kernel
theorem dX6_move_80 : decode cX6_move 80 = .ok (.aload_n 0, 1) := by decide +kernel
theorem dX6_move_81 : decode cX6_move 81 = .ok (.getfield 41, 3) := by decide +kernel
theorem dX6_move_84 : decode cX6_move 84 = .ok (.iconst 0, 1) := by decide +kernel
theorem dX6_move_85 : decode cX6_move 85 = .ok (.dup2, 1) := by decide +kernel
theorem dX6_move_86 : decode cX6_move 86 = .ok (.laload, 1) := by decide +kernel
theorem dX6_move_87 : decode cX6_move 87 = .ok (.aload_n 0, 1) := by decide +kernel
theorem dX6_move_88 : decode cX6_move 88 = .ok (.getfield 38, 3) := by decide +kernel
theorem dX6_move_91 : decode cX6_move 91 = .ok (.iload 5, 2) := by decide +kernel
theorem dX6_move_93 : decode cX6_move 93 = .ok (.laload, 1) := by decide +kernel
theorem dX6_move_94 : decode cX6_move 94 = .ok (.lload_n 3, 1) := by decide +kernel
theorem dX6_move_95 : decode cX6_move 95 = .ok (.lmul, 1) := by decide +kernel
theorem dX6_move_96 : decode cX6_move 96 = .ok (.ladd, 1) := by decide +kernel
theorem dX6_move_97 : decode cX6_move 97 = .ok (.lastore, 1) := by decide +kernel
theorem dX6_move_98 : decode cX6_move 98 = .ok (.lload_n 3, 1) := by decide +kernel
theorem dX6_move_99 : decode cX6_move 99 = .ok (.ldc2_w 119, 3) := by decide +kernel
theorem dX6_move_102 : decode cX6_move 102 = .ok (.lmul, 1) := by decide +kernel
theorem dX6_move_103 : decode cX6_move 103 = .ok (.lstore_n 3, 1) := by decide +kernel
theorem dX6_move_104 : decode cX6_move 104 = .ok (.iinc 5 (-1), 3) := by decide +kernel
theorem dX6_move_107 : decode cX6_move 107 = .ok (.goto (-82), 3) := by decide +kernel
theorem dX6_move_110 : decode cX6_move 110 = .ok (.return_, 1) := by decide +kernel
theorem dX6_aboveOf_0 : decode cX6_aboveOf 0 = .ok (.aload_n 0, 1) := by decide +kernel
theorem dX6_aboveOf_1 : decode cX6_aboveOf 1 = .ok (.iload_n 1, 1) := by decide +kernel
theorem dX6_aboveOf_2 : decode cX6_aboveOf 2 = .ok (.iload_n 2, 1) := by decide +kernel
theorem dX6_aboveOf_3 : decode cX6_aboveOf 3 = .ok (.invokevirtual 121, 3) := by decide +kernel
theorem dX6_aboveOf_6 : decode cX6_aboveOf 6 = .ok (.iconst 0, 1) := by decide +kernel
theorem dX6_aboveOf_7 : decode cX6_aboveOf 7 = .ok (.istore_n 3, 1) := by decide +kernel
theorem dX6_aboveOf_8 : decode cX6_aboveOf 8 = .ok (.lconst 0, 1) := by decide +kernel
theorem dX6_aboveOf_9 : decode cX6_aboveOf 9 = .ok (.lstore 4, 2) := by decide +kernel
theorem dX6_aboveOf_11 : decode cX6_aboveOf 11 = .ok (.iload_n 1, 1) := by decide +kernel
theorem dX6_aboveOf_12 : decode cX6_aboveOf 12 = .ok (.istore 6, 2) := by decide +kernel
theorem dX6_aboveOf_14 : decode cX6_aboveOf 14 = .ok (.iload 6, 2) := by decide +kernel
theorem dX6_aboveOf_16 : decode cX6_aboveOf 16 = .ok (.ifCond .lt 77, 3) := by decide +kernel
theorem dX6_aboveOf_19 : decode cX6_aboveOf 19 = .ok (.aload_n 0, 1) := by decide +kernel
theorem dX6_aboveOf_20 : decode cX6_aboveOf 20 = .ok (.getfield 41, 3) := by decide +kernel
theorem dX6_aboveOf_23 : decode cX6_aboveOf 23 = .ok (.iload 6, 2) := by decide +kernel
theorem dX6_aboveOf_25 : decode cX6_aboveOf 25 = .ok (.laload, 1) := by decide +kernel
theorem dX6_aboveOf_26 : decode cX6_aboveOf 26 = .ok (.lconst 0, 1) := by decide +kernel
theorem dX6_aboveOf_27 : decode cX6_aboveOf 27 = .ok (.lcmp, 1) := by decide +kernel
theorem dX6_aboveOf_28 : decode cX6_aboveOf 28 = .ok (.ifCond .eq 59, 3) := by decide +kernel
theorem dX6_aboveOf_31 : decode cX6_aboveOf 31 = .ok (.iload_n 3, 1) := by decide +kernel
theorem dX6_aboveOf_32 : decode cX6_aboveOf 32 = .ok (.lload 4, 2) := by decide +kernel
theorem dX6_aboveOf_34 : decode cX6_aboveOf 34 = .ok (.lconst 0, 1) := by decide +kernel
theorem dX6_aboveOf_35 : decode cX6_aboveOf 35 = .ok (.lcmp, 1) := by decide +kernel
theorem dX6_aboveOf_36 : decode cX6_aboveOf 36 = .ok (.ifCond .eq 39, 3) := by decide +kernel
theorem dX6_aboveOf_39 : decode cX6_aboveOf 39 = .ok (.lload 4, 2) := by decide +kernel
theorem dX6_aboveOf_41 : decode cX6_aboveOf 41 = .ok (.lconst 0, 1) := by decide +kernel
theorem dX6_aboveOf_42 : decode cX6_aboveOf 42 = .ok (.lcmp, 1) := by decide +kernel
theorem dX6_aboveOf_43 : decode cX6_aboveOf 43 = .ok (.ifCond .ge 7, 3) := by decide +kernel
theorem dX6_aboveOf_46 : decode cX6_aboveOf 46 = .ok (.iconst 1, 1) := by decide +kernel
theorem dX6_aboveOf_47 : decode cX6_aboveOf 47 = .ok (.goto 4, 3) := by decide +kernel
theorem dX6_aboveOf_50 : decode cX6_aboveOf 50 = .ok (.iconst 0, 1) := by decide +kernel
theorem dX6_aboveOf_51 : decode cX6_aboveOf 51 = .ok (.aload_n 0, 1) := by decide +kernel
theorem dX6_aboveOf_52 : decode cX6_aboveOf 52 = .ok (.getfield 41, 3) := by decide +kernel
theorem dX6_aboveOf_55 : decode cX6_aboveOf 55 = .ok (.iload 6, 2) := by decide +kernel
theorem dX6_aboveOf_57 : decode cX6_aboveOf 57 = .ok (.laload, 1) := by decide +kernel
theorem dX6_aboveOf_58 : decode cX6_aboveOf 58 = .ok (.lconst 0, 1) := by decide +kernel
theorem dX6_aboveOf_59 : decode cX6_aboveOf 59 = .ok (.lcmp, 1) := by decide +kernel
theorem dX6_aboveOf_60 : decode cX6_aboveOf 60 = .ok (.ifCond .ge 7, 3) := by decide +kernel
theorem dX6_aboveOf_63 : decode cX6_aboveOf 63 = .ok (.iconst 1, 1) := by decide +kernel
theorem dX6_aboveOf_64 : decode cX6_aboveOf 64 = .ok (.goto 4, 3) := by decide +kernel
theorem dX6_aboveOf_67 : decode cX6_aboveOf 67 = .ok (.iconst 0, 1) := by decide +kernel
theorem dX6_aboveOf_68 : decode cX6_aboveOf 68 = .ok (.if_icmp .eq 7, 3) := by decide +kernel
theorem dX6_aboveOf_71 : decode cX6_aboveOf 71 = .ok (.iconst 1, 1) := by decide +kernel
theorem dX6_aboveOf_72 : decode cX6_aboveOf 72 = .ok (.goto 4, 3) := by decide +kernel
theorem dX6_aboveOf_75 : decode cX6_aboveOf 75 = .ok (.iconst 0, 1) := by decide +kernel
theorem dX6_aboveOf_76 : decode cX6_aboveOf 76 = .ok (.iadd, 1) := by decide +kernel
theorem dX6_aboveOf_77 : decode cX6_aboveOf 77 = .ok (.istore_n 3, 1) := by decide +kernel
theorem dX6_aboveOf_78 : decode cX6_aboveOf 78 = .ok (.aload_n 0, 1) := by decide +kernel
theorem dX6_aboveOf_79 : decode cX6_aboveOf 79 = .ok (.getfield 41, 3) := by decide +kernel
theorem dX6_aboveOf_82 : decode cX6_aboveOf 82 = .ok (.iload 6, 2) := by decide +kernel
theorem dX6_aboveOf_84 : decode cX6_aboveOf 84 = .ok (.laload, 1) := by decide +kernel
theorem dX6_aboveOf_85 : decode cX6_aboveOf 85 = .ok (.lstore 4, 2) := by decide +kernel
theorem dX6_aboveOf_87 : decode cX6_aboveOf 87 = .ok (.iinc 6 (-1), 3) := by decide +kernel
theorem dX6_aboveOf_90 : decode cX6_aboveOf 90 = .ok (.goto (-76), 3) := by decide +kernel
theorem dX6_aboveOf_93 : decode cX6_aboveOf 93 = .ok (.iload_n 3, 1) := by decide +kernel
theorem dX6_aboveOf_94 : decode cX6_aboveOf 94 = .ok (.ireturn, 1) := by decide +kernel
theorem dX6_justOf_0 : decode cX6_justOf 0 = .ok (.aload_n 0, 1) := by decide +kernel
theorem dX6_justOf_1 : decode cX6_justOf 1 = .ok (.iload_n 1, 1) := by decide +kernel
theorem dX6_justOf_2 : decode cX6_justOf 2 = .ok (.iload_n 2, 1) := by decide +kernel
theorem dX6_justOf_3 : decode cX6_justOf 3 = .ok (.invokevirtual 121, 3) := by decide +kernel
theorem dX6_justOf_6 : decode cX6_justOf 6 = .ok (.iconst 0, 1) := by decide +kernel
theorem dX6_justOf_7 : decode cX6_justOf 7 = .ok (.istore_n 3, 1) := by decide +kernel
theorem dX6_justOf_8 : decode cX6_justOf 8 = .ok (.aload_n 0, 1) := by decide +kernel
theorem dX6_justOf_9 : decode cX6_justOf 9 = .ok (.getfield 41, 3) := by decide +kernel
theorem dX6_justOf_12 : decode cX6_justOf 12 = .ok (.iload_n 3, 1) := by decide +kernel
theorem dX6_justOf_13 : decode cX6_justOf 13 = .ok (.laload, 1) := by decide +kernel
theorem dX6_justOf_14 : decode cX6_justOf 14 = .ok (.lconst 0, 1) := by decide +kernel
theorem dX6_justOf_15 : decode cX6_justOf 15 = .ok (.lcmp, 1) := by decide +kernel
theorem dX6_justOf_16 : decode cX6_justOf 16 = .ok (.ifCond .ne 9, 3) := by decide +kernel
theorem dX6_justOf_19 : decode cX6_justOf 19 = .ok (.iinc 3 1, 3) := by decide +kernel
theorem dX6_justOf_22 : decode cX6_justOf 22 = .ok (.goto (-14), 3) := by decide +kernel
theorem dX6_justOf_25 : decode cX6_justOf 25 = .ok (.iload_n 3, 1) := by decide +kernel
theorem dX6_justOf_26 : decode cX6_justOf 26 = .ok (.ireturn, 1) := by decide +kernel
theorem dX6_isAsked_0 : decode cX6_isAsked 0 = .ok (.iload_n 1, 1) := by decide +kernel
theorem dX6_isAsked_1 : decode cX6_isAsked 1 = .ok (.invokestatic 69, 3) := by decide +kernel
theorem dX6_isAsked_4 : decode cX6_isAsked 4 = .ok (.ifCond .eq 22, 3) := by decide +kernel
theorem dX6_isAsked_7 : decode cX6_isAsked 7 = .ok (.iload_n 2, 1) := by decide +kernel
theorem dX6_isAsked_8 : decode cX6_isAsked 8 = .ok (.ifCond .lt 18, 3) := by decide +kernel
theorem dX6_isAsked_11 : decode cX6_isAsked 11 = .ok (.iload_n 3, 1) := by decide +kernel
theorem dX6_isAsked_12 : decode cX6_isAsked 12 = .ok (.bipush (-40), 2) := by decide +kernel
theorem dX6_isAsked_14 : decode cX6_isAsked 14 = .ok (.bipush 40, 2) := by decide +kernel
theorem dX6_isAsked_16 : decode cX6_isAsked 16 = .ok (.invokestatic 65, 3) := by decide +kernel
theorem dX6_isAsked_19 : decode cX6_isAsked 19 = .ok (.ifCond .eq 7, 3) := by decide +kernel
theorem dX6_isAsked_22 : decode cX6_isAsked 22 = .ok (.iconst 1, 1) := by decide +kernel
theorem dX6_isAsked_23 : decode cX6_isAsked 23 = .ok (.goto 4, 3) := by decide +kernel
theorem dX6_isAsked_26 : decode cX6_isAsked 26 = .ok (.iconst 0, 1) := by decide +kernel
theorem dX6_isAsked_27 : decode cX6_isAsked 27 = .ok (.ireturn, 1) := by decide +kernel
theorem dX6_layOwn_0 : decode cX6_layOwn 0 = .ok (.aload_n 0, 1) := by decide +kernel
theorem dX6_layOwn_1 : decode cX6_layOwn 1 = .ok (.iload_n 1, 1) := by decide +kernel
theorem dX6_layOwn_2 : decode cX6_layOwn 2 = .ok (.iload_n 2, 1) := by decide +kernel
theorem dX6_layOwn_3 : decode cX6_layOwn 3 = .ok (.invokevirtual 124, 3) := by decide +kernel
theorem dX6_layOwn_6 : decode cX6_layOwn 6 = .ok (.aload_n 0, 1) := by decide +kernel
theorem dX6_layOwn_7 : decode cX6_layOwn 7 = .ok (.aload_n 0, 1) := by decide +kernel
theorem dX6_layOwn_8 : decode cX6_layOwn 8 = .ok (.getfield 7, 3) := by decide +kernel
theorem dX6_layOwn_11 : decode cX6_layOwn 11 = .ok (.iload_n 1, 1) := by decide +kernel
theorem dX6_layOwn_12 : decode cX6_layOwn 12 = .ok (.iaload, 1) := by decide +kernel
theorem dX6_layOwn_13 : decode cX6_layOwn 13 = .ok (.invokevirtual 127, 3) := by decide +kernel
theorem dX6_layOwn_16 : decode cX6_layOwn 16 = .ok (.return_, 1) := by decide +kernel
theorem dX6_more_0 : decode cX6_more 0 = .ok (.aload_n 0, 1) := by decide +kernel
theorem dX6_more_1 : decode cX6_more 1 = .ok (.iload_n 1, 1) := by decide +kernel
theorem dX6_more_2 : decode cX6_more 2 = .ok (.iload_n 2, 1) := by decide +kernel
theorem dX6_more_3 : decode cX6_more 3 = .ok (.iload_n 3, 1) := by decide +kernel
theorem dX6_more_4 : decode cX6_more 4 = .ok (.invokevirtual 130, 3) := by decide +kernel
theorem dX6_more_7 : decode cX6_more 7 = .ok (.ifCond .ne 6, 3) := by decide +kernel
theorem dX6_more_10 : decode cX6_more 10 = .ok (.bipush (-2), 2) := by decide +kernel
theorem dX6_more_12 : decode cX6_more 12 = .ok (.ireturn, 1) := by decide +kernel
theorem dX6_more_13 : decode cX6_more 13 = .ok (.aload_n 0, 1) := by decide +kernel
theorem dX6_more_14 : decode cX6_more 14 = .ok (.iload_n 1, 1) := by decide +kernel
theorem dX6_more_15 : decode cX6_more 15 = .ok (.iload_n 2, 1) := by decide +kernel
theorem dX6_more_16 : decode cX6_more 16 = .ok (.invokevirtual 133, 3) := by decide +kernel
theorem dX6_more_19 : decode cX6_more 19 = .ok (.aload_n 0, 1) := by decide +kernel
theorem dX6_more_20 : decode cX6_more 20 = .ok (.aload_n 0, 1) := by decide +kernel
theorem dX6_more_21 : decode cX6_more 21 = .ok (.getfield 7, 3) := by decide +kernel
theorem dX6_more_24 : decode cX6_more 24 = .ok (.iload_n 1, 1) := by decide +kernel
theorem dX6_more_25 : decode cX6_more 25 = .ok (.iaload, 1) := by decide +kernel
theorem dX6_more_26 : decode cX6_more 26 = .ok (.iload_n 3, 1) := by decide +kernel
theorem dX6_more_27 : decode cX6_more 27 = .ok (.invokevirtual 136, 3) := by decide +kernel
theorem dX6_more_30 : decode cX6_more 30 = .ok (.ireturn, 1) := by decide +kernel
theorem dX6_just_0 : decode cX6_just 0 = .ok (.aload_n 0, 1) := by decide +kernel
theorem dX6_just_1 : decode cX6_just 1 = .ok (.iload_n 1, 1) := by decide +kernel
theorem dX6_just_2 : decode cX6_just 2 = .ok (.iload_n 2, 1) := by decide +kernel
theorem dX6_just_3 : decode cX6_just 3 = .ok (.iload_n 3, 1) := by decide +kernel
theorem dX6_just_4 : decode cX6_just 4 = .ok (.invokevirtual 130, 3) := by decide +kernel
theorem dX6_just_7 : decode cX6_just 7 = .ok (.ifCond .ne 6, 3) := by decide +kernel
theorem dX6_just_10 : decode cX6_just 10 = .ok (.bipush (-2), 2) := by decide +kernel
theorem dX6_just_12 : decode cX6_just 12 = .ok (.ireturn, 1) := by decide +kernel
theorem dX6_just_13 : decode cX6_just 13 = .ok (.aload_n 0, 1) := by decide +kernel
theorem dX6_just_14 : decode cX6_just 14 = .ok (.iload_n 1, 1) := by decide +kernel
theorem dX6_just_15 : decode cX6_just 15 = .ok (.iload_n 2, 1) := by decide +kernel
theorem dX6_just_16 : decode cX6_just 16 = .ok (.invokevirtual 133, 3) := by decide +kernel
theorem dX6_just_19 : decode cX6_just 19 = .ok (.aload_n 0, 1) := by decide +kernel
theorem dX6_just_20 : decode cX6_just 20 = .ok (.aload_n 0, 1) := by decide +kernel
theorem dX6_just_21 : decode cX6_just 21 = .ok (.getfield 7, 3) := by decide +kernel
theorem dX6_just_24 : decode cX6_just 24 = .ok (.iload_n 1, 1) := by decide +kernel
theorem dX6_just_25 : decode cX6_just 25 = .ok (.iaload, 1) := by decide +kernel
theorem dX6_just_26 : decode cX6_just 26 = .ok (.iload_n 3, 1) := by decide +kernel
theorem dX6_just_27 : decode cX6_just 27 = .ok (.invokevirtual 139, 3) := by decide +kernel
theorem dX6_just_30 : decode cX6_just 30 = .ok (.ireturn, 1) := by decide +kernel
theorem dX6_second_0 : decode cX6_second 0 = .ok (.iload_n 1, 1) := by decide +kernel
theorem dX6_second_1 : decode cX6_second 1 = .ok (.invokestatic 69, 3) := by decide +kernel
theorem dX6_second_4 : decode cX6_second 4 = .ok (.ifCond .ne 6, 3) := by decide +kernel
theorem dX6_second_7 : decode cX6_second 7 = .ok (.bipush (-2), 2) := by decide +kernel
theorem dX6_second_9 : decode cX6_second 9 = .ok (.ireturn, 1) := by decide +kernel
theorem dX6_second_10 : decode cX6_second 10 = .ok (.aload_n 0, 1) := by decide +kernel
theorem dX6_second_11 : decode cX6_second 11 = .ok (.iload_n 1, 1) := by decide +kernel
theorem dX6_second_12 : decode cX6_second 12 = .ok (.iconst 0, 1) := by decide +kernel
theorem dX6_second_13 : decode cX6_second 13 = .ok (.invokevirtual 133, 3) := by decide +kernel
theorem dX6_second_16 : decode cX6_second 16 = .ok (.bipush (-20), 2) := by decide +kernel
theorem dX6_second_18 : decode cX6_second 18 = .ok (.istore_n 2, 1) := by decide +kernel
theorem dX6_second_19 : decode cX6_second 19 = .ok (.aload_n 0, 1) := by decide +kernel
theorem dX6_second_20 : decode cX6_second 20 = .ok (.aload_n 0, 1) := by decide +kernel
theorem dX6_second_21 : decode cX6_second 21 = .ok (.getfield 7, 3) := by decide +kernel
theorem dX6_second_24 : decode cX6_second 24 = .ok (.iload_n 1, 1) := by decide +kernel
theorem dX6_second_25 : decode cX6_second 25 = .ok (.iaload, 1) := by decide +kernel
theorem dX6_second_26 : decode cX6_second 26 = .ok (.iload_n 2, 1) := by decide +kernel
theorem dX6_second_27 : decode cX6_second 27 = .ok (.invokevirtual 136, 3) := by decide +kernel
theorem dX6_second_30 : decode cX6_second 30 = .ok (.iconst 1, 1) := by decide +kernel
theorem dX6_second_31 : decode cX6_second 31 = .ok (.if_icmp .le 9, 3) := by decide +kernel
theorem dX6_second_34 : decode cX6_second 34 = .ok (.iinc 2 1, 3) := by decide +kernel
theorem dX6_second_37 : decode cX6_second 37 = .ok (.goto (-18), 3) := by decide +kernel
theorem dX6_second_40 : decode cX6_second 40 = .ok (.iload_n 2, 1) := by decide +kernel
theorem dX6_second_41 : decode cX6_second 41 = .ok (.ireturn, 1) := by decide +kernel
theorem dX6_spanOf_0 : decode cX6_spanOf 0 = .ok (.aload_n 0, 1) := by decide +kernel
theorem dX6_spanOf_1 : decode cX6_spanOf 1 = .ok (.iload_n 1, 1) := by decide +kernel
theorem dX6_spanOf_2 : decode cX6_spanOf 2 = .ok (.iload_n 2, 1) := by decide +kernel
theorem dX6_spanOf_3 : decode cX6_spanOf 3 = .ok (.invokevirtual 133, 3) := by decide +kernel
theorem dX6_spanOf_6 : decode cX6_spanOf 6 = .ok (.aload_n 0, 1) := by decide +kernel
theorem dX6_spanOf_7 : decode cX6_spanOf 7 = .ok (.getfield 7, 3) := by decide +kernel
theorem dX6_spanOf_10 : decode cX6_spanOf 10 = .ok (.iload_n 1, 1) := by decide +kernel
theorem dX6_spanOf_11 : decode cX6_spanOf 11 = .ok (.iaload, 1) := by decide +kernel
theorem dX6_spanOf_12 : decode cX6_spanOf 12 = .ok (.istore_n 3, 1) := by decide +kernel
theorem dX6_spanOf_13 : decode cX6_spanOf 13 = .ok (.iconst 0, 1) := by decide +kernel
theorem dX6_spanOf_14 : decode cX6_spanOf 14 = .ok (.istore 4, 2) := by decide +kernel
theorem dX6_spanOf_16 : decode cX6_spanOf 16 = .ok (.aload_n 0, 1) := by decide +kernel
theorem dX6_spanOf_17 : decode cX6_spanOf 17 = .ok (.iload_n 3, 1) := by decide +kernel
theorem dX6_spanOf_18 : decode cX6_spanOf 18 = .ok (.iload 4, 2) := by decide +kernel
theorem dX6_spanOf_20 : decode cX6_spanOf 20 = .ok (.invokevirtual 136, 3) := by decide +kernel
theorem dX6_spanOf_23 : decode cX6_spanOf 23 = .ok (.ifCond .gt 24, 3) := by decide +kernel
theorem dX6_spanOf_26 : decode cX6_spanOf 26 = .ok (.aload_n 0, 1) := by decide +kernel
theorem dX6_spanOf_27 : decode cX6_spanOf 27 = .ok (.iload_n 3, 1) := by decide +kernel
theorem dX6_spanOf_28 : decode cX6_spanOf 28 = .ok (.iload 4, 2) := by decide +kernel
theorem dX6_spanOf_30 : decode cX6_spanOf 30 = .ok (.ineg, 1) := by decide +kernel
theorem dX6_spanOf_31 : decode cX6_spanOf 31 = .ok (.invokevirtual 136, 3) := by decide +kernel
theorem dX6_spanOf_34 : decode cX6_spanOf 34 = .ok (.aload_n 0, 1) := by decide +kernel
theorem dX6_spanOf_35 : decode cX6_spanOf 35 = .ok (.iload_n 3, 1) := by decide +kernel
theorem dX6_spanOf_36 : decode cX6_spanOf 36 = .ok (.iload 4, 2) := by decide +kernel
theorem dX6_spanOf_38 : decode cX6_spanOf 38 = .ok (.ineg, 1) := by decide +kernel
theorem dX6_spanOf_39 : decode cX6_spanOf 39 = .ok (.invokevirtual 139, 3) := by decide +kernel
theorem dX6_spanOf_42 : decode cX6_spanOf 42 = .ok (.iadd, 1) := by decide +kernel
theorem dX6_spanOf_43 : decode cX6_spanOf 43 = .ok (.iload_n 3, 1) := by decide +kernel
theorem dX6_spanOf_44 : decode cX6_spanOf 44 = .ok (.if_icmp .ge 9, 3) := by decide +kernel
theorem dX6_spanOf_47 : decode cX6_spanOf 47 = .ok (.iinc 4 1, 3) := by decide +kernel
theorem dX6_spanOf_50 : decode cX6_spanOf 50 = .ok (.goto (-34), 3) := by decide +kernel
theorem dX6_spanOf_53 : decode cX6_spanOf 53 = .ok (.iload 4, 2) := by decide +kernel
theorem dX6_spanOf_55 : decode cX6_spanOf 55 = .ok (.ireturn, 1) := by decide +kernel
theorem dX6_span_0 : decode cX6_span 0 = .ok (.iload_n 1, 1) := by decide +kernel
theorem dX6_span_1 : decode cX6_span 1 = .ok (.invokestatic 69, 3) := by decide +kernel
theorem dX6_span_4 : decode cX6_span 4 = .ok (.ifCond .eq 16, 3) := by decide +kernel
theorem dX6_span_7 : decode cX6_span 7 = .ok (.iload_n 2, 1) := by decide +kernel
theorem dX6_span_8 : decode cX6_span 8 = .ok (.ifCond .lt 12, 3) := by decide +kernel
theorem dX6_span_11 : decode cX6_span 11 = .ok (.aload_n 0, 1) := by decide +kernel
theorem dX6_span_12 : decode cX6_span 12 = .ok (.iload_n 1, 1) := by decide +kernel
theorem dX6_span_13 : decode cX6_span 13 = .ok (.iload_n 2, 1) := by decide +kernel
theorem dX6_span_14 : decode cX6_span 14 = .ok (.invokevirtual 142, 3) := by decide +kernel
theorem dX6_span_17 : decode cX6_span 17 = .ok (.goto 5, 3) := by decide +kernel
theorem dX6_span_20 : decode cX6_span 20 = .ok (.bipush (-2), 2) := by decide +kernel
theorem dX6_span_22 : decode cX6_span 22 = .ok (.ireturn, 1) := by decide +kernel
theorem dX6_best_0 : decode cX6_best 0 = .ok (.iload_n 1, 1) := by decide +kernel
theorem dX6_best_1 : decode cX6_best 1 = .ok (.invokestatic 69, 3) := by decide +kernel
theorem dX6_best_4 : decode cX6_best 4 = .ok (.ifCond .ne 6, 3) := by decide +kernel
theorem dX6_best_7 : decode cX6_best 7 = .ok (.bipush (-2), 2) := by decide +kernel
theorem dX6_best_9 : decode cX6_best 9 = .ok (.ireturn, 1) := by decide +kernel
theorem dX6_best_10 : decode cX6_best 10 = .ok (.aload_n 0, 1) := by decide +kernel
theorem dX6_best_11 : decode cX6_best 11 = .ok (.iload_n 1, 1) := by decide +kernel
theorem dX6_best_12 : decode cX6_best 12 = .ok (.invokevirtual 92, 3) := by decide +kernel
theorem dX6_best_15 : decode cX6_best 15 = .ok (.istore_n 2, 1) := by decide +kernel
theorem dX6_best_16 : decode cX6_best 16 = .ok (.iload_n 2, 1) := by decide +kernel
theorem dX6_best_17 : decode cX6_best 17 = .ok (.bipush 9, 2) := by decide +kernel
theorem dX6_best_19 : decode cX6_best 19 = .ok (.if_icmp .le 6, 3) := by decide +kernel
theorem dX6_best_22 : decode cX6_best 22 = .ok (.bipush (-3), 2) := by decide +kernel
theorem dX6_best_24 : decode cX6_best 24 = .ok (.ireturn, 1) := by decide +kernel
theorem dX6_best_25 : decode cX6_best 25 = .ok (.iconst 0, 1) := by decide +kernel
theorem dX6_best_26 : decode cX6_best 26 = .ok (.istore_n 3, 1) := by decide +kernel
theorem dX6_best_27 : decode cX6_best 27 = .ok (.aload_n 0, 1) := by decide +kernel
theorem dX6_best_28 : decode cX6_best 28 = .ok (.iload_n 1, 1) := by decide +kernel
theorem dX6_best_29 : decode cX6_best 29 = .ok (.iconst 0, 1) := by decide +kernel
theorem dX6_best_30 : decode cX6_best 30 = .ok (.invokevirtual 142, 3) := by decide +kernel
theorem dX6_best_33 : decode cX6_best 33 = .ok (.istore 4, 2) := by decide +kernel
theorem dX6_best_35 : decode cX6_best 35 = .ok (.iconst 1, 1) := by decide +kernel
theorem dX6_best_36 : decode cX6_best 36 = .ok (.istore 5, 2) := by decide +kernel
theorem dX6_best_38 : decode cX6_best 38 = .ok (.iload 5, 2) := by decide +kernel
theorem dX6_best_40 : decode cX6_best 40 = .ok (.iconst 1, 1) := by decide +kernel
theorem dX6_best_41 : decode cX6_best 41 = .ok (.iload_n 2, 1) := by decide +kernel
theorem dX6_best_42 : decode cX6_best 42 = .ok (.ishl, 1) := by decide +kernel
theorem dX6_best_43 : decode cX6_best 43 = .ok (.if_icmp .ge 32, 3) := by decide +kernel
theorem dX6_best_46 : decode cX6_best 46 = .ok (.aload_n 0, 1) := by decide +kernel
theorem dX6_best_47 : decode cX6_best 47 = .ok (.iload_n 1, 1) := by decide +kernel
theorem dX6_best_48 : decode cX6_best 48 = .ok (.iload 5, 2) := by decide +kernel
theorem dX6_best_50 : decode cX6_best 50 = .ok (.invokevirtual 142, 3) := by decide +kernel
theorem dX6_best_53 : decode cX6_best 53 = .ok (.istore 6, 2) := by decide +kernel
theorem dX6_best_55 : decode cX6_best 55 = .ok (.iload 6, 2) := by decide +kernel
theorem dX6_best_57 : decode cX6_best 57 = .ok (.iload 4, 2) := by decide +kernel
theorem dX6_best_59 : decode cX6_best 59 = .ok (.if_icmp .ge 10, 3) := by decide +kernel
theorem dX6_best_62 : decode cX6_best 62 = .ok (.iload 6, 2) := by decide +kernel
theorem dX6_best_64 : decode cX6_best 64 = .ok (.istore 4, 2) := by decide +kernel
theorem dX6_best_66 : decode cX6_best 66 = .ok (.iload 5, 2) := by decide +kernel
theorem dX6_best_68 : decode cX6_best 68 = .ok (.istore_n 3, 1) := by decide +kernel
theorem dX6_best_69 : decode cX6_best 69 = .ok (.iinc 5 1, 3) := by decide +kernel
theorem dX6_best_72 : decode cX6_best 72 = .ok (.goto (-34), 3) := by decide +kernel
theorem dX6_best_75 : decode cX6_best 75 = .ok (.iload_n 3, 1) := by decide +kernel
theorem dX6_best_76 : decode cX6_best 76 = .ok (.ireturn, 1) := by decide +kernel
theorem dX6_layWalks_0 : decode cX6_layWalks 0 = .ok (.iconst 0, 1) := by decide +kernel
theorem dX6_layWalks_1 : decode cX6_layWalks 1 = .ok (.istore 4, 2) := by decide +kernel
theorem dX6_layWalks_3 : decode cX6_layWalks 3 = .ok (.iload 4, 2) := by decide +kernel
theorem dX6_layWalks_5 : decode cX6_layWalks 5 = .ok (.bipush 10, 2) := by decide +kernel
theorem dX6_layWalks_7 : decode cX6_layWalks 7 = .ok (.if_icmp .ge 27, 3) := by decide +kernel
theorem dX6_layWalks_10 : decode cX6_layWalks 10 = .ok (.aload_n 0, 1) := by decide +kernel
theorem dX6_layWalks_11 : decode cX6_layWalks 11 = .ok (.getfield 44, 3) := by decide +kernel
theorem dX6_layWalks_14 : decode cX6_layWalks 14 = .ok (.iload 4, 2) := by decide +kernel
theorem dX6_layWalks_16 : decode cX6_layWalks 16 = .ok (.iload 4, 2) := by decide +kernel
theorem dX6_layWalks_18 : decode cX6_layWalks 18 = .ok (.iload_n 2, 1) := by decide +kernel
theorem dX6_layWalks_19 : decode cX6_layWalks 19 = .ok (.if_icmp .ne 7, 3) := by decide +kernel
theorem dX6_layWalks_22 : decode cX6_layWalks 22 = .ok (.lconst 1, 1) := by decide +kernel
theorem dX6_layWalks_23 : decode cX6_layWalks 23 = .ok (.goto 4, 3) := by decide +kernel
theorem dX6_layWalks_26 : decode cX6_layWalks 26 = .ok (.lconst 0, 1) := by decide +kernel
theorem dX6_layWalks_27 : decode cX6_layWalks 27 = .ok (.lastore, 1) := by decide +kernel
theorem dX6_layWalks_28 : decode cX6_layWalks 28 = .ok (.iinc 4 1, 3) := by decide +kernel
theorem dX6_layWalks_31 : decode cX6_layWalks 31 = .ok (.goto (-28), 3) := by decide +kernel
theorem dX6_layWalks_34 : decode cX6_layWalks 34 = .ok (.iconst 0, 1) := by decide +kernel
theorem dX6_layWalks_35 : decode cX6_layWalks 35 = .ok (.istore 4, 2) := by decide +kernel
theorem dX6_layWalks_37 : decode cX6_layWalks 37 = .ok (.iload 4, 2) := by decide +kernel
theorem dX6_layWalks_39 : decode cX6_layWalks 39 = .ok (.iload_n 3, 1) := by decide +kernel
theorem dX6_layWalks_40 : decode cX6_layWalks 40 = .ok (.if_icmp .ge 124, 3) := by decide +kernel
theorem dX6_layWalks_43 : decode cX6_layWalks 43 = .ok (.iconst 0, 1) := by decide +kernel
theorem dX6_layWalks_44 : decode cX6_layWalks 44 = .ok (.istore 5, 2) := by decide +kernel
theorem dX6_layWalks_46 : decode cX6_layWalks 46 = .ok (.iload 5, 2) := by decide +kernel
theorem dX6_layWalks_48 : decode cX6_layWalks 48 = .ok (.aload_n 0, 1) := by decide +kernel
theorem dX6_layWalks_49 : decode cX6_layWalks 49 = .ok (.getfield 7, 3) := by decide +kernel
theorem dX6_layWalks_52 : decode cX6_layWalks 52 = .ok (.iload_n 1, 1) := by decide +kernel
theorem dX6_layWalks_53 : decode cX6_layWalks 53 = .ok (.iaload, 1) := by decide +kernel
theorem dX6_layWalks_54 : decode cX6_layWalks 54 = .ok (.if_icmp .ge 70, 3) := by decide +kernel
theorem dX6_layWalks_57 : decode cX6_layWalks 57 = .ok (.aload_n 0, 1) := by decide +kernel
theorem dX6_layWalks_58 : decode cX6_layWalks 58 = .ok (.getfield 47, 3) := by decide +kernel
theorem dX6_layWalks_61 : decode cX6_layWalks 61 = .ok (.iload 5, 2) := by decide +kernel
theorem dX6_layWalks_63 : decode cX6_layWalks 63 = .ok (.lconst 0, 1) := by decide +kernel
theorem dX6_layWalks_64 : decode cX6_layWalks 64 = .ok (.lastore, 1) := by decide +kernel
theorem dX6_layWalks_65 : decode cX6_layWalks 65 = .ok (.iconst 0, 1) := by decide +kernel
theorem dX6_layWalks_66 : decode cX6_layWalks 66 = .ok (.istore 6, 2) := by decide +kernel
theorem dX6_layWalks_68 : decode cX6_layWalks 68 = .ok (.iload 6, 2) := by decide +kernel
theorem dX6_layWalks_70 : decode cX6_layWalks 70 = .ok (.aload_n 0, 1) := by decide +kernel
theorem dX6_layWalks_71 : decode cX6_layWalks 71 = .ok (.getfield 7, 3) := by decide +kernel
theorem dX6_layWalks_74 : decode cX6_layWalks 74 = .ok (.iload_n 1, 1) := by decide +kernel
theorem dX6_layWalks_75 : decode cX6_layWalks 75 = .ok (.iaload, 1) := by decide +kernel
theorem dX6_layWalks_76 : decode cX6_layWalks 76 = .ok (.if_icmp .ge 42, 3) := by decide +kernel
theorem dX6_layWalks_79 : decode cX6_layWalks 79 = .ok (.aload_n 0, 1) := by decide +kernel
theorem dX6_layWalks_80 : decode cX6_layWalks 80 = .ok (.getfield 47, 3) := by decide +kernel
theorem dX6_layWalks_83 : decode cX6_layWalks 83 = .ok (.iload 5, 2) := by decide +kernel
theorem dX6_layWalks_85 : decode cX6_layWalks 85 = .ok (.dup2, 1) := by decide +kernel
theorem dX6_layWalks_86 : decode cX6_layWalks 86 = .ok (.laload, 1) := by decide +kernel
theorem dX6_layWalks_87 : decode cX6_layWalks 87 = .ok (.aload_n 0, 1) := by decide +kernel
theorem dX6_layWalks_88 : decode cX6_layWalks 88 = .ok (.iload_n 1, 1) := by decide +kernel
theorem dX6_layWalks_89 : decode cX6_layWalks 89 = .ok (.iload 6, 2) := by decide +kernel
theorem dX6_layWalks_91 : decode cX6_layWalks 91 = .ok (.iload 5, 2) := by decide +kernel
theorem dX6_layWalks_93 : decode cX6_layWalks 93 = .ok (.invokevirtual 85, 3) := by decide +kernel
theorem dX6_layWalks_96 : decode cX6_layWalks 96 = .ok (.ifCond .eq 13, 3) := by decide +kernel
theorem dX6_layWalks_99 : decode cX6_layWalks 99 = .ok (.aload_n 0, 1) := by decide +kernel
theorem dX6_layWalks_100 : decode cX6_layWalks 100 = .ok (.getfield 44, 3) := by decide +kernel
theorem dX6_layWalks_103 : decode cX6_layWalks 103 = .ok (.iload 6, 2) := by decide +kernel
theorem dX6_layWalks_105 : decode cX6_layWalks 105 = .ok (.laload, 1) := by decide +kernel
theorem dX6_layWalks_106 : decode cX6_layWalks 106 = .ok (.goto 4, 3) := by decide +kernel
theorem dX6_layWalks_109 : decode cX6_layWalks 109 = .ok (.lconst 0, 1) := by decide +kernel
theorem dX6_layWalks_110 : decode cX6_layWalks 110 = .ok (.ladd, 1) := by decide +kernel
theorem dX6_layWalks_111 : decode cX6_layWalks 111 = .ok (.lastore, 1) := by decide +kernel
theorem dX6_layWalks_112 : decode cX6_layWalks 112 = .ok (.iinc 6 1, 3) := by decide +kernel
theorem dX6_layWalks_115 : decode cX6_layWalks 115 = .ok (.goto (-47), 3) := by decide +kernel
theorem dX6_layWalks_118 : decode cX6_layWalks 118 = .ok (.iinc 5 1, 3) := by decide +kernel
theorem dX6_layWalks_121 : decode cX6_layWalks 121 = .ok (.goto (-75), 3) := by decide +kernel
theorem dX6_layWalks_124 : decode cX6_layWalks 124 = .ok (.iconst 0, 1) := by decide +kernel
theorem dX6_layWalks_125 : decode cX6_layWalks 125 = .ok (.istore 5, 2) := by decide +kernel
theorem dX6_layWalks_127 : decode cX6_layWalks 127 = .ok (.iload 5, 2) := by decide +kernel
theorem dX6_layWalks_129 : decode cX6_layWalks 129 = .ok (.aload_n 0, 1) := by decide +kernel
theorem dX6_layWalks_130 : decode cX6_layWalks 130 = .ok (.getfield 7, 3) := by decide +kernel
theorem dX6_layWalks_133 : decode cX6_layWalks 133 = .ok (.iload_n 1, 1) := by decide +kernel
theorem dX6_layWalks_134 : decode cX6_layWalks 134 = .ok (.iaload, 1) := by decide +kernel
theorem dX6_layWalks_135 : decode cX6_layWalks 135 = .ok (.if_icmp .ge 23, 3) := by decide +kernel
theorem dX6_layWalks_138 : decode cX6_layWalks 138 = .ok (.aload_n 0, 1) := by decide +kernel
theorem dX6_layWalks_139 : decode cX6_layWalks 139 = .ok (.getfield 44, 3) := by decide +kernel
theorem dX6_layWalks_142 : decode cX6_layWalks 142 = .ok (.iload 5, 2) := by decide +kernel
theorem dX6_layWalks_144 : decode cX6_layWalks 144 = .ok (.aload_n 0, 1) := by decide +kernel
theorem dX6_layWalks_145 : decode cX6_layWalks 145 = .ok (.getfield 47, 3) := by decide +kernel
theorem dX6_layWalks_148 : decode cX6_layWalks 148 = .ok (.iload 5, 2) := by decide +kernel
theorem dX6_layWalks_150 : decode cX6_layWalks 150 = .ok (.laload, 1) := by decide +kernel
theorem dX6_layWalks_151 : decode cX6_layWalks 151 = .ok (.lastore, 1) := by decide +kernel
theorem dX6_layWalks_152 : decode cX6_layWalks 152 = .ok (.iinc 5 1, 3) := by decide +kernel
theorem dX6_layWalks_155 : decode cX6_layWalks 155 = .ok (.goto (-28), 3) := by decide +kernel
theorem dX6_layWalks_158 : decode cX6_layWalks 158 = .ok (.iinc 4 1, 3) := by decide +kernel
theorem dX6_layWalks_161 : decode cX6_layWalks 161 = .ok (.goto (-124), 3) := by decide +kernel
theorem dX6_layWalks_164 : decode cX6_layWalks 164 = .ok (.return_, 1) := by decide +kernel
theorem dX6_walks_0 : decode cX6_walks 0 = .ok (.aload_n 0, 1) := by decide +kernel
theorem dX6_walks_1 : decode cX6_walks 1 = .ok (.iload_n 1, 1) := by decide +kernel
theorem dX6_walks_2 : decode cX6_walks 2 = .ok (.iload_n 2, 1) := by decide +kernel
theorem dX6_walks_3 : decode cX6_walks 3 = .ok (.invokevirtual 81, 3) := by decide +kernel
theorem dX6_walks_6 : decode cX6_walks 6 = .ok (.ifCond .eq 23, 3) := by decide +kernel
theorem dX6_walks_9 : decode cX6_walks 9 = .ok (.aload_n 0, 1) := by decide +kernel
theorem dX6_walks_10 : decode cX6_walks 10 = .ok (.iload_n 1, 1) := by decide +kernel
theorem dX6_walks_11 : decode cX6_walks 11 = .ok (.iload_n 3, 1) := by decide +kernel
theorem dX6_walks_12 : decode cX6_walks 12 = .ok (.invokevirtual 81, 3) := by decide +kernel
theorem dX6_walks_15 : decode cX6_walks 15 = .ok (.ifCond .eq 14, 3) := by decide +kernel
theorem dX6_walks_18 : decode cX6_walks 18 = .ok (.iload 4, 2) := by decide +kernel
theorem dX6_walks_20 : decode cX6_walks 20 = .ok (.iconst 0, 1) := by decide +kernel
theorem dX6_walks_21 : decode cX6_walks 21 = .ok (.bipush 12, 2) := by decide +kernel
theorem dX6_walks_23 : decode cX6_walks 23 = .ok (.invokestatic 65, 3) := by decide +kernel
theorem dX6_walks_26 : decode cX6_walks 26 = .ok (.ifCond .ne 7, 3) := by decide +kernel
theorem dX6_walks_29 : decode cX6_walks 29 = .ok (.ldc2_w 145, 3) := by decide +kernel
theorem dX6_walks_32 : decode cX6_walks 32 = .ok (.lreturn, 1) := by decide +kernel
theorem dX6_walks_33 : decode cX6_walks 33 = .ok (.aload_n 0, 1) := by decide +kernel
theorem dX6_walks_34 : decode cX6_walks 34 = .ok (.iload_n 1, 1) := by decide +kernel
theorem dX6_walks_35 : decode cX6_walks 35 = .ok (.iload_n 2, 1) := by decide +kernel
theorem dX6_walks_36 : decode cX6_walks 36 = .ok (.iload 4, 2) := by decide +kernel
theorem dX6_walks_38 : decode cX6_walks 38 = .ok (.invokevirtual 147, 3) := by decide +kernel
theorem dX6_walks_41 : decode cX6_walks 41 = .ok (.aload_n 0, 1) := by decide +kernel
theorem dX6_walks_42 : decode cX6_walks 42 = .ok (.getfield 44, 3) := by decide +kernel
theorem dX6_walks_45 : decode cX6_walks 45 = .ok (.iload_n 3, 1) := by decide +kernel
theorem dX6_walks_46 : decode cX6_walks 46 = .ok (.laload, 1) := by decide +kernel
theorem dX6_walks_47 : decode cX6_walks 47 = .ok (.lreturn, 1) := by decide +kernel
theorem dX6_uneven_0 : decode cX6_uneven 0 = .ok (.aload_n 0, 1) := by decide +kernel
theorem dX6_uneven_1 : decode cX6_uneven 1 = .ok (.iload_n 1, 1) := by decide +kernel
theorem dX6_uneven_2 : decode cX6_uneven 2 = .ok (.iload_n 2, 1) := by decide +kernel
theorem dX6_uneven_3 : decode cX6_uneven 3 = .ok (.invokevirtual 81, 3) := by decide +kernel
theorem dX6_uneven_6 : decode cX6_uneven 6 = .ok (.ifCond .eq 13, 3) := by decide +kernel
theorem dX6_uneven_9 : decode cX6_uneven 9 = .ok (.iload_n 3, 1) := by decide +kernel
theorem dX6_uneven_10 : decode cX6_uneven 10 = .ok (.iconst 0, 1) := by decide +kernel
theorem dX6_uneven_11 : decode cX6_uneven 11 = .ok (.bipush 12, 2) := by decide +kernel
theorem dX6_uneven_13 : decode cX6_uneven 13 = .ok (.invokestatic 65, 3) := by decide +kernel
theorem dX6_uneven_16 : decode cX6_uneven 16 = .ok (.ifCond .ne 7, 3) := by decide +kernel
theorem dX6_uneven_19 : decode cX6_uneven 19 = .ok (.ldc2_w 145, 3) := by decide +kernel
theorem dX6_uneven_22 : decode cX6_uneven 22 = .ok (.lreturn, 1) := by decide +kernel
theorem dX6_uneven_23 : decode cX6_uneven 23 = .ok (.aload_n 0, 1) := by decide +kernel
theorem dX6_uneven_24 : decode cX6_uneven 24 = .ok (.iload_n 1, 1) := by decide +kernel
theorem dX6_uneven_25 : decode cX6_uneven 25 = .ok (.invokevirtual 99, 3) := by decide +kernel
theorem dX6_uneven_28 : decode cX6_uneven 28 = .ok (.istore 4, 2) := by decide +kernel
theorem dX6_uneven_30 : decode cX6_uneven 30 = .ok (.iload 4, 2) := by decide +kernel
theorem dX6_uneven_32 : decode cX6_uneven 32 = .ok (.iconst (-1), 1) := by decide +kernel
theorem dX6_uneven_33 : decode cX6_uneven 33 = .ok (.if_icmp .ne 7, 3) := by decide +kernel
theorem dX6_uneven_36 : decode cX6_uneven 36 = .ok (.ldc2_w 150, 3) := by decide +kernel
theorem dX6_uneven_39 : decode cX6_uneven 39 = .ok (.lreturn, 1) := by decide +kernel
theorem dX6_uneven_40 : decode cX6_uneven 40 = .ok (.aload_n 0, 1) := by decide +kernel
theorem dX6_uneven_41 : decode cX6_uneven 41 = .ok (.iload_n 1, 1) := by decide +kernel
theorem dX6_uneven_42 : decode cX6_uneven 42 = .ok (.iload_n 2, 1) := by decide +kernel
theorem dX6_uneven_43 : decode cX6_uneven 43 = .ok (.iload_n 3, 1) := by decide +kernel
theorem dX6_uneven_44 : decode cX6_uneven 44 = .ok (.invokevirtual 147, 3) := by decide +kernel
theorem dX6_uneven_47 : decode cX6_uneven 47 = .ok (.lconst 1, 1) := by decide +kernel
theorem dX6_uneven_48 : decode cX6_uneven 48 = .ok (.lstore 5, 2) := by decide +kernel
theorem dX6_uneven_50 : decode cX6_uneven 50 = .ok (.iconst 0, 1) := by decide +kernel
theorem dX6_uneven_51 : decode cX6_uneven 51 = .ok (.istore 7, 2) := by decide +kernel
theorem dX6_uneven_53 : decode cX6_uneven 53 = .ok (.iload 7, 2) := by decide +kernel
theorem dX6_uneven_55 : decode cX6_uneven 55 = .ok (.iload_n 3, 1) := by decide +kernel
theorem dX6_uneven_56 : decode cX6_uneven 56 = .ok (.if_icmp .ge 17, 3) := by decide +kernel
theorem dX6_uneven_59 : decode cX6_uneven 59 = .ok (.lload 5, 2) := by decide +kernel
theorem dX6_uneven_61 : decode cX6_uneven 61 = .ok (.iload 4, 2) := by decide +kernel
theorem dX6_uneven_63 : decode cX6_uneven 63 = .ok (.i2l, 1) := by decide +kernel
theorem dX6_uneven_64 : decode cX6_uneven 64 = .ok (.lmul, 1) := by decide +kernel
theorem dX6_uneven_65 : decode cX6_uneven 65 = .ok (.lstore 5, 2) := by decide +kernel
theorem dX6_uneven_67 : decode cX6_uneven 67 = .ok (.iinc 7 1, 3) := by decide +kernel
theorem dX6_uneven_70 : decode cX6_uneven 70 = .ok (.goto (-17), 3) := by decide +kernel
theorem dX6_uneven_73 : decode cX6_uneven 73 = .ok (.lconst 0, 1) := by decide +kernel
theorem dX6_uneven_74 : decode cX6_uneven 74 = .ok (.lstore 7, 2) := by decide +kernel
theorem dX6_uneven_76 : decode cX6_uneven 76 = .ok (.iconst 0, 1) := by decide +kernel
