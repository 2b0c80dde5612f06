theorem dX9_fitsSigns_71 : decode cX9_fitsSigns 71 = .ok (.iconst 1, 1) := by decide +kernel
theorem dX9_fitsSigns_72 : decode cX9_fitsSigns 72 = .ok (.goto 4, 3) := by decide +kernel
theorem dX9_fitsSigns_75 : decode cX9_fitsSigns 75 = .ok (.iconst 0, 1) := by decide +kernel
theorem dX9_fitsSigns_76 : decode cX9_fitsSigns 76 = .ok (.istore 8, 2) := by decide +kernel
theorem dX9_fitsSigns_78 : decode cX9_fitsSigns 78 = .ok (.goto 122, 3) := by decide +kernel
theorem dX9_fitsSigns_81 : decode cX9_fitsSigns 81 = .ok (.iload 6, 2) := by decide +kernel
theorem dX9_fitsSigns_83 : decode cX9_fitsSigns 83 = .ok (.bipush 42, 2) := by decide +kernel
theorem dX9_fitsSigns_85 : decode cX9_fitsSigns 85 = .ok (.if_icmp .ne 56, 3) := by decide +kernel
theorem dX9_fitsSigns_88 : decode cX9_fitsSigns 88 = .ok (.aload_n 0, 1) := by decide +kernel
theorem dX9_fitsSigns_89 : decode cX9_fitsSigns 89 = .ok (.getfield 92, 3) := by decide +kernel
theorem dX9_fitsSigns_92 : decode cX9_fitsSigns 92 = .ok (.bipush 9, 2) := by decide +kernel
theorem dX9_fitsSigns_94 : decode cX9_fitsSigns 94 = .ok (.iload 7, 2) := by decide +kernel
theorem dX9_fitsSigns_96 : decode cX9_fitsSigns 96 = .ok (.imul, 1) := by decide +kernel
theorem dX9_fitsSigns_97 : decode cX9_fitsSigns 97 = .ok (.iload 5, 2) := by decide +kernel
theorem dX9_fitsSigns_99 : decode cX9_fitsSigns 99 = .ok (.iadd, 1) := by decide +kernel
theorem dX9_fitsSigns_100 : decode cX9_fitsSigns 100 = .ok (.iconst 1, 1) := by decide +kernel
theorem dX9_fitsSigns_101 : decode cX9_fitsSigns 101 = .ok (.isub, 1) := by decide +kernel
theorem dX9_fitsSigns_102 : decode cX9_fitsSigns 102 = .ok (.iaload, 1) := by decide +kernel
theorem dX9_fitsSigns_103 : decode cX9_fitsSigns 103 = .ok (.iconst 1, 1) := by decide +kernel
theorem dX9_fitsSigns_104 : decode cX9_fitsSigns 104 = .ok (.if_icmp .eq 27, 3) := by decide +kernel
theorem dX9_fitsSigns_107 : decode cX9_fitsSigns 107 = .ok (.iload 7, 2) := by decide +kernel
theorem dX9_fitsSigns_109 : decode cX9_fitsSigns 109 = .ok (.ifCond .le 26, 3) := by decide +kernel
theorem dX9_fitsSigns_112 : decode cX9_fitsSigns 112 = .ok (.aload_n 0, 1) := by decide +kernel
theorem dX9_fitsSigns_113 : decode cX9_fitsSigns 113 = .ok (.getfield 92, 3) := by decide +kernel
theorem dX9_fitsSigns_116 : decode cX9_fitsSigns 116 = .ok (.bipush 9, 2) := by decide +kernel
theorem dX9_fitsSigns_118 : decode cX9_fitsSigns 118 = .ok (.iload 7, 2) := by decide +kernel
theorem dX9_fitsSigns_120 : decode cX9_fitsSigns 120 = .ok (.iconst 1, 1) := by decide +kernel
theorem dX9_fitsSigns_121 : decode cX9_fitsSigns 121 = .ok (.isub, 1) := by decide +kernel
theorem dX9_fitsSigns_122 : decode cX9_fitsSigns 122 = .ok (.imul, 1) := by decide +kernel
theorem dX9_fitsSigns_123 : decode cX9_fitsSigns 123 = .ok (.iload 5, 2) := by decide +kernel
theorem dX9_fitsSigns_125 : decode cX9_fitsSigns 125 = .ok (.iadd, 1) := by decide +kernel
theorem dX9_fitsSigns_126 : decode cX9_fitsSigns 126 = .ok (.iaload, 1) := by decide +kernel
theorem dX9_fitsSigns_127 : decode cX9_fitsSigns 127 = .ok (.iconst 1, 1) := by decide +kernel
theorem dX9_fitsSigns_128 : decode cX9_fitsSigns 128 = .ok (.if_icmp .ne 7, 3) := by decide +kernel
theorem dX9_fitsSigns_131 : decode cX9_fitsSigns 131 = .ok (.iconst 1, 1) := by decide +kernel
theorem dX9_fitsSigns_132 : decode cX9_fitsSigns 132 = .ok (.goto 4, 3) := by decide +kernel
theorem dX9_fitsSigns_135 : decode cX9_fitsSigns 135 = .ok (.iconst 0, 1) := by decide +kernel
theorem dX9_fitsSigns_136 : decode cX9_fitsSigns 136 = .ok (.istore 8, 2) := by decide +kernel
theorem dX9_fitsSigns_138 : decode cX9_fitsSigns 138 = .ok (.goto 62, 3) := by decide +kernel
theorem dX9_fitsSigns_141 : decode cX9_fitsSigns 141 = .ok (.iload 7, 2) := by decide +kernel
theorem dX9_fitsSigns_143 : decode cX9_fitsSigns 143 = .ok (.ifCond .le 54, 3) := by decide +kernel
theorem dX9_fitsSigns_146 : decode cX9_fitsSigns 146 = .ok (.aload_n 0, 1) := by decide +kernel
theorem dX9_fitsSigns_147 : decode cX9_fitsSigns 147 = .ok (.getfield 92, 3) := by decide +kernel
theorem dX9_fitsSigns_150 : decode cX9_fitsSigns 150 = .ok (.bipush 9, 2) := by decide +kernel
theorem dX9_fitsSigns_152 : decode cX9_fitsSigns 152 = .ok (.iload 7, 2) := by decide +kernel
theorem dX9_fitsSigns_154 : decode cX9_fitsSigns 154 = .ok (.iconst 1, 1) := by decide +kernel
theorem dX9_fitsSigns_155 : decode cX9_fitsSigns 155 = .ok (.isub, 1) := by decide +kernel
theorem dX9_fitsSigns_156 : decode cX9_fitsSigns 156 = .ok (.imul, 1) := by decide +kernel
theorem dX9_fitsSigns_157 : decode cX9_fitsSigns 157 = .ok (.iload 5, 2) := by decide +kernel
theorem dX9_fitsSigns_159 : decode cX9_fitsSigns 159 = .ok (.iadd, 1) := by decide +kernel
theorem dX9_fitsSigns_160 : decode cX9_fitsSigns 160 = .ok (.iconst 1, 1) := by decide +kernel
theorem dX9_fitsSigns_161 : decode cX9_fitsSigns 161 = .ok (.isub, 1) := by decide +kernel
theorem dX9_fitsSigns_162 : decode cX9_fitsSigns 162 = .ok (.iaload, 1) := by decide +kernel
theorem dX9_fitsSigns_163 : decode cX9_fitsSigns 163 = .ok (.iconst 1, 1) := by decide +kernel
theorem dX9_fitsSigns_164 : decode cX9_fitsSigns 164 = .ok (.if_icmp .ne 33, 3) := by decide +kernel
theorem dX9_fitsSigns_167 : decode cX9_fitsSigns 167 = .ok (.iload 6, 2) := by decide +kernel
theorem dX9_fitsSigns_169 : decode cX9_fitsSigns 169 = .ok (.bipush 63, 2) := by decide +kernel
theorem dX9_fitsSigns_171 : decode cX9_fitsSigns 171 = .ok (.if_icmp .eq 22, 3) := by decide +kernel
theorem dX9_fitsSigns_174 : decode cX9_fitsSigns 174 = .ok (.iload 6, 2) := by decide +kernel
theorem dX9_fitsSigns_176 : decode cX9_fitsSigns 176 = .ok (.aload_n 0, 1) := by decide +kernel
theorem dX9_fitsSigns_177 : decode cX9_fitsSigns 177 = .ok (.getfield 89, 3) := by decide +kernel
theorem dX9_fitsSigns_180 : decode cX9_fitsSigns 180 = .ok (.bipush 8, 2) := by decide +kernel
theorem dX9_fitsSigns_182 : decode cX9_fitsSigns 182 = .ok (.iload_n 1, 1) := by decide +kernel
theorem dX9_fitsSigns_183 : decode cX9_fitsSigns 183 = .ok (.imul, 1) := by decide +kernel
theorem dX9_fitsSigns_184 : decode cX9_fitsSigns 184 = .ok (.iload 7, 2) := by decide +kernel
theorem dX9_fitsSigns_186 : decode cX9_fitsSigns 186 = .ok (.iadd, 1) := by decide +kernel
theorem dX9_fitsSigns_187 : decode cX9_fitsSigns 187 = .ok (.iconst 1, 1) := by decide +kernel
theorem dX9_fitsSigns_188 : decode cX9_fitsSigns 188 = .ok (.isub, 1) := by decide +kernel
theorem dX9_fitsSigns_189 : decode cX9_fitsSigns 189 = .ok (.iaload, 1) := by decide +kernel
theorem dX9_fitsSigns_190 : decode cX9_fitsSigns 190 = .ok (.if_icmp .ne 7, 3) := by decide +kernel
theorem dX9_fitsSigns_193 : decode cX9_fitsSigns 193 = .ok (.iconst 1, 1) := by decide +kernel
theorem dX9_fitsSigns_194 : decode cX9_fitsSigns 194 = .ok (.goto 4, 3) := by decide +kernel
theorem dX9_fitsSigns_197 : decode cX9_fitsSigns 197 = .ok (.iconst 0, 1) := by decide +kernel
theorem dX9_fitsSigns_198 : decode cX9_fitsSigns 198 = .ok (.istore 8, 2) := by decide +kernel
theorem dX9_fitsSigns_200 : decode cX9_fitsSigns 200 = .ok (.aload_n 0, 1) := by decide +kernel
theorem dX9_fitsSigns_201 : decode cX9_fitsSigns 201 = .ok (.getfield 92, 3) := by decide +kernel
theorem dX9_fitsSigns_204 : decode cX9_fitsSigns 204 = .ok (.bipush 9, 2) := by decide +kernel
theorem dX9_fitsSigns_206 : decode cX9_fitsSigns 206 = .ok (.iload 7, 2) := by decide +kernel
theorem dX9_fitsSigns_208 : decode cX9_fitsSigns 208 = .ok (.imul, 1) := by decide +kernel
theorem dX9_fitsSigns_209 : decode cX9_fitsSigns 209 = .ok (.iload 5, 2) := by decide +kernel
theorem dX9_fitsSigns_211 : decode cX9_fitsSigns 211 = .ok (.iadd, 1) := by decide +kernel
theorem dX9_fitsSigns_212 : decode cX9_fitsSigns 212 = .ok (.iload 8, 2) := by decide +kernel
theorem dX9_fitsSigns_214 : decode cX9_fitsSigns 214 = .ok (.ifCond .eq 7, 3) := by decide +kernel
theorem dX9_fitsSigns_217 : decode cX9_fitsSigns 217 = .ok (.iconst 1, 1) := by decide +kernel
theorem dX9_fitsSigns_218 : decode cX9_fitsSigns 218 = .ok (.goto 4, 3) := by decide +kernel
theorem dX9_fitsSigns_221 : decode cX9_fitsSigns 221 = .ok (.iconst 0, 1) := by decide +kernel
theorem dX9_fitsSigns_222 : decode cX9_fitsSigns 222 = .ok (.iastore, 1) := by decide +kernel
theorem dX9_fitsSigns_223 : decode cX9_fitsSigns 223 = .ok (.iinc 7 1, 3) := by decide +kernel
theorem dX9_fitsSigns_226 : decode cX9_fitsSigns 226 = .ok (.goto (-171), 3) := by decide +kernel
theorem dX9_fitsSigns_229 : decode cX9_fitsSigns 229 = .ok (.iinc 5 1, 3) := by decide +kernel
theorem dX9_fitsSigns_232 : decode cX9_fitsSigns 232 = .ok (.goto (-212), 3) := by decide +kernel
theorem dX9_fitsSigns_235 : decode cX9_fitsSigns 235 = .ok (.aload_n 0, 1) := by decide +kernel
theorem dX9_fitsSigns_236 : decode cX9_fitsSigns 236 = .ok (.getfield 92, 3) := by decide +kernel
theorem dX9_fitsSigns_239 : decode cX9_fitsSigns 239 = .ok (.bipush 9, 2) := by decide +kernel
theorem dX9_fitsSigns_241 : decode cX9_fitsSigns 241 = .ok (.iload_n 3, 1) := by decide +kernel
theorem dX9_fitsSigns_242 : decode cX9_fitsSigns 242 = .ok (.imul, 1) := by decide +kernel
theorem dX9_fitsSigns_243 : decode cX9_fitsSigns 243 = .ok (.iload 4, 2) := by decide +kernel
theorem dX9_fitsSigns_245 : decode cX9_fitsSigns 245 = .ok (.iadd, 1) := by decide +kernel
theorem dX9_fitsSigns_246 : decode cX9_fitsSigns 246 = .ok (.iaload, 1) := by decide +kernel
theorem dX9_fitsSigns_247 : decode cX9_fitsSigns 247 = .ok (.iconst 1, 1) := by decide +kernel
theorem dX9_fitsSigns_248 : decode cX9_fitsSigns 248 = .ok (.if_icmp .ne 7, 3) := by decide +kernel
theorem dX9_fitsSigns_251 : decode cX9_fitsSigns 251 = .ok (.iconst 1, 1) := by decide +kernel
theorem dX9_fitsSigns_252 : decode cX9_fitsSigns 252 = .ok (.goto 4, 3) := by decide +kernel
theorem dX9_fitsSigns_255 : decode cX9_fitsSigns 255 = .ok (.iconst 0, 1) := by decide +kernel
theorem dX9_fitsSigns_256 : decode cX9_fitsSigns 256 = .ok (.ireturn, 1) := by decide +kernel
theorem dX9_fitsWord_0 : decode cX9_fitsWord 0 = .ok (.aload_n 0, 1) := by decide +kernel
theorem dX9_fitsWord_1 : decode cX9_fitsWord 1 = .ok (.getfield 44, 3) := by decide +kernel
theorem dX9_fitsWord_4 : decode cX9_fitsWord 4 = .ok (.iload_n 2, 1) := by decide +kernel
theorem dX9_fitsWord_5 : decode cX9_fitsWord 5 = .ok (.iaload, 1) := by decide +kernel
theorem dX9_fitsWord_6 : decode cX9_fitsWord 6 = .ok (.iconst 2, 1) := by decide +kernel
theorem dX9_fitsWord_7 : decode cX9_fitsWord 7 = .ok (.if_icmp .ne 62, 3) := by decide +kernel
theorem dX9_fitsWord_10 : decode cX9_fitsWord 10 = .ok (.aload_n 0, 1) := by decide +kernel
theorem dX9_fitsWord_11 : decode cX9_fitsWord 11 = .ok (.iload_n 1, 1) := by decide +kernel
theorem dX9_fitsWord_12 : decode cX9_fitsWord 12 = .ok (.iload_n 2, 1) := by decide +kernel
theorem dX9_fitsWord_13 : decode cX9_fitsWord 13 = .ok (.iconst 0, 1) := by decide +kernel
theorem dX9_fitsWord_14 : decode cX9_fitsWord 14 = .ok (.invokevirtual 223, 3) := by decide +kernel
theorem dX9_fitsWord_17 : decode cX9_fitsWord 17 = .ok (.istore_n 3, 1) := by decide +kernel
theorem dX9_fitsWord_18 : decode cX9_fitsWord 18 = .ok (.aload_n 0, 1) := by decide +kernel
theorem dX9_fitsWord_19 : decode cX9_fitsWord 19 = .ok (.iload_n 1, 1) := by decide +kernel
theorem dX9_fitsWord_20 : decode cX9_fitsWord 20 = .ok (.iload_n 2, 1) := by decide +kernel
theorem dX9_fitsWord_21 : decode cX9_fitsWord 21 = .ok (.iconst 1, 1) := by decide +kernel
theorem dX9_fitsWord_22 : decode cX9_fitsWord 22 = .ok (.invokevirtual 223, 3) := by decide +kernel
theorem dX9_fitsWord_25 : decode cX9_fitsWord 25 = .ok (.istore 4, 2) := by decide +kernel
theorem dX9_fitsWord_27 : decode cX9_fitsWord 27 = .ok (.aload_n 0, 1) := by decide +kernel
theorem dX9_fitsWord_28 : decode cX9_fitsWord 28 = .ok (.getfield 56, 3) := by decide +kernel
theorem dX9_fitsWord_31 : decode cX9_fitsWord 31 = .ok (.iload_n 2, 1) := by decide +kernel
theorem dX9_fitsWord_32 : decode cX9_fitsWord 32 = .ok (.iaload, 1) := by decide +kernel
theorem dX9_fitsWord_33 : decode cX9_fitsWord 33 = .ok (.iconst 1, 1) := by decide +kernel
theorem dX9_fitsWord_34 : decode cX9_fitsWord 34 = .ok (.if_icmp .ne 20, 3) := by decide +kernel
theorem dX9_fitsWord_37 : decode cX9_fitsWord 37 = .ok (.iload_n 3, 1) := by decide +kernel
theorem dX9_fitsWord_38 : decode cX9_fitsWord 38 = .ok (.ifCond .le 12, 3) := by decide +kernel
theorem dX9_fitsWord_41 : decode cX9_fitsWord 41 = .ok (.iload 4, 2) := by decide +kernel
theorem dX9_fitsWord_43 : decode cX9_fitsWord 43 = .ok (.ifCond .ge 7, 3) := by decide +kernel
theorem dX9_fitsWord_46 : decode cX9_fitsWord 46 = .ok (.iconst 1, 1) := by decide +kernel
theorem dX9_fitsWord_47 : decode cX9_fitsWord 47 = .ok (.goto 21, 3) := by decide +kernel
theorem dX9_fitsWord_50 : decode cX9_fitsWord 50 = .ok (.iconst 0, 1) := by decide +kernel
theorem dX9_fitsWord_51 : decode cX9_fitsWord 51 = .ok (.goto 17, 3) := by decide +kernel
theorem dX9_fitsWord_54 : decode cX9_fitsWord 54 = .ok (.iload_n 3, 1) := by decide +kernel
theorem dX9_fitsWord_55 : decode cX9_fitsWord 55 = .ok (.ifCond .lt 12, 3) := by decide +kernel
theorem dX9_fitsWord_58 : decode cX9_fitsWord 58 = .ok (.iload 4, 2) := by decide +kernel
theorem dX9_fitsWord_60 : decode cX9_fitsWord 60 = .ok (.ifCond .gt 7, 3) := by decide +kernel
theorem dX9_fitsWord_63 : decode cX9_fitsWord 63 = .ok (.iconst 1, 1) := by decide +kernel
theorem dX9_fitsWord_64 : decode cX9_fitsWord 64 = .ok (.goto 4, 3) := by decide +kernel
theorem dX9_fitsWord_67 : decode cX9_fitsWord 67 = .ok (.iconst 0, 1) := by decide +kernel
theorem dX9_fitsWord_68 : decode cX9_fitsWord 68 = .ok (.ireturn, 1) := by decide +kernel
theorem dX9_fitsWord_69 : decode cX9_fitsWord 69 = .ok (.aload_n 0, 1) := by decide +kernel
theorem dX9_fitsWord_70 : decode cX9_fitsWord 70 = .ok (.getfield 56, 3) := by decide +kernel
theorem dX9_fitsWord_73 : decode cX9_fitsWord 73 = .ok (.iload_n 2, 1) := by decide +kernel
theorem dX9_fitsWord_74 : decode cX9_fitsWord 74 = .ok (.iaload, 1) := by decide +kernel
theorem dX9_fitsWord_75 : decode cX9_fitsWord 75 = .ok (.ifCond .le 26, 3) := by decide +kernel
theorem dX9_fitsWord_78 : decode cX9_fitsWord 78 = .ok (.aload_n 0, 1) := by decide +kernel
theorem dX9_fitsWord_79 : decode cX9_fitsWord 79 = .ok (.iload_n 1, 1) := by decide +kernel
theorem dX9_fitsWord_80 : decode cX9_fitsWord 80 = .ok (.iload_n 2, 1) := by decide +kernel
theorem dX9_fitsWord_81 : decode cX9_fitsWord 81 = .ok (.invokevirtual 227, 3) := by decide +kernel
theorem dX9_fitsWord_84 : decode cX9_fitsWord 84 = .ok (.aload_n 0, 1) := by decide +kernel
theorem dX9_fitsWord_85 : decode cX9_fitsWord 85 = .ok (.getfield 56, 3) := by decide +kernel
theorem dX9_fitsWord_88 : decode cX9_fitsWord 88 = .ok (.iload_n 2, 1) := by decide +kernel
theorem dX9_fitsWord_89 : decode cX9_fitsWord 89 = .ok (.iaload, 1) := by decide +kernel
theorem dX9_fitsWord_90 : decode cX9_fitsWord 90 = .ok (.if_icmp .gt 7, 3) := by decide +kernel
theorem dX9_fitsWord_93 : decode cX9_fitsWord 93 = .ok (.iconst 1, 1) := by decide +kernel
theorem dX9_fitsWord_94 : decode cX9_fitsWord 94 = .ok (.goto 13, 3) := by decide +kernel
theorem dX9_fitsWord_97 : decode cX9_fitsWord 97 = .ok (.iconst 0, 1) := by decide +kernel
theorem dX9_fitsWord_98 : decode cX9_fitsWord 98 = .ok (.goto 9, 3) := by decide +kernel
theorem dX9_fitsWord_101 : decode cX9_fitsWord 101 = .ok (.aload_n 0, 1) := by decide +kernel
theorem dX9_fitsWord_102 : decode cX9_fitsWord 102 = .ok (.iload_n 1, 1) := by decide +kernel
theorem dX9_fitsWord_103 : decode cX9_fitsWord 103 = .ok (.iload_n 2, 1) := by decide +kernel
theorem dX9_fitsWord_104 : decode cX9_fitsWord 104 = .ok (.invokevirtual 230, 3) := by decide +kernel
theorem dX9_fitsWord_107 : decode cX9_fitsWord 107 = .ok (.ireturn, 1) := by decide +kernel
theorem dX9_quoteAt_0 : decode cX9_quoteAt 0 = .ok (.iload_n 2, 1) := by decide +kernel
theorem dX9_quoteAt_1 : decode cX9_quoteAt 1 = .ok (.istore 5, 2) := by decide +kernel
theorem dX9_quoteAt_3 : decode cX9_quoteAt 3 = .ok (.iconst 0, 1) := by decide +kernel
theorem dX9_quoteAt_4 : decode cX9_quoteAt 4 = .ok (.istore 6, 2) := by decide +kernel
theorem dX9_quoteAt_6 : decode cX9_quoteAt 6 = .ok (.iload 6, 2) := by decide +kernel
theorem dX9_quoteAt_8 : decode cX9_quoteAt 8 = .ok (.aload_n 0, 1) := by decide +kernel
theorem dX9_quoteAt_9 : decode cX9_quoteAt 9 = .ok (.getfield 62, 3) := by decide +kernel
theorem dX9_quoteAt_12 : decode cX9_quoteAt 12 = .ok (.iload 4, 2) := by decide +kernel
theorem dX9_quoteAt_14 : decode cX9_quoteAt 14 = .ok (.iaload, 1) := by decide +kernel
theorem dX9_quoteAt_15 : decode cX9_quoteAt 15 = .ok (.if_icmp .ge 58, 3) := by decide +kernel
theorem dX9_quoteAt_18 : decode cX9_quoteAt 18 = .ok (.iload 5, 2) := by decide +kernel
theorem dX9_quoteAt_20 : decode cX9_quoteAt 20 = .ok (.iload_n 3, 1) := by decide +kernel
theorem dX9_quoteAt_21 : decode cX9_quoteAt 21 = .ok (.if_icmp .ge 24, 3) := by decide +kernel
theorem dX9_quoteAt_24 : decode cX9_quoteAt 24 = .ok (.aload_n 0, 1) := by decide +kernel
theorem dX9_quoteAt_25 : decode cX9_quoteAt 25 = .ok (.iload_n 1, 1) := by decide +kernel
theorem dX9_quoteAt_26 : decode cX9_quoteAt 26 = .ok (.iload 5, 2) := by decide +kernel
theorem dX9_quoteAt_28 : decode cX9_quoteAt 28 = .ok (.iadd, 1) := by decide +kernel
theorem dX9_quoteAt_29 : decode cX9_quoteAt 29 = .ok (.iload 4, 2) := by decide +kernel
theorem dX9_quoteAt_31 : decode cX9_quoteAt 31 = .ok (.iload 6, 2) := by decide +kernel
theorem dX9_quoteAt_33 : decode cX9_quoteAt 33 = .ok (.invokevirtual 223, 3) := by decide +kernel
theorem dX9_quoteAt_36 : decode cX9_quoteAt 36 = .ok (.ifCond .eq 9, 3) := by decide +kernel
theorem dX9_quoteAt_39 : decode cX9_quoteAt 39 = .ok (.iinc 5 1, 3) := by decide +kernel
theorem dX9_quoteAt_42 : decode cX9_quoteAt 42 = .ok (.goto (-24), 3) := by decide +kernel
theorem dX9_quoteAt_45 : decode cX9_quoteAt 45 = .ok (.iload 5, 2) := by decide +kernel
theorem dX9_quoteAt_47 : decode cX9_quoteAt 47 = .ok (.iload_n 3, 1) := by decide +kernel
theorem dX9_quoteAt_48 : decode cX9_quoteAt 48 = .ok (.if_icmp .eq 14, 3) := by decide +kernel
theorem dX9_quoteAt_51 : decode cX9_quoteAt 51 = .ok (.iload 6, 2) := by decide +kernel
theorem dX9_quoteAt_53 : decode cX9_quoteAt 53 = .ok (.ifCond .ne 11, 3) := by decide +kernel
theorem dX9_quoteAt_56 : decode cX9_quoteAt 56 = .ok (.iload 5, 2) := by decide +kernel
theorem dX9_quoteAt_58 : decode cX9_quoteAt 58 = .ok (.iload_n 2, 1) := by decide +kernel
theorem dX9_quoteAt_59 : decode cX9_quoteAt 59 = .ok (.if_icmp .le 5, 3) := by decide +kernel
theorem dX9_quoteAt_62 : decode cX9_quoteAt 62 = .ok (.iconst 0, 1) := by decide +kernel
theorem dX9_quoteAt_63 : decode cX9_quoteAt 63 = .ok (.ireturn, 1) := by decide +kernel
theorem dX9_quoteAt_64 : decode cX9_quoteAt 64 = .ok (.iinc 5 1, 3) := by decide +kernel
theorem dX9_quoteAt_67 : decode cX9_quoteAt 67 = .ok (.iinc 6 1, 3) := by decide +kernel
theorem dX9_quoteAt_70 : decode cX9_quoteAt 70 = .ok (.goto (-64), 3) := by decide +kernel
theorem dX9_quoteAt_73 : decode cX9_quoteAt 73 = .ok (.iload 5, 2) := by decide +kernel
theorem dX9_quoteAt_75 : decode cX9_quoteAt 75 = .ok (.iconst 1, 1) := by decide +kernel
theorem dX9_quoteAt_76 : decode cX9_quoteAt 76 = .ok (.isub, 1) := by decide +kernel
theorem dX9_quoteAt_77 : decode cX9_quoteAt 77 = .ok (.iload_n 2, 1) := by decide +kernel
theorem dX9_quoteAt_78 : decode cX9_quoteAt 78 = .ok (.isub, 1) := by decide +kernel
theorem dX9_quoteAt_79 : decode cX9_quoteAt 79 = .ok (.aload_n 0, 1) := by decide +kernel
theorem dX9_quoteAt_80 : decode cX9_quoteAt 80 = .ok (.getfield 62, 3) := by decide +kernel
theorem dX9_quoteAt_83 : decode cX9_quoteAt 83 = .ok (.iload 4, 2) := by decide +kernel
theorem dX9_quoteAt_85 : decode cX9_quoteAt 85 = .ok (.iaload, 1) := by decide +kernel
theorem dX9_quoteAt_86 : decode cX9_quoteAt 86 = .ok (.iconst 1, 1) := by decide +kernel
theorem dX9_quoteAt_87 : decode cX9_quoteAt 87 = .ok (.isub, 1) := by decide +kernel
theorem dX9_quoteAt_88 : decode cX9_quoteAt 88 = .ok (.aload_n 0, 1) := by decide +kernel
theorem dX9_quoteAt_89 : decode cX9_quoteAt 89 = .ok (.getfield 56, 3) := by decide +kernel
theorem dX9_quoteAt_92 : decode cX9_quoteAt 92 = .ok (.iload 4, 2) := by decide +kernel
theorem dX9_quoteAt_94 : decode cX9_quoteAt 94 = .ok (.iaload, 1) := by decide +kernel
theorem dX9_quoteAt_95 : decode cX9_quoteAt 95 = .ok (.iadd, 1) := by decide +kernel
theorem dX9_quoteAt_96 : decode cX9_quoteAt 96 = .ok (.if_icmp .gt 7, 3) := by decide +kernel
theorem dX9_quoteAt_99 : decode cX9_quoteAt 99 = .ok (.iconst 1, 1) := by decide +kernel
theorem dX9_quoteAt_100 : decode cX9_quoteAt 100 = .ok (.goto 4, 3) := by decide +kernel
theorem dX9_quoteAt_103 : decode cX9_quoteAt 103 = .ok (.iconst 0, 1) := by decide +kernel
theorem dX9_quoteAt_104 : decode cX9_quoteAt 104 = .ok (.ireturn, 1) := by decide +kernel
theorem dX9_countOf_0 : decode cX9_countOf 0 = .ok (.iconst 0, 1) := by decide +kernel
theorem dX9_countOf_1 : decode cX9_countOf 1 = .ok (.istore_n 3, 1) := by decide +kernel
theorem dX9_countOf_2 : decode cX9_countOf 2 = .ok (.iconst 0, 1) := by decide +kernel
theorem dX9_countOf_3 : decode cX9_countOf 3 = .ok (.istore 4, 2) := by decide +kernel
theorem dX9_countOf_5 : decode cX9_countOf 5 = .ok (.iload 4, 2) := by decide +kernel
theorem dX9_countOf_7 : decode cX9_countOf 7 = .ok (.iconst 4, 1) := by decide +kernel
theorem dX9_countOf_8 : decode cX9_countOf 8 = .ok (.if_icmp .ge 124, 3) := by decide +kernel
theorem dX9_countOf_11 : decode cX9_countOf 11 = .ok (.bipush 48, 2) := by decide +kernel
theorem dX9_countOf_13 : decode cX9_countOf 13 = .ok (.iload_n 2, 1) := by decide +kernel
theorem dX9_countOf_14 : decode cX9_countOf 14 = .ok (.imul, 1) := by decide +kernel
theorem dX9_countOf_15 : decode cX9_countOf 15 = .ok (.bipush 12, 2) := by decide +kernel
theorem dX9_countOf_17 : decode cX9_countOf 17 = .ok (.iload 4, 2) := by decide +kernel
theorem dX9_countOf_19 : decode cX9_countOf 19 = .ok (.imul, 1) := by decide +kernel
theorem dX9_countOf_20 : decode cX9_countOf 20 = .ok (.iadd, 1) := by decide +kernel
theorem dX9_countOf_21 : decode cX9_countOf 21 = .ok (.istore 5, 2) := by decide +kernel
theorem dX9_countOf_23 : decode cX9_countOf 23 = .ok (.aload_n 0, 1) := by decide +kernel
theorem dX9_countOf_24 : decode cX9_countOf 24 = .ok (.getfield 103, 3) := by decide +kernel
theorem dX9_countOf_27 : decode cX9_countOf 27 = .ok (.iload_n 1, 1) := by decide +kernel
theorem dX9_countOf_28 : decode cX9_countOf 28 = .ok (.iaload, 1) := by decide +kernel
theorem dX9_countOf_29 : decode cX9_countOf 29 = .ok (.iconst (-1), 1) := by decide +kernel
theorem dX9_countOf_30 : decode cX9_countOf 30 = .ok (.if_icmp .eq 14, 3) := by decide +kernel
theorem dX9_countOf_33 : decode cX9_countOf 33 = .ok (.aload_n 0, 1) := by decide +kernel
theorem dX9_countOf_34 : decode cX9_countOf 34 = .ok (.getfield 103, 3) := by decide +kernel
theorem dX9_countOf_37 : decode cX9_countOf 37 = .ok (.iload_n 1, 1) := by decide +kernel
theorem dX9_countOf_38 : decode cX9_countOf 38 = .ok (.iaload, 1) := by decide +kernel
theorem dX9_countOf_39 : decode cX9_countOf 39 = .ok (.iload 4, 2) := by decide +kernel
theorem dX9_countOf_41 : decode cX9_countOf 41 = .ok (.if_icmp .ne 17, 3) := by decide +kernel
theorem dX9_countOf_44 : decode cX9_countOf 44 = .ok (.aload_n 0, 1) := by decide +kernel
theorem dX9_countOf_45 : decode cX9_countOf 45 = .ok (.getfield 83, 3) := by decide +kernel
theorem dX9_countOf_48 : decode cX9_countOf 48 = .ok (.iconst 4, 1) := by decide +kernel
theorem dX9_countOf_49 : decode cX9_countOf 49 = .ok (.iload_n 2, 1) := by decide +kernel
theorem dX9_countOf_50 : decode cX9_countOf 50 = .ok (.imul, 1) := by decide +kernel
theorem dX9_countOf_51 : decode cX9_countOf 51 = .ok (.iload 4, 2) := by decide +kernel
theorem dX9_countOf_53 : decode cX9_countOf 53 = .ok (.iadd, 1) := by decide +kernel
theorem dX9_countOf_54 : decode cX9_countOf 54 = .ok (.iaload, 1) := by decide +kernel
theorem dX9_countOf_55 : decode cX9_countOf 55 = .ok (.goto 4, 3) := by decide +kernel
theorem dX9_countOf_58 : decode cX9_countOf 58 = .ok (.iconst 0, 1) := by decide +kernel
theorem dX9_countOf_59 : decode cX9_countOf 59 = .ok (.istore 6, 2) := by decide +kernel
theorem dX9_countOf_61 : decode cX9_countOf 61 = .ok (.iconst 0, 1) := by decide +kernel
theorem dX9_countOf_62 : decode cX9_countOf 62 = .ok (.istore 7, 2) := by decide +kernel
theorem dX9_countOf_64 : decode cX9_countOf 64 = .ok (.iload 7, 2) := by decide +kernel
theorem dX9_countOf_66 : decode cX9_countOf 66 = .ok (.iload 6, 2) := by decide +kernel
theorem dX9_countOf_68 : decode cX9_countOf 68 = .ok (.if_icmp .ge 58, 3) := by decide +kernel
theorem dX9_countOf_71 : decode cX9_countOf 71 = .ok (.aload_n 0, 1) := by decide +kernel
theorem dX9_countOf_72 : decode cX9_countOf 72 = .ok (.getfield 44, 3) := by decide +kernel
theorem dX9_countOf_75 : decode cX9_countOf 75 = .ok (.iload_n 1, 1) := by decide +kernel
theorem dX9_countOf_76 : decode cX9_countOf 76 = .ok (.iaload, 1) := by decide +kernel
theorem dX9_countOf_77 : decode cX9_countOf 77 = .ok (.iconst 1, 1) := by decide +kernel
theorem dX9_countOf_78 : decode cX9_countOf 78 = .ok (.if_icmp .ne 17, 3) := by decide +kernel
theorem dX9_countOf_81 : decode cX9_countOf 81 = .ok (.aload_n 0, 1) := by decide +kernel
theorem dX9_countOf_82 : decode cX9_countOf 82 = .ok (.iload 5, 2) := by decide +kernel
theorem dX9_countOf_84 : decode cX9_countOf 84 = .ok (.iload 7, 2) := by decide +kernel
theorem dX9_countOf_86 : decode cX9_countOf 86 = .ok (.iload 6, 2) := by decide +kernel
theorem dX9_countOf_88 : decode cX9_countOf 88 = .ok (.iload_n 1, 1) := by decide +kernel
theorem dX9_countOf_89 : decode cX9_countOf 89 = .ok (.invokevirtual 233, 3) := by decide +kernel
theorem dX9_countOf_92 : decode cX9_countOf 92 = .ok (.goto 13, 3) := by decide +kernel
theorem dX9_countOf_95 : decode cX9_countOf 95 = .ok (.aload_n 0, 1) := by decide +kernel
theorem dX9_countOf_96 : decode cX9_countOf 96 = .ok (.iload 5, 2) := by decide +kernel
theorem dX9_countOf_98 : decode cX9_countOf 98 = .ok (.iload 7, 2) := by decide +kernel
theorem dX9_countOf_100 : decode cX9_countOf 100 = .ok (.iadd, 1) := by decide +kernel
theorem dX9_countOf_101 : decode cX9_countOf 101 = .ok (.iload_n 1, 1) := by decide +kernel
theorem dX9_countOf_102 : decode cX9_countOf 102 = .ok (.invokevirtual 236, 3) := by decide +kernel
theorem dX9_countOf_105 : decode cX9_countOf 105 = .ok (.istore 8, 2) := by decide +kernel
theorem dX9_countOf_107 : decode cX9_countOf 107 = .ok (.iload_n 3, 1) := by decide +kernel
theorem dX9_countOf_108 : decode cX9_countOf 108 = .ok (.iload 8, 2) := by decide +kernel
theorem dX9_countOf_110 : decode cX9_countOf 110 = .ok (.ifCond .eq 7, 3) := by decide +kernel
theorem dX9_countOf_113 : decode cX9_countOf 113 = .ok (.iconst 1, 1) := by decide +kernel
theorem dX9_countOf_114 : decode cX9_countOf 114 = .ok (.goto 4, 3) := by decide +kernel
theorem dX9_countOf_117 : decode cX9_countOf 117 = .ok (.iconst 0, 1) := by decide +kernel
theorem dX9_countOf_118 : decode cX9_countOf 118 = .ok (.iadd, 1) := by decide +kernel
theorem dX9_countOf_119 : decode cX9_countOf 119 = .ok (.istore_n 3, 1) := by decide +kernel
theorem dX9_countOf_120 : decode cX9_countOf 120 = .ok (.iinc 7 1, 3) := by decide +kernel
theorem dX9_countOf_123 : decode cX9_countOf 123 = .ok (.goto (-59), 3) := by decide +kernel
theorem dX9_countOf_126 : decode cX9_countOf 126 = .ok (.iinc 4 1, 3) := by decide +kernel
theorem dX9_countOf_129 : decode cX9_countOf 129 = .ok (.goto (-124), 3) := by decide +kernel
theorem dX9_countOf_132 : decode cX9_countOf 132 = .ok (.iload_n 3, 1) := by decide +kernel
theorem dX9_countOf_133 : decode cX9_countOf 133 = .ok (.ireturn, 1) := by decide +kernel
theorem dX9_reckonGroup_0 : decode cX9_reckonGroup 0 = .ok (.iconst 0, 1) := by decide +kernel
theorem dX9_reckonGroup_1 : decode cX9_reckonGroup 1 = .ok (.istore_n 2, 1) := by decide +kernel
theorem dX9_reckonGroup_2 : decode cX9_reckonGroup 2 = .ok (.iconst 0, 1) := by decide +kernel
theorem dX9_reckonGroup_3 : decode cX9_reckonGroup 3 = .ok (.istore_n 3, 1) := by decide +kernel
theorem dX9_reckonGroup_4 : decode cX9_reckonGroup 4 = .ok (.iconst 0, 1) := by decide +kernel
theorem dX9_reckonGroup_5 : decode cX9_reckonGroup 5 = .ok (.istore 4, 2) := by decide +kernel
theorem dX9_reckonGroup_7 : decode cX9_reckonGroup 7 = .ok (.iconst 1, 1) := by decide +kernel
theorem dX9_reckonGroup_8 : decode cX9_reckonGroup 8 = .ok (.istore 5, 2) := by decide +kernel
theorem dX9_reckonGroup_10 : decode cX9_reckonGroup 10 = .ok (.lconst 0, 1) := by decide +kernel
theorem dX9_reckonGroup_11 : decode cX9_reckonGroup 11 = .ok (.lstore 6, 2) := by decide +kernel
theorem dX9_reckonGroup_13 : decode cX9_reckonGroup 13 = .ok (.iload_n 1, 1) := by decide +kernel
theorem dX9_reckonGroup_14 : decode cX9_reckonGroup 14 = .ok (.iconst 1, 1) := by decide +kernel
theorem dX9_reckonGroup_15 : decode cX9_reckonGroup 15 = .ok (.iadd, 1) := by decide +kernel
theorem dX9_reckonGroup_16 : decode cX9_reckonGroup 16 = .ok (.istore 8, 2) := by decide +kernel
theorem dX9_reckonGroup_18 : decode cX9_reckonGroup 18 = .ok (.iload 8, 2) := by decide +kernel
theorem dX9_reckonGroup_20 : decode cX9_reckonGroup 20 = .ok (.aload_n 0, 1) := by decide +kernel
theorem dX9_reckonGroup_21 : decode cX9_reckonGroup 21 = .ok (.getfield 112, 3) := by decide +kernel
theorem dX9_reckonGroup_24 : decode cX9_reckonGroup 24 = .ok (.if_icmp .ge 178, 3) := by decide +kernel
theorem dX9_reckonGroup_27 : decode cX9_reckonGroup 27 = .ok (.aload_n 0, 1) := by decide +kernel
theorem dX9_reckonGroup_28 : decode cX9_reckonGroup 28 = .ok (.getfield 59, 3) := by decide +kernel
theorem dX9_reckonGroup_31 : decode cX9_reckonGroup 31 = .ok (.iload 8, 2) := by decide +kernel
theorem dX9_reckonGroup_33 : decode cX9_reckonGroup 33 = .ok (.iaload, 1) := by decide +kernel
theorem dX9_reckonGroup_34 : decode cX9_reckonGroup 34 = .ok (.iload_n 1, 1) := by decide +kernel
theorem dX9_reckonGroup_35 : decode cX9_reckonGroup 35 = .ok (.if_icmp .ne 161, 3) := by decide +kernel
theorem dX9_reckonGroup_38 : decode cX9_reckonGroup 38 = .ok (.iload_n 2, 1) := by decide +kernel
theorem dX9_reckonGroup_39 : decode cX9_reckonGroup 39 = .ok (.aload_n 0, 1) := by decide +kernel
theorem dX9_reckonGroup_40 : decode cX9_reckonGroup 40 = .ok (.getfield 47, 3) := by decide +kernel
theorem dX9_reckonGroup_43 : decode cX9_reckonGroup 43 = .ok (.iload 8, 2) := by decide +kernel
theorem dX9_reckonGroup_45 : decode cX9_reckonGroup 45 = .ok (.iaload, 1) := by decide +kernel
theorem dX9_reckonGroup_46 : decode cX9_reckonGroup 46 = .ok (.ifCond .ne 7, 3) := by decide +kernel
theorem dX9_reckonGroup_49 : decode cX9_reckonGroup 49 = .ok (.iconst 1, 1) := by decide +kernel
theorem dX9_reckonGroup_50 : decode cX9_reckonGroup 50 = .ok (.goto 4, 3) := by decide +kernel
theorem dX9_reckonGroup_53 : decode cX9_reckonGroup 53 = .ok (.iconst 0, 1) := by decide +kernel
theorem dX9_reckonGroup_54 : decode cX9_reckonGroup 54 = .ok (.iadd, 1) := by decide +kernel
theorem dX9_reckonGroup_55 : decode cX9_reckonGroup 55 = .ok (.istore_n 2, 1) := by decide +kernel
theorem dX9_reckonGroup_56 : decode cX9_reckonGroup 56 = .ok (.iload 4, 2) := by decide +kernel
theorem dX9_reckonGroup_58 : decode cX9_reckonGroup 58 = .ok (.aload_n 0, 1) := by decide +kernel
theorem dX9_reckonGroup_59 : decode cX9_reckonGroup 59 = .ok (.getfield 47, 3) := by decide +kernel
theorem dX9_reckonGroup_62 : decode cX9_reckonGroup 62 = .ok (.iload 8, 2) := by decide +kernel
theorem dX9_reckonGroup_64 : decode cX9_reckonGroup 64 = .ok (.iaload, 1) := by decide +kernel
theorem dX9_reckonGroup_65 : decode cX9_reckonGroup 65 = .ok (.ifCond .ne 17, 3) := by decide +kernel
theorem dX9_reckonGroup_68 : decode cX9_reckonGroup 68 = .ok (.aload_n 0, 1) := by decide +kernel
theorem dX9_reckonGroup_69 : decode cX9_reckonGroup 69 = .ok (.getfield 95, 3) := by decide +kernel
theorem dX9_reckonGroup_72 : decode cX9_reckonGroup 72 = .ok (.iload 8, 2) := by decide +kernel
theorem dX9_reckonGroup_74 : decode cX9_reckonGroup 74 = .ok (.baload, 1) := by decide +kernel
theorem dX9_reckonGroup_75 : decode cX9_reckonGroup 75 = .ok (.ifCond .eq 7, 3) := by decide +kernel
theorem dX9_reckonGroup_78 : decode cX9_reckonGroup 78 = .ok (.iconst 1, 1) := by decide +kernel
theorem dX9_reckonGroup_79 : decode cX9_reckonGroup 79 = .ok (.goto 4, 3) := by decide +kernel
theorem dX9_reckonGroup_82 : decode cX9_reckonGroup 82 = .ok (.iconst 0, 1) := by decide +kernel
theorem dX9_reckonGroup_83 : decode cX9_reckonGroup 83 = .ok (.iadd, 1) := by decide +kernel
theorem dX9_reckonGroup_84 : decode cX9_reckonGroup 84 = .ok (.istore 4, 2) := by decide +kernel
theorem dX9_reckonGroup_86 : decode cX9_reckonGroup 86 = .ok (.iload_n 3, 1) := by decide +kernel
theorem dX9_reckonGroup_87 : decode cX9_reckonGroup 87 = .ok (.aload_n 0, 1) := by decide +kernel
theorem dX9_reckonGroup_88 : decode cX9_reckonGroup 88 = .ok (.getfield 47, 3) := by decide +kernel
theorem dX9_reckonGroup_91 : decode cX9_reckonGroup 91 = .ok (.iload 8, 2) := by decide +kernel
theorem dX9_reckonGroup_93 : decode cX9_reckonGroup 93 = .ok (.iaload, 1) := by decide +kernel
theorem dX9_reckonGroup_94 : decode cX9_reckonGroup 94 = .ok (.iconst 1, 1) := by decide +kernel
theorem dX9_reckonGroup_95 : decode cX9_reckonGroup 95 = .ok (.if_icmp .ne 7, 3) := by decide +kernel
theorem dX9_reckonGroup_98 : decode cX9_reckonGroup 98 = .ok (.iconst 1, 1) := by decide +kernel
theorem dX9_reckonGroup_99 : decode cX9_reckonGroup 99 = .ok (.goto 4, 3) := by decide +kernel
theorem dX9_reckonGroup_102 : decode cX9_reckonGroup 102 = .ok (.iconst 0, 1) := by decide +kernel
theorem dX9_reckonGroup_103 : decode cX9_reckonGroup 103 = .ok (.iadd, 1) := by decide +kernel
theorem dX9_reckonGroup_104 : decode cX9_reckonGroup 104 = .ok (.istore_n 3, 1) := by decide +kernel
theorem dX9_reckonGroup_105 : decode cX9_reckonGroup 105 = .ok (.iload 5, 2) := by decide +kernel
theorem dX9_reckonGroup_107 : decode cX9_reckonGroup 107 = .ok (.ifCond .eq 49, 3) := by decide +kernel
theorem dX9_reckonGroup_110 : decode cX9_reckonGroup 110 = .ok (.aload_n 0, 1) := by decide +kernel
theorem dX9_reckonGroup_111 : decode cX9_reckonGroup 111 = .ok (.getfield 47, 3) := by decide +kernel
theorem dX9_reckonGroup_114 : decode cX9_reckonGroup 114 = .ok (.iload 8, 2) := by decide +kernel
theorem dX9_reckonGroup_116 : decode cX9_reckonGroup 116 = .ok (.iaload, 1) := by decide +kernel
theorem dX9_reckonGroup_117 : decode cX9_reckonGroup 117 = .ok (.iconst 1, 1) := by decide +kernel
theorem dX9_reckonGroup_118 : decode cX9_reckonGroup 118 = .ok (.if_icmp .ne 13, 3) := by decide +kernel
theorem dX9_reckonGroup_121 : decode cX9_reckonGroup 121 = .ok (.aload_n 0, 1) := by decide +kernel
theorem dX9_reckonGroup_122 : decode cX9_reckonGroup 122 = .ok (.getfield 95, 3) := by decide +kernel
theorem dX9_reckonGroup_125 : decode cX9_reckonGroup 125 = .ok (.iload 8, 2) := by decide +kernel
theorem dX9_reckonGroup_127 : decode cX9_reckonGroup 127 = .ok (.baload, 1) := by decide +kernel
theorem dX9_reckonGroup_128 : decode cX9_reckonGroup 128 = .ok (.ifCond .eq 28, 3) := by decide +kernel
theorem dX9_reckonGroup_131 : decode cX9_reckonGroup 131 = .ok (.aload_n 0, 1) := by decide +kernel
theorem dX9_reckonGroup_132 : decode cX9_reckonGroup 132 = .ok (.getfield 47, 3) := by decide +kernel
theorem dX9_reckonGroup_135 : decode cX9_reckonGroup 135 = .ok (.iload 8, 2) := by decide +kernel
theorem dX9_reckonGroup_137 : decode cX9_reckonGroup 137 = .ok (.iaload, 1) := by decide +kernel
theorem dX9_reckonGroup_138 : decode cX9_reckonGroup 138 = .ok (.iconst 2, 1) := by decide +kernel
theorem dX9_reckonGroup_139 : decode cX9_reckonGroup 139 = .ok (.if_icmp .ne 13, 3) := by decide +kernel
theorem dX9_reckonGroup_142 : decode cX9_reckonGroup 142 = .ok (.aload_n 0, 1) := by decide +kernel
theorem dX9_reckonGroup_143 : decode cX9_reckonGroup 143 = .ok (.getfield 95, 3) := by decide +kernel
theorem dX9_reckonGroup_146 : decode cX9_reckonGroup 146 = .ok (.iload 8, 2) := by decide +kernel
theorem dX9_reckonGroup_148 : decode cX9_reckonGroup 148 = .ok (.baload, 1) := by decide +kernel
theorem dX9_reckonGroup_149 : decode cX9_reckonGroup 149 = .ok (.ifCond .ne 7, 3) := by decide +kernel
theorem dX9_reckonGroup_152 : decode cX9_reckonGroup 152 = .ok (.iconst 1, 1) := by decide +kernel
theorem dX9_reckonGroup_153 : decode cX9_reckonGroup 153 = .ok (.goto 4, 3) := by decide +kernel
theorem dX9_reckonGroup_156 : decode cX9_reckonGroup 156 = .ok (.iconst 0, 1) := by decide +kernel
theorem dX9_reckonGroup_157 : decode cX9_reckonGroup 157 = .ok (.istore 5, 2) := by decide +kernel
theorem dX9_reckonGroup_159 : decode cX9_reckonGroup 159 = .ok (.lload 6, 2) := by decide +kernel
theorem dX9_reckonGroup_161 : decode cX9_reckonGroup 161 = .ok (.aload_n 0, 1) := by decide +kernel
theorem dX9_reckonGroup_162 : decode cX9_reckonGroup 162 = .ok (.getfield 47, 3) := by decide +kernel
theorem dX9_reckonGroup_165 : decode cX9_reckonGroup 165 = .ok (.iload 8, 2) := by decide +kernel
theorem dX9_reckonGroup_167 : decode cX9_reckonGroup 167 = .ok (.iaload, 1) := by decide +kernel
theorem dX9_reckonGroup_168 : decode cX9_reckonGroup 168 = .ok (.iconst 2, 1) := by decide +kernel
theorem dX9_reckonGroup_169 : decode cX9_reckonGroup 169 = .ok (.if_icmp .eq 23, 3) := by decide +kernel
theorem dX9_reckonGroup_172 : decode cX9_reckonGroup 172 = .ok (.aload_n 0, 1) := by decide +kernel
theorem dX9_reckonGroup_173 : decode cX9_reckonGroup 173 = .ok (.getfield 95, 3) := by decide +kernel
theorem dX9_reckonGroup_176 : decode cX9_reckonGroup 176 = .ok (.iload 8, 2) := by decide +kernel
theorem dX9_reckonGroup_178 : decode cX9_reckonGroup 178 = .ok (.baload, 1) := by decide +kernel
theorem dX9_reckonGroup_179 : decode cX9_reckonGroup 179 = .ok (.ifCond .eq 13, 3) := by decide +kernel
theorem dX9_reckonGroup_182 : decode cX9_reckonGroup 182 = .ok (.aload_n 0, 1) := by decide +kernel
theorem dX9_reckonGroup_183 : decode cX9_reckonGroup 183 = .ok (.getfield 99, 3) := by decide +kernel
theorem dX9_reckonGroup_186 : decode cX9_reckonGroup 186 = .ok (.iload 8, 2) := by decide +kernel
theorem dX9_reckonGroup_188 : decode cX9_reckonGroup 188 = .ok (.laload, 1) := by decide +kernel
theorem dX9_reckonGroup_189 : decode cX9_reckonGroup 189 = .ok (.goto 4, 3) := by decide +kernel
theorem dX9_reckonGroup_192 : decode cX9_reckonGroup 192 = .ok (.lconst 0, 1) := by decide +kernel
theorem dX9_reckonGroup_193 : decode cX9_reckonGroup 193 = .ok (.ladd, 1) := by decide +kernel
theorem dX9_reckonGroup_194 : decode cX9_reckonGroup 194 = .ok (.lstore 6, 2) := by decide +kernel
theorem dX9_reckonGroup_196 : decode cX9_reckonGroup 196 = .ok (.iinc 8 1, 3) := by decide +kernel
theorem dX9_reckonGroup_199 : decode cX9_reckonGroup 199 = .ok (.goto (-181), 3) := by decide +kernel
theorem dX9_reckonGroup_202 : decode cX9_reckonGroup 202 = .ok (.aload_n 0, 1) := by decide +kernel
theorem dX9_reckonGroup_203 : decode cX9_reckonGroup 203 = .ok (.getfield 56, 3) := by decide +kernel
theorem dX9_reckonGroup_206 : decode cX9_reckonGroup 206 = .ok (.iload_n 1, 1) := by decide +kernel
theorem dX9_reckonGroup_207 : decode cX9_reckonGroup 207 = .ok (.iaload, 1) := by decide +kernel
theorem dX9_reckonGroup_208 : decode cX9_reckonGroup 208 = .ok (.iconst (-1), 1) := by decide +kernel
theorem dX9_reckonGroup_209 : decode cX9_reckonGroup 209 = .ok (.if_icmp .eq 12, 3) := by decide +kernel
theorem dX9_reckonGroup_212 : decode cX9_reckonGroup 212 = .ok (.aload_n 0, 1) := by decide +kernel
theorem dX9_reckonGroup_213 : decode cX9_reckonGroup 213 = .ok (.getfield 56, 3) := by decide +kernel
theorem dX9_reckonGroup_216 : decode cX9_reckonGroup 216 = .ok (.iload_n 1, 1) := by decide +kernel
theorem dX9_reckonGroup_217 : decode cX9_reckonGroup 217 = .ok (.iaload, 1) := by decide +kernel
theorem dX9_reckonGroup_218 : decode cX9_reckonGroup 218 = .ok (.goto 16, 3) := by decide +kernel
theorem dX9_reckonGroup_221 : decode cX9_reckonGroup 221 = .ok (.iload_n 3, 1) := by decide +kernel
theorem dX9_reckonGroup_222 : decode cX9_reckonGroup 222 = .ok (.ifCond .gt 7, 3) := by decide +kernel
theorem dX9_reckonGroup_225 : decode cX9_reckonGroup 225 = .ok (.iload_n 2, 1) := by decide +kernel
theorem dX9_reckonGroup_226 : decode cX9_reckonGroup 226 = .ok (.ifCond .ne 7, 3) := by decide +kernel
theorem dX9_reckonGroup_229 : decode cX9_reckonGroup 229 = .ok (.iconst 0, 1) := by decide +kernel
theorem dX9_reckonGroup_230 : decode cX9_reckonGroup 230 = .ok (.goto 4, 3) := by decide +kernel
theorem dX9_reckonGroup_233 : decode cX9_reckonGroup 233 = .ok (.iconst 1, 1) := by decide +kernel
theorem dX9_reckonGroup_234 : decode cX9_reckonGroup 234 = .ok (.istore 8, 2) := by decide +kernel
theorem dX9_reckonGroup_236 : decode cX9_reckonGroup 236 = .ok (.aload_n 0, 1) := by decide +kernel
theorem dX9_reckonGroup_237 : decode cX9_reckonGroup 237 = .ok (.getfield 95, 3) := by decide +kernel
theorem dX9_reckonGroup_240 : decode cX9_reckonGroup 240 = .ok (.iload_n 1, 1) := by decide +kernel
theorem dX9_reckonGroup_241 : decode cX9_reckonGroup 241 = .ok (.iload 5, 2) := by decide +kernel
theorem dX9_reckonGroup_243 : decode cX9_reckonGroup 243 = .ok (.ifCond .eq 14, 3) := by decide +kernel
theorem dX9_reckonGroup_246 : decode cX9_reckonGroup 246 = .ok (.iload 4, 2) := by decide +kernel
theorem dX9_reckonGroup_248 : decode cX9_reckonGroup 248 = .ok (.iload 8, 2) := by decide +kernel
theorem dX9_reckonGroup_250 : decode cX9_reckonGroup 250 = .ok (.if_icmp .lt 7, 3) := by decide +kernel
theorem dX9_reckonGroup_253 : decode cX9_reckonGroup 253 = .ok (.iconst 1, 1) := by decide +kernel
theorem dX9_reckonGroup_254 : decode cX9_reckonGroup 254 = .ok (.goto 4, 3) := by decide +kernel
theorem dX9_reckonGroup_257 : decode cX9_reckonGroup 257 = .ok (.iconst 0, 1) := by decide +kernel
theorem dX9_reckonGroup_258 : decode cX9_reckonGroup 258 = .ok (.bastore, 1) := by decide +kernel
theorem dX9_reckonGroup_259 : decode cX9_reckonGroup 259 = .ok (.aload_n 0, 1) := by decide +kernel
theorem dX9_reckonGroup_260 : decode cX9_reckonGroup 260 = .ok (.getfield 99, 3) := by decide +kernel
theorem dX9_reckonGroup_263 : decode cX9_reckonGroup 263 = .ok (.iload_n 1, 1) := by decide +kernel
theorem dX9_reckonGroup_264 : decode cX9_reckonGroup 264 = .ok (.aload_n 0, 1) := by decide +kernel
theorem dX9_reckonGroup_265 : decode cX9_reckonGroup 265 = .ok (.getfield 95, 3) := by decide +kernel
theorem dX9_reckonGroup_268 : decode cX9_reckonGroup 268 = .ok (.iload_n 1, 1) := by decide +kernel
theorem dX9_reckonGroup_269 : decode cX9_reckonGroup 269 = .ok (.baload, 1) := by decide +kernel
theorem dX9_reckonGroup_270 : decode cX9_reckonGroup 270 = .ok (.ifCond .eq 16, 3) := by decide +kernel
theorem dX9_reckonGroup_273 : decode cX9_reckonGroup 273 = .ok (.aload_n 0, 1) := by decide +kernel
theorem dX9_reckonGroup_274 : decode cX9_reckonGroup 274 = .ok (.getfield 50, 3) := by decide +kernel
theorem dX9_reckonGroup_277 : decode cX9_reckonGroup 277 = .ok (.iload_n 1, 1) := by decide +kernel
theorem dX9_reckonGroup_278 : decode cX9_reckonGroup 278 = .ok (.iaload, 1) := by decide +kernel
theorem dX9_reckonGroup_279 : decode cX9_reckonGroup 279 = .ok (.i2l, 1) := by decide +kernel
theorem dX9_reckonGroup_280 : decode cX9_reckonGroup 280 = .ok (.lload 6, 2) := by decide +kernel
theorem dX9_reckonGroup_282 : decode cX9_reckonGroup 282 = .ok (.lmul, 1) := by decide +kernel
theorem dX9_reckonGroup_283 : decode cX9_reckonGroup 283 = .ok (.goto 4, 3) := by decide +kernel
theorem dX9_reckonGroup_286 : decode cX9_reckonGroup 286 = .ok (.lconst 0, 1) := by decide +kernel
theorem dX9_reckonGroup_287 : decode cX9_reckonGroup 287 = .ok (.lastore, 1) := by decide +kernel
theorem dX9_reckonGroup_288 : decode cX9_reckonGroup 288 = .ok (.return_, 1) := by decide +kernel
theorem dX9_reckon_0 : decode cX9_reckon 0 = .ok (.iconst 0, 1) := by decide +kernel
theorem dX9_reckon_1 : decode cX9_reckon 1 = .ok (.istore_n 2, 1) := by decide +kernel
theorem dX9_reckon_2 : decode cX9_reckon 2 = .ok (.iload_n 2, 1) := by decide +kernel
theorem dX9_reckon_3 : decode cX9_reckon 3 = .ok (.aload_n 0, 1) := by decide +kernel
theorem dX9_reckon_4 : decode cX9_reckon 4 = .ok (.getfield 112, 3) := by decide +kernel
theorem dX9_reckon_7 : decode cX9_reckon 7 = .ok (.if_icmp .ge 49, 3) := by decide +kernel
theorem dX9_reckon_10 : decode cX9_reckon 10 = .ok (.aload_n 0, 1) := by decide +kernel
theorem dX9_reckon_11 : decode cX9_reckon 11 = .ok (.getfield 103, 3) := by decide +kernel
theorem dX9_reckon_14 : decode cX9_reckon 14 = .ok (.iload_n 2, 1) := by decide +kernel
theorem dX9_reckon_15 : decode cX9_reckon 15 = .ok (.aload_n 0, 1) := by decide +kernel
theorem dX9_reckon_16 : decode cX9_reckon 16 = .ok (.getfield 53, 3) := by decide +kernel
theorem dX9_reckon_19 : decode cX9_reckon 19 = .ok (.iload_n 2, 1) := by decide +kernel
theorem dX9_reckon_20 : decode cX9_reckon 20 = .ok (.iaload, 1) := by decide +kernel
theorem dX9_reckon_21 : decode cX9_reckon 21 = .ok (.iconst (-1), 1) := by decide +kernel
theorem dX9_reckon_22 : decode cX9_reckon 22 = .ok (.if_icmp .ne 7, 3) := by decide +kernel
theorem dX9_reckon_25 : decode cX9_reckon 25 = .ok (.iload_n 2, 1) := by decide +kernel
theorem dX9_reckon_26 : decode cX9_reckon 26 = .ok (.ifCond .ne 12, 3) := by decide +kernel
theorem dX9_reckon_29 : decode cX9_reckon 29 = .ok (.aload_n 0, 1) := by decide +kernel
theorem dX9_reckon_30 : decode cX9_reckon 30 = .ok (.getfield 53, 3) := by decide +kernel
theorem dX9_reckon_33 : decode cX9_reckon 33 = .ok (.iload_n 2, 1) := by decide +kernel
theorem dX9_reckon_34 : decode cX9_reckon 34 = .ok (.iaload, 1) := by decide +kernel
theorem dX9_reckon_35 : decode cX9_reckon 35 = .ok (.goto 14, 3) := by decide +kernel
theorem dX9_reckon_38 : decode cX9_reckon 38 = .ok (.aload_n 0, 1) := by decide +kernel
theorem dX9_reckon_39 : decode cX9_reckon 39 = .ok (.getfield 103, 3) := by decide +kernel
theorem dX9_reckon_42 : decode cX9_reckon 42 = .ok (.aload_n 0, 1) := by decide +kernel
theorem dX9_reckon_43 : decode cX9_reckon 43 = .ok (.getfield 59, 3) := by decide +kernel
theorem dX9_reckon_46 : decode cX9_reckon 46 = .ok (.iload_n 2, 1) := by decide +kernel
theorem dX9_reckon_47 : decode cX9_reckon 47 = .ok (.iaload, 1) := by decide +kernel
theorem dX9_reckon_48 : decode cX9_reckon 48 = .ok (.iaload, 1) := by decide +kernel
theorem dX9_reckon_49 : decode cX9_reckon 49 = .ok (.iastore, 1) := by decide +kernel
theorem dX9_reckon_50 : decode cX9_reckon 50 = .ok (.iinc 2 1, 3) := by decide +kernel
theorem dX9_reckon_53 : decode cX9_reckon 53 = .ok (.goto (-51), 3) := by decide +kernel
theorem dX9_reckon_56 : decode cX9_reckon 56 = .ok (.aload_n 0, 1) := by decide +kernel
theorem dX9_reckon_57 : decode cX9_reckon 57 = .ok (.getfield 112, 3) := by decide +kernel
theorem dX9_reckon_60 : decode cX9_reckon 60 = .ok (.iconst 1, 1) := by decide +kernel
theorem dX9_reckon_61 : decode cX9_reckon 61 = .ok (.isub, 1) := by decide +kernel
theorem dX9_reckon_62 : decode cX9_reckon 62 = .ok (.istore_n 2, 1) := by decide +kernel
theorem dX9_reckon_63 : decode cX9_reckon 63 = .ok (.iload_n 2, 1) := by decide +kernel
theorem dX9_reckon_64 : decode cX9_reckon 64 = .ok (.ifCond .lt 65, 3) := by decide +kernel
theorem dX9_reckon_67 : decode cX9_reckon 67 = .ok (.aload_n 0, 1) := by decide +kernel
theorem dX9_reckon_68 : decode cX9_reckon 68 = .ok (.getfield 44, 3) := by decide +kernel
theorem dX9_reckon_71 : decode cX9_reckon 71 = .ok (.iload_n 2, 1) := by decide +kernel
theorem dX9_reckon_72 : decode cX9_reckon 72 = .ok (.iaload, 1) := by decide +kernel
theorem dX9_reckon_73 : decode cX9_reckon 73 = .ok (.iconst 3, 1) := by decide +kernel
theorem dX9_reckon_74 : decode cX9_reckon 74 = .ok (.if_icmp .ne 11, 3) := by decide +kernel
theorem dX9_reckon_77 : decode cX9_reckon 77 = .ok (.aload_n 0, 1) := by decide +kernel
theorem dX9_reckon_78 : decode cX9_reckon 78 = .ok (.iload_n 2, 1) := by decide +kernel
theorem dX9_reckon_79 : decode cX9_reckon 79 = .ok (.invokevirtual 239, 3) := by decide +kernel
theorem dX9_reckon_82 : decode cX9_reckon 82 = .ok (.goto 41, 3) := by decide +kernel
theorem dX9_reckon_85 : decode cX9_reckon 85 = .ok (.aload_n 0, 1) := by decide +kernel
theorem dX9_reckon_86 : decode cX9_reckon 86 = .ok (.iload_n 2, 1) := by decide +kernel
theorem dX9_reckon_87 : decode cX9_reckon 87 = .ok (.iload_n 1, 1) := by decide +kernel
theorem dX9_reckon_88 : decode cX9_reckon 88 = .ok (.invokevirtual 242, 3) := by decide +kernel
theorem dX9_reckon_91 : decode cX9_reckon 91 = .ok (.istore_n 3, 1) := by decide +kernel
theorem dX9_reckon_92 : decode cX9_reckon 92 = .ok (.aload_n 0, 1) := by decide +kernel
theorem dX9_reckon_93 : decode cX9_reckon 93 = .ok (.getfield 95, 3) := by decide +kernel
theorem dX9_reckon_96 : decode cX9_reckon 96 = .ok (.iload_n 2, 1) := by decide +kernel
theorem dX9_reckon_97 : decode cX9_reckon 97 = .ok (.iload_n 3, 1) := by decide +kernel
theorem dX9_reckon_98 : decode cX9_reckon 98 = .ok (.ifCond .le 7, 3) := by decide +kernel
theorem dX9_reckon_101 : decode cX9_reckon 101 = .ok (.iconst 1, 1) := by decide +kernel
theorem dX9_reckon_102 : decode cX9_reckon 102 = .ok (.goto 4, 3) := by decide +kernel
theorem dX9_reckon_105 : decode cX9_reckon 105 = .ok (.iconst 0, 1) := by decide +kernel
theorem dX9_reckon_106 : decode cX9_reckon 106 = .ok (.bastore, 1) := by decide +kernel
theorem dX9_reckon_107 : decode cX9_reckon 107 = .ok (.aload_n 0, 1) := by decide +kernel
theorem dX9_reckon_108 : decode cX9_reckon 108 = .ok (.getfield 99, 3) := by decide +kernel
theorem dX9_reckon_111 : decode cX9_reckon 111 = .ok (.iload_n 2, 1) := by decide +kernel
theorem dX9_reckon_112 : decode cX9_reckon 112 = .ok (.aload_n 0, 1) := by decide +kernel
theorem dX9_reckon_113 : decode cX9_reckon 113 = .ok (.getfield 50, 3) := by decide +kernel
theorem dX9_reckon_116 : decode cX9_reckon 116 = .ok (.iload_n 2, 1) := by decide +kernel
theorem dX9_reckon_117 : decode cX9_reckon 117 = .ok (.iaload, 1) := by decide +kernel
theorem dX9_reckon_118 : decode cX9_reckon 118 = .ok (.i2l, 1) := by decide +kernel
theorem dX9_reckon_119 : decode cX9_reckon 119 = .ok (.iload_n 3, 1) := by decide +kernel
theorem dX9_reckon_120 : decode cX9_reckon 120 = .ok (.i2l, 1) := by decide +kernel
theorem dX9_reckon_121 : decode cX9_reckon 121 = .ok (.lmul, 1) := by decide +kernel
theorem dX9_reckon_122 : decode cX9_reckon 122 = .ok (.lastore, 1) := by decide +kernel
theorem dX9_reckon_123 : decode cX9_reckon 123 = .ok (.iinc 2 (-1), 3) := by decide +kernel
theorem dX9_reckon_126 : decode cX9_reckon 126 = .ok (.goto (-63), 3) := by decide +kernel
theorem dX9_reckon_129 : decode cX9_reckon 129 = .ok (.return_, 1) := by decide +kernel
theorem dX9_fits_0 : decode cX9_fits 0 = .ok (.aload_n 0, 1) := by decide +kernel
theorem dX9_fits_1 : decode cX9_fits 1 = .ok (.iconst 0, 1) := by decide +kernel
theorem dX9_fits_2 : decode cX9_fits 2 = .ok (.putfield 1, 3) := by decide +kernel
theorem dX9_fits_5 : decode cX9_fits 5 = .ok (.aload_n 0, 1) := by decide +kernel
theorem dX9_fits_6 : decode cX9_fits 6 = .ok (.iload_n 1, 1) := by decide +kernel
theorem dX9_fits_7 : decode cX9_fits 7 = .ok (.invokevirtual 193, 3) := by decide +kernel
theorem dX9_fits_10 : decode cX9_fits 10 = .ok (.ifCond .eq 10, 3) := by decide +kernel
theorem dX9_fits_13 : decode cX9_fits 13 = .ok (.iload_n 2, 1) := by decide +kernel
theorem dX9_fits_14 : decode cX9_fits 14 = .ok (.invokestatic 214, 3) := by decide +kernel
theorem dX9_fits_17 : decode cX9_fits 17 = .ok (.ifCond .ne 6, 3) := by decide +kernel
theorem dX9_fits_20 : decode cX9_fits 20 = .ok (.bipush (-101), 2) := by decide +kernel
theorem dX9_fits_22 : decode cX9_fits 22 = .ok (.ireturn, 1) := by decide +kernel
theorem dX9_fits_23 : decode cX9_fits 23 = .ok (.aload_n 0, 1) := by decide +kernel
theorem dX9_fits_24 : decode cX9_fits 24 = .ok (.iload_n 2, 1) := by decide +kernel
theorem dX9_fits_25 : decode cX9_fits 25 = .ok (.invokevirtual 245, 3) := by decide +kernel
theorem dX9_fits_28 : decode cX9_fits 28 = .ok (.aload_n 0, 1) := by decide +kernel
theorem dX9_fits_29 : decode cX9_fits 29 = .ok (.getfield 95, 3) := by decide +kernel
theorem dX9_fits_32 : decode cX9_fits 32 = .ok (.iload_n 1, 1) := by decide +kernel
theorem dX9_fits_33 : decode cX9_fits 33 = .ok (.baload, 1) := by decide +kernel
theorem dX9_fits_34 : decode cX9_fits 34 = .ok (.ifCond .eq 7, 3) := by decide +kernel
theorem dX9_fits_37 : decode cX9_fits 37 = .ok (.iconst 1, 1) := by decide +kernel
theorem dX9_fits_38 : decode cX9_fits 38 = .ok (.goto 4, 3) := by decide +kernel
theorem dX9_fits_41 : decode cX9_fits 41 = .ok (.iconst 0, 1) := by decide +kernel
theorem dX9_fits_42 : decode cX9_fits 42 = .ok (.ireturn, 1) := by decide +kernel
theorem dX9_worth_0 : decode cX9_worth 0 = .ok (.aload_n 0, 1) := by decide +kernel
theorem dX9_worth_1 : decode cX9_worth 1 = .ok (.iconst 0, 1) := by decide +kernel
theorem dX9_worth_2 : decode cX9_worth 2 = .ok (.putfield 1, 3) := by decide +kernel
theorem dX9_worth_5 : decode cX9_worth 5 = .ok (.aload_n 0, 1) := by decide +kernel
theorem dX9_worth_6 : decode cX9_worth 6 = .ok (.iload_n 1, 1) := by decide +kernel
theorem dX9_worth_7 : decode cX9_worth 7 = .ok (.invokevirtual 193, 3) := by decide +kernel
theorem dX9_worth_10 : decode cX9_worth 10 = .ok (.ifCond .eq 10, 3) := by decide +kernel
theorem dX9_worth_13 : decode cX9_worth 13 = .ok (.iload_n 2, 1) := by decide +kernel
theorem dX9_worth_14 : decode cX9_worth 14 = .ok (.invokestatic 214, 3) := by decide +kernel
theorem dX9_worth_17 : decode cX9_worth 17 = .ok (.ifCond .ne 7, 3) := by decide +kernel
theorem dX9_worth_20 : decode cX9_worth 20 = .ok (.ldc2_w 248, 3) := by decide +kernel
theorem dX9_worth_23 : decode cX9_worth 23 = .ok (.lreturn, 1) := by decide +kernel
theorem dX9_worth_24 : decode cX9_worth 24 = .ok (.aload_n 0, 1) := by decide +kernel
theorem dX9_worth_25 : decode cX9_worth 25 = .ok (.iload_n 2, 1) := by decide +kernel
theorem dX9_worth_26 : decode cX9_worth 26 = .ok (.invokevirtual 245, 3) := by decide +kernel
theorem dX9_worth_29 : decode cX9_worth 29 = .ok (.aload_n 0, 1) := by decide +kernel
theorem dX9_worth_30 : decode cX9_worth 30 = .ok (.getfield 99, 3) := by decide +kernel
theorem dX9_worth_33 : decode cX9_worth 33 = .ok (.iload_n 1, 1) := by decide +kernel
theorem dX9_worth_34 : decode cX9_worth 34 = .ok (.laload, 1) := by decide +kernel
theorem dX9_worth_35 : decode cX9_worth 35 = .ok (.lreturn, 1) := by decide +kernel
theorem dX9_ratio_0 : decode cX9_ratio 0 = .ok (.aload_n 0, 1) := by decide +kernel
theorem dX9_ratio_1 : decode cX9_ratio 1 = .ok (.iconst 0, 1) := by decide +kernel
theorem dX9_ratio_2 : decode cX9_ratio 2 = .ok (.putfield 1, 3) := by decide +kernel
theorem dX9_ratio_5 : decode cX9_ratio 5 = .ok (.iload_n 1, 1) := by decide +kernel
theorem dX9_ratio_6 : decode cX9_ratio 6 = .ok (.invokestatic 214, 3) := by decide +kernel
theorem dX9_ratio_9 : decode cX9_ratio 9 = .ok (.ifCond .eq 10, 3) := by decide +kernel
theorem dX9_ratio_12 : decode cX9_ratio 12 = .ok (.iload_n 2, 1) := by decide +kernel
theorem dX9_ratio_13 : decode cX9_ratio 13 = .ok (.invokestatic 214, 3) := by decide +kernel
theorem dX9_ratio_16 : decode cX9_ratio 16 = .ok (.ifCond .ne 7, 3) := by decide +kernel
theorem dX9_ratio_19 : decode cX9_ratio 19 = .ok (.ldc2_w 248, 3) := by decide +kernel
theorem dX9_ratio_22 : decode cX9_ratio 22 = .ok (.lreturn, 1) := by decide +kernel
theorem dX9_ratio_23 : decode cX9_ratio 23 = .ok (.aload_n 0, 1) := by decide +kernel
theorem dX9_ratio_24 : decode cX9_ratio 24 = .ok (.getfield 112, 3) := by decide +kernel
theorem dX9_ratio_27 : decode cX9_ratio 27 = .ok (.ifCond .ne 7, 3) := by decide +kernel
theorem dX9_ratio_30 : decode cX9_ratio 30 = .ok (.ldc2_w 250, 3) := by decide +kernel
theorem dX9_ratio_33 : decode cX9_ratio 33 = .ok (.lreturn, 1) := by decide +kernel
theorem dX9_ratio_34 : decode cX9_ratio 34 = .ok (.aload_n 0, 1) := by decide +kernel
theorem dX9_ratio_35 : decode cX9_ratio 35 = .ok (.iload_n 2, 1) := by decide +kernel
theorem dX9_ratio_36 : decode cX9_ratio 36 = .ok (.invokevirtual 245, 3) := by decide +kernel
theorem dX9_ratio_39 : decode cX9_ratio 39 = .ok (.aload_n 0, 1) := by decide +kernel
theorem dX9_ratio_40 : decode cX9_ratio 40 = .ok (.getfield 99, 3) := by decide +kernel
theorem dX9_ratio_43 : decode cX9_ratio 43 = .ok (.iconst 0, 1) := by decide +kernel
theorem dX9_ratio_44 : decode cX9_ratio 44 = .ok (.laload, 1) := by decide +kernel
theorem dX9_ratio_45 : decode cX9_ratio 45 = .ok (.lstore_n 3, 1) := by decide +kernel
theorem dX9_ratio_46 : decode cX9_ratio 46 = .ok (.aload_n 0, 1) := by decide +kernel
theorem dX9_ratio_47 : decode cX9_ratio 47 = .ok (.iload_n 1, 1) := by decide +kernel
theorem dX9_ratio_48 : decode cX9_ratio 48 = .ok (.invokevirtual 245, 3) := by decide +kernel
theorem dX9_ratio_51 : decode cX9_ratio 51 = .ok (.aload_n 0, 1) := by decide +kernel
theorem dX9_ratio_52 : decode cX9_ratio 52 = .ok (.lload_n 3, 1) := by decide +kernel
theorem dX9_ratio_53 : decode cX9_ratio 53 = .ok (.lconst 0, 1) := by decide +kernel
theorem dX9_ratio_54 : decode cX9_ratio 54 = .ok (.lcmp, 1) := by decide +kernel
theorem dX9_ratio_55 : decode cX9_ratio 55 = .ok (.ifCond .ne 7, 3) := by decide +kernel
theorem dX9_ratio_58 : decode cX9_ratio 58 = .ok (.iconst 1, 1) := by decide +kernel
theorem dX9_ratio_59 : decode cX9_ratio 59 = .ok (.goto 4, 3) := by decide +kernel
theorem dX9_ratio_62 : decode cX9_ratio 62 = .ok (.iconst 0, 1) := by decide +kernel
theorem dX9_ratio_63 : decode cX9_ratio 63 = .ok (.putfield 1, 3) := by decide +kernel
theorem dX9_ratio_66 : decode cX9_ratio 66 = .ok (.aload_n 0, 1) := by decide +kernel
theorem dX9_ratio_67 : decode cX9_ratio 67 = .ok (.getfield 1, 3) := by decide +kernel
theorem dX9_ratio_70 : decode cX9_ratio 70 = .ok (.ifCond .le 7, 3) := by decide +kernel
theorem dX9_ratio_73 : decode cX9_ratio 73 = .ok (.lconst 0, 1) := by decide +kernel
theorem dX9_ratio_74 : decode cX9_ratio 74 = .ok (.goto 11, 3) := by decide +kernel
theorem dX9_ratio_77 : decode cX9_ratio 77 = .ok (.aload_n 0, 1) := by decide +kernel
theorem dX9_ratio_78 : decode cX9_ratio 78 = .ok (.getfield 99, 3) := by decide +kernel
theorem dX9_ratio_81 : decode cX9_ratio 81 = .ok (.iconst 0, 1) := by decide +kernel
theorem dX9_ratio_82 : decode cX9_ratio 82 = .ok (.laload, 1) := by decide +kernel
theorem dX9_ratio_83 : decode cX9_ratio 83 = .ok (.lload_n 3, 1) := by decide +kernel
theorem dX9_ratio_84 : decode cX9_ratio 84 = .ok (.ldiv, 1) := by decide +kernel
theorem dX9_ratio_85 : decode cX9_ratio 85 = .ok (.lreturn, 1) := by decide +kernel
theorem dX9_why_0 : decode cX9_why 0 = .ok (.aload_n 0, 1) := by decide +kernel
theorem dX9_why_1 : decode cX9_why 1 = .ok (.iconst 0, 1) := by decide +kernel
theorem dX9_why_2 : decode cX9_why 2 = .ok (.putfield 1, 3) := by decide +kernel
theorem dX9_why_5 : decode cX9_why 5 = .ok (.iload_n 1, 1) := by decide +kernel
theorem dX9_why_6 : decode cX9_why 6 = .ok (.invokestatic 214, 3) := by decide +kernel
theorem dX9_why_9 : decode cX9_why 9 = .ok (.ifCond .ne 6, 3) := by decide +kernel
theorem dX9_why_12 : decode cX9_why 12 = .ok (.bipush (-101), 2) := by decide +kernel
theorem dX9_why_14 : decode cX9_why 14 = .ok (.ireturn, 1) := by decide +kernel
theorem dX9_why_15 : decode cX9_why 15 = .ok (.aload_n 0, 1) := by decide +kernel
theorem dX9_why_16 : decode cX9_why 16 = .ok (.getfield 112, 3) := by decide +kernel
theorem dX9_why_19 : decode cX9_why 19 = .ok (.ifCond .ne 6, 3) := by decide +kernel
theorem dX9_why_22 : decode cX9_why 22 = .ok (.bipush (-104), 2) := by decide +kernel
theorem dX9_why_24 : decode cX9_why 24 = .ok (.ireturn, 1) := by decide +kernel
theorem dX9_why_25 : decode cX9_why 25 = .ok (.aload_n 0, 1) := by decide +kernel
theorem dX9_why_26 : decode cX9_why 26 = .ok (.iload_n 1, 1) := by decide +kernel
theorem dX9_why_27 : decode cX9_why 27 = .ok (.invokevirtual 245, 3) := by decide +kernel
theorem dX9_why_30 : decode cX9_why 30 = .ok (.aload_n 0, 1) := by decide +kernel
theorem dX9_why_31 : decode cX9_why 31 = .ok (.getfield 95, 3) := by decide +kernel
theorem dX9_why_34 : decode cX9_why 34 = .ok (.iconst 0, 1) := by decide +kernel
theorem dX9_why_35 : decode cX9_why 35 = .ok (.baload, 1) := by decide +kernel
theorem dX9_why_36 : decode cX9_why 36 = .ok (.ifCond .eq 5, 3) := by decide +kernel
theorem dX9_why_39 : decode cX9_why 39 = .ok (.iconst (-1), 1) := by decide +kernel
theorem dX9_why_40 : decode cX9_why 40 = .ok (.ireturn, 1) := by decide +kernel
theorem dX9_why_41 : decode cX9_why 41 = .ok (.iconst (-1), 1) := by decide +kernel
theorem dX9_why_42 : decode cX9_why 42 = .ok (.istore_n 2, 1) := by decide +kernel
theorem dX9_why_43 : decode cX9_why 43 = .ok (.iconst 1, 1) := by decide +kernel
theorem dX9_why_44 : decode cX9_why 44 = .ok (.istore_n 3, 1) := by decide +kernel
theorem dX9_why_45 : decode cX9_why 45 = .ok (.iload_n 3, 1) := by decide +kernel
theorem dX9_why_46 : decode cX9_why 46 = .ok (.aload_n 0, 1) := by decide +kernel
theorem dX9_why_47 : decode cX9_why 47 = .ok (.getfield 112, 3) := by decide +kernel
theorem dX9_why_50 : decode cX9_why 50 = .ok (.if_icmp .ge 78, 3) := by decide +kernel
theorem dX9_why_53 : decode cX9_why 53 = .ok (.aload_n 0, 1) := by decide +kernel
theorem dX9_why_54 : decode cX9_why 54 = .ok (.getfield 59, 3) := by decide +kernel
theorem dX9_why_57 : decode cX9_why 57 = .ok (.iload_n 3, 1) := by decide +kernel
theorem dX9_why_58 : decode cX9_why 58 = .ok (.iaload, 1) := by decide +kernel
theorem dX9_why_59 : decode cX9_why 59 = .ok (.ifCond .ne 24, 3) := by decide +kernel
theorem dX9_why_62 : decode cX9_why 62 = .ok (.aload_n 0, 1) := by decide +kernel
theorem dX9_why_63 : decode cX9_why 63 = .ok (.getfield 47, 3) := by decide +kernel
theorem dX9_why_66 : decode cX9_why 66 = .ok (.iload_n 3, 1) := by decide +kernel
theorem dX9_why_67 : decode cX9_why 67 = .ok (.iaload, 1) := by decide +kernel
theorem dX9_why_68 : decode cX9_why 68 = .ok (.iconst 1, 1) := by decide +kernel
theorem dX9_why_69 : decode cX9_why 69 = .ok (.if_icmp .ne 14, 3) := by decide +kernel
theorem dX9_why_72 : decode cX9_why 72 = .ok (.aload_n 0, 1) := by decide +kernel
theorem dX9_why_73 : decode cX9_why 73 = .ok (.getfield 95, 3) := by decide +kernel
theorem dX9_why_76 : decode cX9_why 76 = .ok (.iload_n 3, 1) := by decide +kernel
theorem dX9_why_77 : decode cX9_why 77 = .ok (.baload, 1) := by decide +kernel
theorem dX9_why_78 : decode cX9_why 78 = .ok (.ifCond .ne 5, 3) := by decide +kernel
theorem dX9_why_81 : decode cX9_why 81 = .ok (.iload_n 3, 1) := by decide +kernel
theorem dX9_why_82 : decode cX9_why 82 = .ok (.ireturn, 1) := by decide +kernel
theorem dX9_why_83 : decode cX9_why 83 = .ok (.iload_n 2, 1) := by decide +kernel
theorem dX9_why_84 : decode cX9_why 84 = .ok (.iconst (-1), 1) := by decide +kernel
theorem dX9_why_85 : decode cX9_why 85 = .ok (.if_icmp .ne 35, 3) := by decide +kernel
theorem dX9_why_88 : decode cX9_why 88 = .ok (.aload_n 0, 1) := by decide +kernel
theorem dX9_why_89 : decode cX9_why 89 = .ok (.getfield 59, 3) := by decide +kernel
theorem dX9_why_92 : decode cX9_why 92 = .ok (.iload_n 3, 1) := by decide +kernel
theorem dX9_why_93 : decode cX9_why 93 = .ok (.iaload, 1) := by decide +kernel
theorem dX9_why_94 : decode cX9_why 94 = .ok (.ifCond .ne 26, 3) := by decide +kernel
theorem dX9_why_97 : decode cX9_why 97 = .ok (.aload_n 0, 1) := by decide +kernel
theorem dX9_why_98 : decode cX9_why 98 = .ok (.getfield 47, 3) := by decide +kernel
theorem dX9_why_101 : decode cX9_why 101 = .ok (.iload_n 3, 1) := by decide +kernel
theorem dX9_why_102 : decode cX9_why 102 = .ok (.iaload, 1) := by decide +kernel
theorem dX9_why_103 : decode cX9_why 103 = .ok (.iconst 2, 1) := by decide +kernel
theorem dX9_why_104 : decode cX9_why 104 = .ok (.if_icmp .ne 16, 3) := by decide +kernel
theorem dX9_why_107 : decode cX9_why 107 = .ok (.aload_n 0, 1) := by decide +kernel
theorem dX9_why_108 : decode cX9_why 108 = .ok (.getfield 95, 3) := by decide +kernel
theorem dX9_why_111 : decode cX9_why 111 = .ok (.iload_n 3, 1) := by decide +kernel
theorem dX9_why_112 : decode cX9_why 112 = .ok (.baload, 1) := by decide +kernel
theorem dX9_why_113 : decode cX9_why 113 = .ok (.ifCond .eq 7, 3) := by decide +kernel
theorem dX9_why_116 : decode cX9_why 116 = .ok (.iload_n 3, 1) := by decide +kernel
theorem dX9_why_117 : decode cX9_why 117 = .ok (.goto 4, 3) := by decide +kernel
theorem dX9_why_120 : decode cX9_why 120 = .ok (.iload_n 2, 1) := by decide +kernel
theorem dX9_why_121 : decode cX9_why 121 = .ok (.istore_n 2, 1) := by decide +kernel
theorem dX9_why_122 : decode cX9_why 122 = .ok (.iinc 3 1, 3) := by decide +kernel
theorem dX9_why_125 : decode cX9_why 125 = .ok (.goto (-80), 3) := by decide +kernel
theorem dX9_why_128 : decode cX9_why 128 = .ok (.iload_n 2, 1) := by decide +kernel
theorem dX9_why_129 : decode cX9_why 129 = .ok (.iconst (-1), 1) := by decide +kernel
theorem dX9_why_130 : decode cX9_why 130 = .ok (.if_icmp .ne 7, 3) := by decide +kernel
theorem dX9_why_133 : decode cX9_why 133 = .ok (.iconst 0, 1) := by decide +kernel
theorem dX9_why_134 : decode cX9_why 134 = .ok (.goto 4, 3) := by decide +kernel
theorem dX9_why_137 : decode cX9_why 137 = .ok (.iload_n 2, 1) := by decide +kernel
theorem dX9_why_138 : decode cX9_why 138 = .ok (.ireturn, 1) := by decide +kernel
theorem dX9_rank_0 : decode cX9_rank 0 = .ok (.aload_n 0, 1) := by decide +kernel
theorem dX9_rank_1 : decode cX9_rank 1 = .ok (.iconst 0, 1) := by decide +kernel
theorem dX9_rank_2 : decode cX9_rank 2 = .ok (.putfield 1, 3) := by decide +kernel
theorem dX9_rank_5 : decode cX9_rank 5 = .ok (.aload_n 0, 1) := by decide +kernel
theorem dX9_rank_6 : decode cX9_rank 6 = .ok (.getfield 112, 3) := by decide +kernel
theorem dX9_rank_9 : decode cX9_rank 9 = .ok (.ifCond .ne 6, 3) := by decide +kernel
theorem dX9_rank_12 : decode cX9_rank 12 = .ok (.bipush (-104), 2) := by decide +kernel
theorem dX9_rank_14 : decode cX9_rank 14 = .ok (.ireturn, 1) := by decide +kernel
theorem dX9_rank_15 : decode cX9_rank 15 = .ok (.iconst 0, 1) := by decide +kernel
theorem dX9_rank_16 : decode cX9_rank 16 = .ok (.istore_n 2, 1) := by decide +kernel
theorem dX9_rank_17 : decode cX9_rank 17 = .ok (.iload_n 2, 1) := by decide +kernel
theorem dX9_rank_18 : decode cX9_rank 18 = .ok (.bipush 8, 2) := by decide +kernel
theorem dX9_rank_20 : decode cX9_rank 20 = .ok (.if_icmp .ge 38, 3) := by decide +kernel
theorem dX9_rank_23 : decode cX9_rank 23 = .ok (.aload_n 0, 1) := by decide +kernel
theorem dX9_rank_24 : decode cX9_rank 24 = .ok (.iload_n 2, 1) := by decide +kernel
theorem dX9_rank_25 : decode cX9_rank 25 = .ok (.invokevirtual 245, 3) := by decide +kernel
theorem dX9_rank_28 : decode cX9_rank 28 = .ok (.aload_n 0, 1) := by decide +kernel
theorem dX9_rank_29 : decode cX9_rank 29 = .ok (.getfield 106, 3) := by decide +kernel
theorem dX9_rank_32 : decode cX9_rank 32 = .ok (.iload_n 2, 1) := by decide +kernel
theorem dX9_rank_33 : decode cX9_rank 33 = .ok (.aload_n 0, 1) := by decide +kernel
theorem dX9_rank_34 : decode cX9_rank 34 = .ok (.getfield 95, 3) := by decide +kernel
theorem dX9_rank_37 : decode cX9_rank 37 = .ok (.iconst 0, 1) := by decide +kernel
theorem dX9_rank_38 : decode cX9_rank 38 = .ok (.baload, 1) := by decide +kernel
theorem dX9_rank_39 : decode cX9_rank 39 = .ok (.bastore, 1) := by decide +kernel
theorem dX9_rank_40 : decode cX9_rank 40 = .ok (.aload_n 0, 1) := by decide +kernel
theorem dX9_rank_41 : decode cX9_rank 41 = .ok (.getfield 109, 3) := by decide +kernel
theorem dX9_rank_44 : decode cX9_rank 44 = .ok (.iload_n 2, 1) := by decide +kernel
theorem dX9_rank_45 : decode cX9_rank 45 = .ok (.aload_n 0, 1) := by decide +kernel
theorem dX9_rank_46 : decode cX9_rank 46 = .ok (.getfield 99, 3) := by decide +kernel
theorem dX9_rank_49 : decode cX9_rank 49 = .ok (.iconst 0, 1) := by decide +kernel
theorem dX9_rank_50 : decode cX9_rank 50 = .ok (.laload, 1) := by decide +kernel
theorem dX9_rank_51 : decode cX9_rank 51 = .ok (.lastore, 1) := by decide +kernel
theorem dX9_rank_52 : decode cX9_rank 52 = .ok (.iinc 2 1, 3) := by decide +kernel
theorem dX9_rank_55 : decode cX9_rank 55 = .ok (.goto (-38), 3) := by decide +kernel
theorem dX9_rank_58 : decode cX9_rank 58 = .ok (.iconst 0, 1) := by decide +kernel
theorem dX9_rank_59 : decode cX9_rank 59 = .ok (.istore_n 2, 1) := by decide +kernel
theorem dX9_rank_60 : decode cX9_rank 60 = .ok (.iload_n 2, 1) := by decide +kernel
theorem dX9_rank_61 : decode cX9_rank 61 = .ok (.bipush 8, 2) := by decide +kernel
theorem dX9_rank_63 : decode cX9_rank 63 = .ok (.if_icmp .ge 113, 3) := by decide +kernel
theorem dX9_rank_66 : decode cX9_rank 66 = .ok (.iconst 0, 1) := by decide +kernel
theorem dX9_rank_67 : decode cX9_rank 67 = .ok (.istore_n 3, 1) := by decide +kernel
theorem dX9_rank_68 : decode cX9_rank 68 = .ok (.iconst 0, 1) := by decide +kernel
theorem dX9_rank_69 : decode cX9_rank 69 = .ok (.istore 4, 2) := by decide +kernel
theorem dX9_rank_71 : decode cX9_rank 71 = .ok (.iload 4, 2) := by decide +kernel
theorem dX9_rank_73 : decode cX9_rank 73 = .ok (.bipush 8, 2) := by decide +kernel
theorem dX9_rank_75 : decode cX9_rank 75 = .ok (.if_icmp .ge 79, 3) := by decide +kernel
theorem dX9_rank_78 : decode cX9_rank 78 = .ok (.aload_n 0, 1) := by decide +kernel
theorem dX9_rank_79 : decode cX9_rank 79 = .ok (.getfield 106, 3) := by decide +kernel
theorem dX9_rank_82 : decode cX9_rank 82 = .ok (.iload 4, 2) := by decide +kernel
theorem dX9_rank_84 : decode cX9_rank 84 = .ok (.baload, 1) := by decide +kernel
theorem dX9_rank_85 : decode cX9_rank 85 = .ok (.ifCond .eq 47, 3) := by decide +kernel
theorem dX9_rank_88 : decode cX9_rank 88 = .ok (.aload_n 0, 1) := by decide +kernel
theorem dX9_rank_89 : decode cX9_rank 89 = .ok (.getfield 109, 3) := by decide +kernel
theorem dX9_rank_92 : decode cX9_rank 92 = .ok (.iload 4, 2) := by decide +kernel
theorem dX9_rank_94 : decode cX9_rank 94 = .ok (.laload, 1) := by decide +kernel
theorem dX9_rank_95 : decode cX9_rank 95 = .ok (.aload_n 0, 1) := by decide +kernel
theorem dX9_rank_96 : decode cX9_rank 96 = .ok (.getfield 109, 3) := by decide +kernel
theorem dX9_rank_99 : decode cX9_rank 99 = .ok (.iload_n 2, 1) := by decide +kernel
theorem dX9_rank_100 : decode cX9_rank 100 = .ok (.laload, 1) := by decide +kernel
theorem dX9_rank_101 : decode cX9_rank 101 = .ok (.lcmp, 1) := by decide +kernel
theorem dX9_rank_102 : decode cX9_rank 102 = .ok (.ifCond .gt 26, 3) := by decide +kernel
theorem dX9_rank_105 : decode cX9_rank 105 = .ok (.aload_n 0, 1) := by decide +kernel
theorem dX9_rank_106 : decode cX9_rank 106 = .ok (.getfield 109, 3) := by decide +kernel
theorem dX9_rank_109 : decode cX9_rank 109 = .ok (.iload 4, 2) := by decide +kernel
theorem dX9_rank_111 : decode cX9_rank 111 = .ok (.laload, 1) := by decide +kernel
theorem dX9_rank_112 : decode cX9_rank 112 = .ok (.aload_n 0, 1) := by decide +kernel
theorem dX9_rank_113 : decode cX9_rank 113 = .ok (.getfield 109, 3) := by decide +kernel
theorem dX9_rank_116 : decode cX9_rank 116 = .ok (.iload_n 2, 1) := by decide +kernel
theorem dX9_rank_117 : decode cX9_rank 117 = .ok (.laload, 1) := by decide +kernel
theorem dX9_rank_118 : decode cX9_rank 118 = .ok (.lcmp, 1) := by decide +kernel
theorem dX9_rank_119 : decode cX9_rank 119 = .ok (.ifCond .ne 13, 3) := by decide +kernel
theorem dX9_rank_122 : decode cX9_rank 122 = .ok (.iload 4, 2) := by decide +kernel
theorem dX9_rank_124 : decode cX9_rank 124 = .ok (.iload_n 2, 1) := by decide +kernel
theorem dX9_rank_125 : decode cX9_rank 125 = .ok (.if_icmp .ge 7, 3) := by decide +kernel
theorem dX9_rank_128 : decode cX9_rank 128 = .ok (.iconst 1, 1) := by decide +kernel
theorem dX9_rank_129 : decode cX9_rank 129 = .ok (.goto 4, 3) := by decide +kernel
theorem dX9_rank_132 : decode cX9_rank 132 = .ok (.iconst 0, 1) := by decide +kernel
theorem dX9_rank_133 : decode cX9_rank 133 = .ok (.istore 5, 2) := by decide +kernel
theorem dX9_rank_135 : decode cX9_rank 135 = .ok (.iload_n 3, 1) := by decide +kernel
theorem dX9_rank_136 : decode cX9_rank 136 = .ok (.iload 5, 2) := by decide +kernel
theorem dX9_rank_138 : decode cX9_rank 138 = .ok (.ifCond .eq 7, 3) := by decide +kernel
theorem dX9_rank_141 : decode cX9_rank 141 = .ok (.iconst 1, 1) := by decide +kernel
theorem dX9_rank_142 : decode cX9_rank 142 = .ok (.goto 4, 3) := by decide +kernel
theorem dX9_rank_145 : decode cX9_rank 145 = .ok (.iconst 0, 1) := by decide +kernel
theorem dX9_rank_146 : decode cX9_rank 146 = .ok (.iadd, 1) := by decide +kernel
theorem dX9_rank_147 : decode cX9_rank 147 = .ok (.istore_n 3, 1) := by decide +kernel
theorem dX9_rank_148 : decode cX9_rank 148 = .ok (.iinc 4 1, 3) := by decide +kernel
theorem dX9_rank_151 : decode cX9_rank 151 = .ok (.goto (-80), 3) := by decide +kernel
theorem dX9_rank_154 : decode cX9_rank 154 = .ok (.aload_n 0, 1) := by decide +kernel
theorem dX9_rank_155 : decode cX9_rank 155 = .ok (.getfield 106, 3) := by decide +kernel
theorem dX9_rank_158 : decode cX9_rank 158 = .ok (.iload_n 2, 1) := by decide +kernel
theorem dX9_rank_159 : decode cX9_rank 159 = .ok (.baload, 1) := by decide +kernel
theorem dX9_rank_160 : decode cX9_rank 160 = .ok (.ifCond .eq 10, 3) := by decide +kernel
theorem dX9_rank_163 : decode cX9_rank 163 = .ok (.iload_n 3, 1) := by decide +kernel
theorem dX9_rank_164 : decode cX9_rank 164 = .ok (.iload_n 1, 1) := by decide +kernel
theorem dX9_rank_165 : decode cX9_rank 165 = .ok (.if_icmp .ne 5, 3) := by decide +kernel
theorem dX9_rank_168 : decode cX9_rank 168 = .ok (.iload_n 2, 1) := by decide +kernel
theorem dX9_rank_169 : decode cX9_rank 169 = .ok (.ireturn, 1) := by decide +kernel
theorem dX9_rank_170 : decode cX9_rank 170 = .ok (.iinc 2 1, 3) := by decide +kernel
theorem dX9_rank_173 : decode cX9_rank 173 = .ok (.goto (-113), 3) := by decide +kernel
theorem dX9_rank_176 : decode cX9_rank 176 = .ok (.iconst (-1), 1) := by decide +kernel
theorem dX9_rank_177 : decode cX9_rank 177 = .ok (.ireturn, 1) := by decide +kernel
theorem dJx00060_init_a7421_0 : decode cJx00060_init_a7421 0 = .ok (.aload_n 0, 1) := by decide +kernel
theorem dJx00060_init_a7421_1 : decode cJx00060_init_a7421 1 = .ok (.aload_n 1, 1) := by decide +kernel
theorem dJx00060_init_a7421_2 : decode cJx00060_init_a7421 2 = .ok (.invokespecial 7, 3) := by decide +kernel
theorem dJx00060_init_a7421_5 : decode cJx00060_init_a7421 5 = .ok (.return_, 1) := by decide +kernel
theorem dJx3273f_init_a7421_0 : decode cJx3273f_init_a7421 0 = .ok (.aload_n 0, 1) := by decide +kernel
theorem dJx3273f_init_a7421_1 : decode cJx3273f_init_a7421 1 = .ok (.aload_n 1, 1) := by decide +kernel
theorem dJx3273f_init_a7421_2 : decode cJx3273f_init_a7421 2 = .ok (.invokespecial 7, 3) := by decide +kernel
theorem dJx3273f_init_a7421_5 : decode cJx3273f_init_a7421 5 = .ok (.return_, 1) := by decide +kernel
theorem dJ9_floorDiv_f86c9_0 : decode cJ9_floorDiv_f86c9 0 = .ok (.lload_n 0, 1) := by decide +kernel
theorem dJ9_floorDiv_f86c9_1 : decode cJ9_floorDiv_f86c9 1 = .ok (.lload_n 2, 1) := by decide +kernel
theorem dJ9_floorDiv_f86c9_2 : decode cJ9_floorDiv_f86c9 2 = .ok (.ldiv, 1) := by decide +kernel
theorem dJ9_floorDiv_f86c9_3 : decode cJ9_floorDiv_f86c9 3 = .ok (.lstore 4, 2) := by decide +kernel
theorem dJ9_floorDiv_f86c9_5 : decode cJ9_floorDiv_f86c9 5 = .ok (.lload_n 0, 1) := by decide +kernel
theorem dJ9_floorDiv_f86c9_6 : decode cJ9_floorDiv_f86c9 6 = .ok (.lload_n 2, 1) := by decide +kernel
theorem dJ9_floorDiv_f86c9_7 : decode cJ9_floorDiv_f86c9 7 = .ok (.lxor, 1) := by decide +kernel
theorem dJ9_floorDiv_f86c9_8 : decode cJ9_floorDiv_f86c9 8 = .ok (.lconst 0, 1) := by decide +kernel
theorem dJ9_floorDiv_f86c9_9 : decode cJ9_floorDiv_f86c9 9 = .ok (.lcmp, 1) := by decide +kernel
theorem dJ9_floorDiv_f86c9_10 : decode cJ9_floorDiv_f86c9 10 = .ok (.ifCond .ge 17, 3) := by decide +kernel
theorem dJ9_floorDiv_f86c9_13 : decode cJ9_floorDiv_f86c9 13 = .ok (.lload 4, 2) := by decide +kernel
theorem dJ9_floorDiv_f86c9_15 : decode cJ9_floorDiv_f86c9 15 = .ok (.lload_n 2, 1) := by decide +kernel
theorem dJ9_floorDiv_f86c9_16 : decode cJ9_floorDiv_f86c9 16 = .ok (.lmul, 1) := by decide +kernel
theorem dJ9_floorDiv_f86c9_17 : decode cJ9_floorDiv_f86c9 17 = .ok (.lload_n 0, 1) := by decide +kernel
theorem dJ9_floorDiv_f86c9_18 : decode cJ9_floorDiv_f86c9 18 = .ok (.lcmp, 1) := by decide +kernel
theorem dJ9_floorDiv_f86c9_19 : decode cJ9_floorDiv_f86c9 19 = .ok (.ifCond .eq 8, 3) := by decide +kernel
theorem dJ9_floorDiv_f86c9_22 : decode cJ9_floorDiv_f86c9 22 = .ok (.lload 4, 2) := by decide +kernel
theorem dJ9_floorDiv_f86c9_24 : decode cJ9_floorDiv_f86c9 24 = .ok (.lconst 1, 1) := by decide +kernel
theorem dJ9_floorDiv_f86c9_25 : decode cJ9_floorDiv_f86c9 25 = .ok (.lsub, 1) := by decide +kernel
theorem dJ9_floorDiv_f86c9_26 : decode cJ9_floorDiv_f86c9 26 = .ok (.lreturn, 1) := by decide +kernel
theorem dJ9_floorDiv_f86c9_27 : decode cJ9_floorDiv_f86c9 27 = .ok (.lload 4, 2) := by decide +kernel
theorem dJ9_floorDiv_f86c9_29 : decode cJ9_floorDiv_f86c9 29 = .ok (.lreturn, 1) := by decide +kernel
theorem dJ9_max_f86c9_0 : decode cJ9_max_f86c9 0 = .ok (.lload_n 0, 1) := by decide +kernel
theorem dJ9_max_f86c9_1 : decode cJ9_max_f86c9 1 = .ok (.lload_n 2, 1) := by decide +kernel
theorem dJ9_max_f86c9_2 : decode cJ9_max_f86c9 2 = .ok (.lcmp, 1) := by decide +kernel
theorem dJ9_max_f86c9_3 : decode cJ9_max_f86c9 3 = .ok (.ifCond .lt 7, 3) := by decide +kernel
theorem dJ9_max_f86c9_6 : decode cJ9_max_f86c9 6 = .ok (.lload_n 0, 1) := by decide +kernel
theorem dJ9_max_f86c9_7 : decode cJ9_max_f86c9 7 = .ok (.goto 4, 3) := by decide +kernel
theorem dJ9_max_f86c9_10 : decode cJ9_max_f86c9 10 = .ok (.lload_n 2, 1) := by decide +kernel
theorem dJ9_max_f86c9_11 : decode cJ9_max_f86c9 11 = .ok (.lreturn, 1) := by decide +kernel
theorem dJ9_min_7cf53_0 : decode cJ9_min_7cf53 0 = .ok (.iload_n 0, 1) := by decide +kernel
theorem dJ9_min_7cf53_1 : decode cJ9_min_7cf53 1 = .ok (.iload_n 1, 1) := by decide +kernel
theorem dJ9_min_7cf53_2 : decode cJ9_min_7cf53 2 = .ok (.if_icmp .gt 7, 3) := by decide +kernel
theorem dJ9_min_7cf53_5 : decode cJ9_min_7cf53 5 = .ok (.iload_n 0, 1) := by decide +kernel
theorem dJ9_min_7cf53_6 : decode cJ9_min_7cf53 6 = .ok (.goto 4, 3) := by decide +kernel
theorem dJ9_min_7cf53_9 : decode cJ9_min_7cf53 9 = .ok (.iload_n 1, 1) := by decide +kernel
theorem dJ9_min_7cf53_10 : decode cJ9_min_7cf53 10 = .ok (.ireturn, 1) := by decide +kernel
theorem dJx5d777_init_da8c8_0 : decode cJx5d777_init_da8c8 0 = .ok (.aload_n 0, 1) := by decide +kernel
theorem dJx5d777_init_da8c8_1 : decode cJx5d777_init_da8c8 1 = .ok (.invokespecial 1, 3) := by decide +kernel
theorem dJx5d777_init_da8c8_4 : decode cJx5d777_init_da8c8 4 = .ok (.return_, 1) := by decide +kernel
theorem dJx5d777_init_a7421_0 : decode cJx5d777_init_a7421 0 = .ok (.aload_n 0, 1) := by decide +kernel
theorem dJx5d777_init_a7421_1 : decode cJx5d777_init_a7421 1 = .ok (.aload_n 1, 1) := by decide +kernel
theorem dJx5d777_init_a7421_2 : decode cJx5d777_init_a7421 2 = .ok (.invokespecial 7, 3) := by decide +kernel
theorem dJx5d777_init_a7421_5 : decode cJx5d777_init_a7421 5 = .ok (.return_, 1) := by decide +kernel
theorem dJx5d777_fillInStackTrace_cddbd_0 : decode cJx5d777_fillInStackTrace_cddbd 0 = .ok (.aload_n 0, 1) := by decide +kernel
theorem dJx5d777_fillInStackTrace_cddbd_1 : decode cJx5d777_fillInStackTrace_cddbd 1 = .ok (.getfield 10, 3) := by decide +kernel
theorem dJx5d777_fillInStackTrace_cddbd_4 : decode cJx5d777_fillInStackTrace_cddbd 4 = .ok (.ifCond .ne 11, 3) := by decide +kernel
theorem dJx5d777_fillInStackTrace_cddbd_7 : decode cJx5d777_fillInStackTrace_cddbd 7 = .ok (.aload_n 0, 1) := by decide +kernel
theorem dJx5d777_fillInStackTrace_cddbd_8 : decode cJx5d777_fillInStackTrace_cddbd 8 = .ok (.iconst 1, 1) := by decide +kernel
theorem dJx5d777_fillInStackTrace_cddbd_9 : decode cJx5d777_fillInStackTrace_cddbd 9 = .ok (.putfield 10, 3) := by decide +kernel
theorem dJx5d777_fillInStackTrace_cddbd_12 : decode cJx5d777_fillInStackTrace_cddbd 12 = .ok (.goto 24, 3) := by decide +kernel
theorem dJx5d777_fillInStackTrace_cddbd_15 : decode cJx5d777_fillInStackTrace_cddbd 15 = .ok (.aload_n 0, 1) := by decide +kernel
theorem dJx5d777_fillInStackTrace_cddbd_16 : decode cJx5d777_fillInStackTrace_cddbd 16 = .ok (.getfield 10, 3) := by decide +kernel
theorem dJx5d777_fillInStackTrace_cddbd_19 : decode cJx5d777_fillInStackTrace_cddbd 19 = .ok (.iconst 1, 1) := by decide +kernel
theorem dJx5d777_fillInStackTrace_cddbd_20 : decode cJx5d777_fillInStackTrace_cddbd 20 = .ok (.if_icmp .ne 16, 3) := by decide +kernel
theorem dJx5d777_fillInStackTrace_cddbd_23 : decode cJx5d777_fillInStackTrace_cddbd 23 = .ok (.aload_n 0, 1) := by decide +kernel
theorem dJx5d777_fillInStackTrace_cddbd_24 : decode cJx5d777_fillInStackTrace_cddbd 24 = .ok (.aload_n 0, 1) := by decide +kernel
theorem dJx5d777_fillInStackTrace_cddbd_25 : decode cJx5d777_fillInStackTrace_cddbd 25 = .ok (.invokevirtual 16, 3) := by decide +kernel
theorem dJx5d777_fillInStackTrace_cddbd_28 : decode cJx5d777_fillInStackTrace_cddbd 28 = .ok (.putfield 20, 3) := by decide +kernel
theorem dJx5d777_fillInStackTrace_cddbd_31 : decode cJx5d777_fillInStackTrace_cddbd 31 = .ok (.aload_n 0, 1) := by decide +kernel
theorem dJx5d777_fillInStackTrace_cddbd_32 : decode cJx5d777_fillInStackTrace_cddbd 32 = .ok (.iconst 2, 1) := by decide +kernel
theorem dJx5d777_fillInStackTrace_cddbd_33 : decode cJx5d777_fillInStackTrace_cddbd 33 = .ok (.putfield 10, 3) := by decide +kernel
theorem dJx5d777_fillInStackTrace_cddbd_36 : decode cJx5d777_fillInStackTrace_cddbd 36 = .ok (.aload_n 0, 1) := by decide +kernel
theorem dJx5d777_fillInStackTrace_cddbd_37 : decode cJx5d777_fillInStackTrace_cddbd 37 = .ok (.invokespecial 24, 3) := by decide +kernel
theorem dJx5d777_fillInStackTrace_cddbd_40 : decode cJx5d777_fillInStackTrace_cddbd 40 = .ok (.areturn, 1) := by decide +kernel
theorem dJ7_fill_d0a16_0 : decode cJ7_fill_d0a16 0 = .ok (.iconst 0, 1) := by decide +kernel
theorem dJ7_fill_d0a16_1 : decode cJ7_fill_d0a16 1 = .ok (.istore_n 3, 1) := by decide +kernel
theorem dJ7_fill_d0a16_2 : decode cJ7_fill_d0a16 2 = .ok (.aload_n 0, 1) := by decide +kernel
theorem dJ7_fill_d0a16_3 : decode cJ7_fill_d0a16 3 = .ok (.arraylength, 1) := by decide +kernel
theorem dJ7_fill_d0a16_4 : decode cJ7_fill_d0a16 4 = .ok (.istore 4, 2) := by decide +kernel
theorem dJ7_fill_d0a16_6 : decode cJ7_fill_d0a16 6 = .ok (.iload_n 3, 1) := by decide +kernel
theorem dJ7_fill_d0a16_7 : decode cJ7_fill_d0a16 7 = .ok (.iload 4, 2) := by decide +kernel
theorem dJ7_fill_d0a16_9 : decode cJ7_fill_d0a16 9 = .ok (.if_icmp .ge 13, 3) := by decide +kernel
theorem dJ7_fill_d0a16_12 : decode cJ7_fill_d0a16 12 = .ok (.aload_n 0, 1) := by decide +kernel
theorem dJ7_fill_d0a16_13 : decode cJ7_fill_d0a16 13 = .ok (.iload_n 3, 1) := by decide +kernel
theorem dJ7_fill_d0a16_14 : decode cJ7_fill_d0a16 14 = .ok (.lload_n 1, 1) := by decide +kernel
theorem dJ7_fill_d0a16_15 : decode cJ7_fill_d0a16 15 = .ok (.lastore, 1) := by decide +kernel
theorem dJ7_fill_d0a16_16 : decode cJ7_fill_d0a16 16 = .ok (.iinc 3 1, 3) := by decide +kernel
theorem dJ7_fill_d0a16_19 : decode cJ7_fill_d0a16 19 = .ok (.goto (-13), 3) := by decide +kernel
theorem dJ7_fill_d0a16_22 : decode cJ7_fill_d0a16 22 = .ok (.return_, 1) := by decide +kernel
theorem dL_node_0 : decode cL_node 0 = .ok (.aload_n 3, 1) := by decide +kernel
theorem dL_node_1 : decode cL_node 1 = .ok (.iconst 0, 1) := by decide +kernel
theorem dL_node_2 : decode cL_node 2 = .ok (.aload_n 0, 1) := by decide +kernel
theorem dL_node_3 : decode cL_node 3 = .ok (.iload_n 1, 1) := by decide +kernel
theorem dL_node_4 : decode cL_node 4 = .ok (.iload_n 2, 1) := by decide +kernel
theorem dL_node_5 : decode cL_node 5 = .ok (.invokevirtual 7, 3) := by decide +kernel
theorem dL_node_8 : decode cL_node 8 = .ok (.i2l, 1) := by decide +kernel
theorem dL_node_9 : decode cL_node 9 = .ok (.lastore, 1) := by decide +kernel
theorem dL_node_10 : decode cL_node 10 = .ok (.goto 7, 3) := by decide +kernel
theorem dL_node_13 : decode cL_node 13 = .ok (.astore 4, 2) := by decide +kernel
theorem dL_node_15 : decode cL_node 15 = .ok (.iconst 1, 1) := by decide +kernel
theorem dL_node_16 : decode cL_node 16 = .ok (.ireturn, 1) := by decide +kernel
theorem dL_node_17 : decode cL_node 17 = .ok (.iconst 0, 1) := by decide +kernel
theorem dL_node_18 : decode cL_node 18 = .ok (.ireturn, 1) := by decide +kernel
theorem dL_sign_0 : decode cL_sign 0 = .ok (.aload 4, 2) := by decide +kernel
theorem dL_sign_2 : decode cL_sign 2 = .ok (.iconst 0, 1) := by decide +kernel
theorem dL_sign_3 : decode cL_sign 3 = .ok (.aload_n 0, 1) := by decide +kernel
theorem dL_sign_4 : decode cL_sign 4 = .ok (.iload_n 1, 1) := by decide +kernel
theorem dL_sign_5 : decode cL_sign 5 = .ok (.iload_n 2, 1) := by decide +kernel
theorem dL_sign_6 : decode cL_sign 6 = .ok (.iload_n 3, 1) := by decide +kernel
theorem dL_sign_7 : decode cL_sign 7 = .ok (.invokevirtual 15, 3) := by decide +kernel
theorem dL_sign_10 : decode cL_sign 10 = .ok (.i2l, 1) := by decide +kernel
theorem dL_sign_11 : decode cL_sign 11 = .ok (.lastore, 1) := by decide +kernel
theorem dL_sign_12 : decode cL_sign 12 = .ok (.goto 11, 3) := by decide +kernel
theorem dL_sign_15 : decode cL_sign 15 = .ok (.astore 5, 2) := by decide +kernel
theorem dL_sign_17 : decode cL_sign 17 = .ok (.iconst 1, 1) := by decide +kernel
theorem dL_sign_18 : decode cL_sign 18 = .ok (.ireturn, 1) := by decide +kernel
theorem dL_sign_19 : decode cL_sign 19 = .ok (.astore 5, 2) := by decide +kernel
theorem dL_sign_21 : decode cL_sign 21 = .ok (.iconst 2, 1) := by decide +kernel
theorem dL_sign_22 : decode cL_sign 22 = .ok (.ireturn, 1) := by decide +kernel
theorem dL_sign_23 : decode cL_sign 23 = .ok (.iconst 0, 1) := by decide +kernel
theorem dL_sign_24 : decode cL_sign 24 = .ok (.ireturn, 1) := by decide +kernel
theorem dL_out_0 : decode cL_out 0 = .ok (.aload_n 2, 1) := by decide +kernel
theorem dL_out_1 : decode cL_out 1 = .ok (.iconst 0, 1) := by decide +kernel
theorem dL_out_2 : decode cL_out 2 = .ok (.aload_n 0, 1) := by decide +kernel
theorem dL_out_3 : decode cL_out 3 = .ok (.iload_n 1, 1) := by decide +kernel
theorem dL_out_4 : decode cL_out 4 = .ok (.invokevirtual 21, 3) := by decide +kernel
theorem dL_out_7 : decode cL_out 7 = .ok (.i2l, 1) := by decide +kernel
theorem dL_out_8 : decode cL_out 8 = .ok (.lastore, 1) := by decide +kernel
theorem dL_out_9 : decode cL_out 9 = .ok (.goto 9, 3) := by decide +kernel
theorem dL_out_12 : decode cL_out 12 = .ok (.astore_n 3, 1) := by decide +kernel
theorem dL_out_13 : decode cL_out 13 = .ok (.iconst 1, 1) := by decide +kernel
theorem dL_out_14 : decode cL_out 14 = .ok (.ireturn, 1) := by decide +kernel
theorem dL_out_15 : decode cL_out 15 = .ok (.astore_n 3, 1) := by decide +kernel
theorem dL_out_16 : decode cL_out 16 = .ok (.iconst 2, 1) := by decide +kernel
theorem dL_out_17 : decode cL_out 17 = .ok (.ireturn, 1) := by decide +kernel
theorem dL_out_18 : decode cL_out 18 = .ok (.iconst 0, 1) := by decide +kernel
theorem dL_out_19 : decode cL_out 19 = .ok (.ireturn, 1) := by decide +kernel
theorem dL_ratio_0 : decode cL_ratio 0 = .ok (.aload_n 3, 1) := by decide +kernel
theorem dL_ratio_1 : decode cL_ratio 1 = .ok (.iconst 0, 1) := by decide +kernel
theorem dL_ratio_2 : decode cL_ratio 2 = .ok (.aload_n 0, 1) := by decide +kernel
theorem dL_ratio_3 : decode cL_ratio 3 = .ok (.iload_n 1, 1) := by decide +kernel
theorem dL_ratio_4 : decode cL_ratio 4 = .ok (.iload_n 2, 1) := by decide +kernel
theorem dL_ratio_5 : decode cL_ratio 5 = .ok (.invokevirtual 27, 3) := by decide +kernel
theorem dL_ratio_8 : decode cL_ratio 8 = .ok (.lastore, 1) := by decide +kernel
theorem dL_ratio_9 : decode cL_ratio 9 = .ok (.goto 7, 3) := by decide +kernel
theorem dL_ratio_12 : decode cL_ratio 12 = .ok (.astore 4, 2) := by decide +kernel
theorem dL_ratio_14 : decode cL_ratio 14 = .ok (.iconst 1, 1) := by decide +kernel
theorem dL_ratio_15 : decode cL_ratio 15 = .ok (.ireturn, 1) := by decide +kernel
theorem dL_ratio_16 : decode cL_ratio 16 = .ok (.iconst 0, 1) := by decide +kernel
theorem dL_ratio_17 : decode cL_ratio 17 = .ok (.ireturn, 1) := by decide +kernel
theorem dL_law_0 : decode cL_law 0 = .ok (.new 8, 3) := by decide +kernel
theorem dL_law_3 : decode cL_law 3 = .ok (.dup, 1) := by decide +kernel
theorem dL_law_4 : decode cL_law 4 = .ok (.invokespecial 33, 3) := by decide +kernel
theorem dL_law_7 : decode cL_law 7 = .ok (.astore_n 1, 1) := by decide +kernel
theorem dL_law_8 : decode cL_law 8 = .ok (.new 34, 3) := by decide +kernel
theorem dL_law_11 : decode cL_law 11 = .ok (.dup, 1) := by decide +kernel
theorem dL_law_12 : decode cL_law 12 = .ok (.invokespecial 36, 3) := by decide +kernel
theorem dL_law_15 : decode cL_law 15 = .ok (.astore_n 2, 1) := by decide +kernel
theorem dL_law_16 : decode cL_law 16 = .ok (.iconst 1, 1) := by decide +kernel
theorem dL_law_17 : decode cL_law 17 = .ok (.newarray .long, 2) := by decide +kernel
theorem dL_law_19 : decode cL_law 19 = .ok (.astore_n 3, 1) := by decide +kernel
theorem dL_law_20 : decode cL_law 20 = .ok (.iconst 0, 1) := by decide +kernel
theorem dL_law_21 : decode cL_law 21 = .ok (.istore 4, 2) := by decide +kernel
theorem dL_law_23 : decode cL_law 23 = .ok (.iload 4, 2) := by decide +kernel
theorem dL_law_25 : decode cL_law 25 = .ok (.aload_n 0, 1) := by decide +kernel
theorem dL_law_26 : decode cL_law 26 = .ok (.arraylength, 1) := by decide +kernel
theorem dL_law_27 : decode cL_law 27 = .ok (.iconst 5, 1) := by decide +kernel
theorem dL_law_28 : decode cL_law 28 = .ok (.isub, 1) := by decide +kernel
theorem dL_law_29 : decode cL_law 29 = .ok (.if_icmp .gt 724, 3) := by decide +kernel
theorem dL_law_32 : decode cL_law 32 = .ok (.aload_n 0, 1) := by decide +kernel
theorem dL_law_33 : decode cL_law 33 = .ok (.iload 4, 2) := by decide +kernel
theorem dL_law_35 : decode cL_law 35 = .ok (.iaload, 1) := by decide +kernel
theorem dL_law_36 : decode cL_law 36 = .ok (.bipush 15, 2) := by decide +kernel
theorem dL_law_38 : decode cL_law 38 = .ok (.iand, 1) := by decide +kernel
theorem dL_law_39 : decode cL_law 39 = .ok (.tableswitch 708 0 14 #[73, 142, 155, 168, 193, 261, 341, 354, 410, 491, 516, 553, 591, 658, 683], 73) := by decide +kernel
theorem dL_law_112 : decode cL_law 112 = .ok (.aload_n 1, 1) := by decide +kernel
theorem dL_law_113 : decode cL_law 113 = .ok (.aload_n 0, 1) := by decide +kernel
theorem dL_law_114 : decode cL_law 114 = .ok (.iload 4, 2) := by decide +kernel
theorem dL_law_116 : decode cL_law 116 = .ok (.iconst 1, 1) := by decide +kernel
theorem dL_law_117 : decode cL_law 117 = .ok (.iadd, 1) := by decide +kernel
theorem dL_law_118 : decode cL_law 118 = .ok (.iaload, 1) := by decide +kernel
theorem dL_law_119 : decode cL_law 119 = .ok (.aload_n 0, 1) := by decide +kernel
theorem dL_law_120 : decode cL_law 120 = .ok (.iload 4, 2) := by decide +kernel
theorem dL_law_122 : decode cL_law 122 = .ok (.iconst 2, 1) := by decide +kernel
theorem dL_law_123 : decode cL_law 123 = .ok (.iadd, 1) := by decide +kernel
theorem dL_law_124 : decode cL_law 124 = .ok (.iaload, 1) := by decide +kernel
theorem dL_law_125 : decode cL_law 125 = .ok (.i2l, 1) := by decide +kernel
theorem dL_law_126 : decode cL_law 126 = .ok (.bipush 32, 2) := by decide +kernel
theorem dL_law_128 : decode cL_law 128 = .ok (.lshl, 1) := by decide +kernel
theorem dL_law_129 : decode cL_law 129 = .ok (.aload_n 0, 1) := by decide +kernel
theorem dL_law_130 : decode cL_law 130 = .ok (.iload 4, 2) := by decide +kernel
theorem dL_law_132 : decode cL_law 132 = .ok (.iconst 3, 1) := by decide +kernel
theorem dL_law_133 : decode cL_law 133 = .ok (.iadd, 1) := by decide +kernel
theorem dL_law_134 : decode cL_law 134 = .ok (.iaload, 1) := by decide +kernel
theorem dL_law_135 : decode cL_law 135 = .ok (.i2l, 1) := by decide +kernel
theorem dL_law_136 : decode cL_law 136 = .ok (.ldc2_w 37, 3) := by decide +kernel
theorem dL_law_139 : decode cL_law 139 = .ok (.land, 1) := by decide +kernel
theorem dL_law_140 : decode cL_law 140 = .ok (.lor, 1) := by decide +kernel
theorem dL_law_141 : decode cL_law 141 = .ok (.invokevirtual 39, 3) := by decide +kernel
theorem dL_law_144 : decode cL_law 144 = .ok (.aload_n 2, 1) := by decide +kernel
theorem dL_law_145 : decode cL_law 145 = .ok (.aload_n 0, 1) := by decide +kernel
theorem dL_law_146 : decode cL_law 146 = .ok (.iload 4, 2) := by decide +kernel
theorem dL_law_148 : decode cL_law 148 = .ok (.iconst 1, 1) := by decide +kernel
theorem dL_law_149 : decode cL_law 149 = .ok (.iadd, 1) := by decide +kernel
theorem dL_law_150 : decode cL_law 150 = .ok (.iaload, 1) := by decide +kernel
theorem dL_law_151 : decode cL_law 151 = .ok (.aload_n 0, 1) := by decide +kernel
theorem dL_law_152 : decode cL_law 152 = .ok (.iload 4, 2) := by decide +kernel
theorem dL_law_154 : decode cL_law 154 = .ok (.iconst 2, 1) := by decide +kernel
theorem dL_law_155 : decode cL_law 155 = .ok (.iadd, 1) := by decide +kernel
theorem dL_law_156 : decode cL_law 156 = .ok (.iaload, 1) := by decide +kernel
theorem dL_law_157 : decode cL_law 157 = .ok (.i2l, 1) := by decide +kernel
theorem dL_law_158 : decode cL_law 158 = .ok (.bipush 32, 2) := by decide +kernel
theorem dL_law_160 : decode cL_law 160 = .ok (.lshl, 1) := by decide +kernel
theorem dL_law_161 : decode cL_law 161 = .ok (.aload_n 0, 1) := by decide +kernel
theorem dL_law_162 : decode cL_law 162 = .ok (.iload 4, 2) := by decide +kernel
theorem dL_law_164 : decode cL_law 164 = .ok (.iconst 3, 1) := by decide +kernel
theorem dL_law_165 : decode cL_law 165 = .ok (.iadd, 1) := by decide +kernel
theorem dL_law_166 : decode cL_law 166 = .ok (.iaload, 1) := by decide +kernel
theorem dL_law_167 : decode cL_law 167 = .ok (.i2l, 1) := by decide +kernel
theorem dL_law_168 : decode cL_law 168 = .ok (.ldc2_w 37, 3) := by decide +kernel
theorem dL_law_171 : decode cL_law 171 = .ok (.land, 1) := by decide +kernel
theorem dL_law_172 : decode cL_law 172 = .ok (.lor, 1) := by decide +kernel
theorem dL_law_173 : decode cL_law 173 = .ok (.invokevirtual 43, 3) := by decide +kernel
theorem dL_law_176 : decode cL_law 176 = .ok (.if_icmp .eq 571, 3) := by decide +kernel
theorem dL_law_179 : decode cL_law 179 = .ok (.iconst 0, 1) := by decide +kernel
theorem dL_law_180 : decode cL_law 180 = .ok (.ireturn, 1) := by decide +kernel
theorem dL_law_181 : decode cL_law 181 = .ok (.aload_n 1, 1) := by decide +kernel
theorem dL_law_182 : decode cL_law 182 = .ok (.invokevirtual 44, 3) := by decide +kernel
theorem dL_law_185 : decode cL_law 185 = .ok (.aload_n 2, 1) := by decide +kernel
theorem dL_law_186 : decode cL_law 186 = .ok (.invokevirtual 48, 3) := by decide +kernel
theorem dL_law_189 : decode cL_law 189 = .ok (.if_icmp .eq 558, 3) := by decide +kernel
theorem dL_law_192 : decode cL_law 192 = .ok (.iconst 0, 1) := by decide +kernel
theorem dL_law_193 : decode cL_law 193 = .ok (.ireturn, 1) := by decide +kernel
theorem dL_law_194 : decode cL_law 194 = .ok (.aload_n 1, 1) := by decide +kernel
theorem dL_law_195 : decode cL_law 195 = .ok (.invokevirtual 49, 3) := by decide +kernel
theorem dL_law_198 : decode cL_law 198 = .ok (.aload_n 2, 1) := by decide +kernel
theorem dL_law_199 : decode cL_law 199 = .ok (.invokevirtual 52, 3) := by decide +kernel
theorem dL_law_202 : decode cL_law 202 = .ok (.if_icmp .eq 545, 3) := by decide +kernel
theorem dL_law_205 : decode cL_law 205 = .ok (.iconst 0, 1) := by decide +kernel
theorem dL_law_206 : decode cL_law 206 = .ok (.ireturn, 1) := by decide +kernel
theorem dL_law_207 : decode cL_law 207 = .ok (.aload_n 1, 1) := by decide +kernel
theorem dL_law_208 : decode cL_law 208 = .ok (.aload_n 0, 1) := by decide +kernel
theorem dL_law_209 : decode cL_law 209 = .ok (.iload 4, 2) := by decide +kernel
theorem dL_law_211 : decode cL_law 211 = .ok (.iconst 1, 1) := by decide +kernel
theorem dL_law_212 : decode cL_law 212 = .ok (.iadd, 1) := by decide +kernel
theorem dL_law_213 : decode cL_law 213 = .ok (.iaload, 1) := by decide +kernel
theorem dL_law_214 : decode cL_law 214 = .ok (.invokevirtual 53, 3) := by decide +kernel
theorem dL_law_217 : decode cL_law 217 = .ok (.aload_n 2, 1) := by decide +kernel
theorem dL_law_218 : decode cL_law 218 = .ok (.aload_n 0, 1) := by decide +kernel
theorem dL_law_219 : decode cL_law 219 = .ok (.iload 4, 2) := by decide +kernel
theorem dL_law_221 : decode cL_law 221 = .ok (.iconst 1, 1) := by decide +kernel
theorem dL_law_222 : decode cL_law 222 = .ok (.iadd, 1) := by decide +kernel
theorem dL_law_223 : decode cL_law 223 = .ok (.iaload, 1) := by decide +kernel
theorem dL_law_224 : decode cL_law 224 = .ok (.invokevirtual 56, 3) := by decide +kernel
theorem dL_law_227 : decode cL_law 227 = .ok (.if_icmp .eq 520, 3) := by decide +kernel
theorem dL_law_230 : decode cL_law 230 = .ok (.iconst 0, 1) := by decide +kernel
theorem dL_law_231 : decode cL_law 231 = .ok (.ireturn, 1) := by decide +kernel
theorem dL_law_232 : decode cL_law 232 = .ok (.aload_n 1, 1) := by decide +kernel
theorem dL_law_233 : decode cL_law 233 = .ok (.aload_n 0, 1) := by decide +kernel
theorem dL_law_234 : decode cL_law 234 = .ok (.iload 4, 2) := by decide +kernel
theorem dL_law_236 : decode cL_law 236 = .ok (.iconst 1, 1) := by decide +kernel
theorem dL_law_237 : decode cL_law 237 = .ok (.iadd, 1) := by decide +kernel
theorem dL_law_238 : decode cL_law 238 = .ok (.iaload, 1) := by decide +kernel
theorem dL_law_239 : decode cL_law 239 = .ok (.aload_n 0, 1) := by decide +kernel
theorem dL_law_240 : decode cL_law 240 = .ok (.iload 4, 2) := by decide +kernel
theorem dL_law_242 : decode cL_law 242 = .ok (.iconst 2, 1) := by decide +kernel
theorem dL_law_243 : decode cL_law 243 = .ok (.iadd, 1) := by decide +kernel
theorem dL_law_244 : decode cL_law 244 = .ok (.iaload, 1) := by decide +kernel
theorem dL_law_245 : decode cL_law 245 = .ok (.aload_n 3, 1) := by decide +kernel
theorem dL_law_246 : decode cL_law 246 = .ok (.invokestatic 57, 3) := by decide +kernel
theorem dL_law_249 : decode cL_law 249 = .ok (.istore 5, 2) := by decide +kernel
theorem dL_law_251 : decode cL_law 251 = .ok (.aload_n 2, 1) := by decide +kernel
theorem dL_law_252 : decode cL_law 252 = .ok (.aload_n 0, 1) := by decide +kernel
theorem dL_law_253 : decode cL_law 253 = .ok (.iload 4, 2) := by decide +kernel
theorem dL_law_255 : decode cL_law 255 = .ok (.iconst 1, 1) := by decide +kernel
theorem dL_law_256 : decode cL_law 256 = .ok (.iadd, 1) := by decide +kernel
theorem dL_law_257 : decode cL_law 257 = .ok (.iaload, 1) := by decide +kernel
theorem dL_law_258 : decode cL_law 258 = .ok (.aload_n 0, 1) := by decide +kernel
theorem dL_law_259 : decode cL_law 259 = .ok (.iload 4, 2) := by decide +kernel
theorem dL_law_261 : decode cL_law 261 = .ok (.iconst 2, 1) := by decide +kernel
theorem dL_law_262 : decode cL_law 262 = .ok (.iadd, 1) := by decide +kernel
theorem dL_law_263 : decode cL_law 263 = .ok (.iaload, 1) := by decide +kernel
theorem dL_law_264 : decode cL_law 264 = .ok (.invokevirtual 62, 3) := by decide +kernel
theorem dL_law_267 : decode cL_law 267 = .ok (.istore 6, 2) := by decide +kernel
theorem dL_law_269 : decode cL_law 269 = .ok (.aload_n 2, 1) := by decide +kernel
theorem dL_law_270 : decode cL_law 270 = .ok (.invokevirtual 63, 3) := by decide +kernel
theorem dL_law_273 : decode cL_law 273 = .ok (.iload 5, 2) := by decide +kernel
theorem dL_law_275 : decode cL_law 275 = .ok (.if_icmp .eq 5, 3) := by decide +kernel
theorem dL_law_278 : decode cL_law 278 = .ok (.iconst 0, 1) := by decide +kernel
theorem dL_law_279 : decode cL_law 279 = .ok (.ireturn, 1) := by decide +kernel
theorem dL_law_280 : decode cL_law 280 = .ok (.iload 5, 2) := by decide +kernel
theorem dL_law_282 : decode cL_law 282 = .ok (.ifCond .ne 15, 3) := by decide +kernel
theorem dL_law_285 : decode cL_law 285 = .ok (.aload_n 3, 1) := by decide +kernel
theorem dL_law_286 : decode cL_law 286 = .ok (.iconst 0, 1) := by decide +kernel
theorem dL_law_287 : decode cL_law 287 = .ok (.laload, 1) := by decide +kernel
theorem dL_law_288 : decode cL_law 288 = .ok (.iload 6, 2) := by decide +kernel
theorem dL_law_290 : decode cL_law 290 = .ok (.i2l, 1) := by decide +kernel
theorem dL_law_291 : decode cL_law 291 = .ok (.lcmp, 1) := by decide +kernel
theorem dL_law_292 : decode cL_law 292 = .ok (.ifCond .eq 5, 3) := by decide +kernel
theorem dL_law_295 : decode cL_law 295 = .ok (.iconst 0, 1) := by decide +kernel
theorem dL_law_296 : decode cL_law 296 = .ok (.ireturn, 1) := by decide +kernel
theorem dL_law_297 : decode cL_law 297 = .ok (.goto 450, 3) := by decide +kernel
theorem dL_law_300 : decode cL_law 300 = .ok (.aload_n 1, 1) := by decide +kernel
theorem dL_law_301 : decode cL_law 301 = .ok (.aload_n 0, 1) := by decide +kernel
theorem dL_law_302 : decode cL_law 302 = .ok (.iload 4, 2) := by decide +kernel
theorem dL_law_304 : decode cL_law 304 = .ok (.iconst 1, 1) := by decide +kernel
theorem dL_law_305 : decode cL_law 305 = .ok (.iadd, 1) := by decide +kernel
theorem dL_law_306 : decode cL_law 306 = .ok (.iaload, 1) := by decide +kernel
theorem dL_law_307 : decode cL_law 307 = .ok (.aload_n 0, 1) := by decide +kernel
theorem dL_law_308 : decode cL_law 308 = .ok (.iload 4, 2) := by decide +kernel
theorem dL_law_310 : decode cL_law 310 = .ok (.iconst 2, 1) := by decide +kernel
theorem dL_law_311 : decode cL_law 311 = .ok (.iadd, 1) := by decide +kernel
theorem dL_law_312 : decode cL_law 312 = .ok (.iaload, 1) := by decide +kernel
theorem dL_law_313 : decode cL_law 313 = .ok (.aload_n 0, 1) := by decide +kernel
theorem dL_law_314 : decode cL_law 314 = .ok (.iload 4, 2) := by decide +kernel
theorem dL_law_316 : decode cL_law 316 = .ok (.iconst 3, 1) := by decide +kernel
theorem dL_law_317 : decode cL_law 317 = .ok (.iadd, 1) := by decide +kernel
theorem dL_law_318 : decode cL_law 318 = .ok (.iaload, 1) := by decide +kernel
theorem dL_law_319 : decode cL_law 319 = .ok (.aload_n 3, 1) := by decide +kernel
theorem dL_law_320 : decode cL_law 320 = .ok (.invokestatic 66, 3) := by decide +kernel
theorem dL_law_323 : decode cL_law 323 = .ok (.istore 5, 2) := by decide +kernel
theorem dL_law_325 : decode cL_law 325 = .ok (.aload_n 2, 1) := by decide +kernel
theorem dL_law_326 : decode cL_law 326 = .ok (.aload_n 0, 1) := by decide +kernel
theorem dL_law_327 : decode cL_law 327 = .ok (.iload 4, 2) := by decide +kernel
theorem dL_law_329 : decode cL_law 329 = .ok (.iconst 1, 1) := by decide +kernel
theorem dL_law_330 : decode cL_law 330 = .ok (.iadd, 1) := by decide +kernel
theorem dL_law_331 : decode cL_law 331 = .ok (.iaload, 1) := by decide +kernel
theorem dL_law_332 : decode cL_law 332 = .ok (.aload_n 0, 1) := by decide +kernel
theorem dL_law_333 : decode cL_law 333 = .ok (.iload 4, 2) := by decide +kernel
theorem dL_law_335 : decode cL_law 335 = .ok (.iconst 2, 1) := by decide +kernel
theorem dL_law_336 : decode cL_law 336 = .ok (.iadd, 1) := by decide +kernel
theorem dL_law_337 : decode cL_law 337 = .ok (.iaload, 1) := by decide +kernel
theorem dL_law_338 : decode cL_law 338 = .ok (.aload_n 0, 1) := by decide +kernel
theorem dL_law_339 : decode cL_law 339 = .ok (.iload 4, 2) := by decide +kernel
theorem dL_law_341 : decode cL_law 341 = .ok (.iconst 3, 1) := by decide +kernel
theorem dL_law_342 : decode cL_law 342 = .ok (.iadd, 1) := by decide +kernel
theorem dL_law_343 : decode cL_law 343 = .ok (.iaload, 1) := by decide +kernel
theorem dL_law_344 : decode cL_law 344 = .ok (.invokevirtual 69, 3) := by decide +kernel
theorem dL_law_347 : decode cL_law 347 = .ok (.istore 6, 2) := by decide +kernel
theorem dL_law_349 : decode cL_law 349 = .ok (.aload_n 2, 1) := by decide +kernel
theorem dL_law_350 : decode cL_law 350 = .ok (.invokevirtual 63, 3) := by decide +kernel
theorem dL_law_353 : decode cL_law 353 = .ok (.iload 5, 2) := by decide +kernel
theorem dL_law_355 : decode cL_law 355 = .ok (.if_icmp .eq 5, 3) := by decide +kernel
theorem dL_law_358 : decode cL_law 358 = .ok (.iconst 0, 1) := by decide +kernel
theorem dL_law_359 : decode cL_law 359 = .ok (.ireturn, 1) := by decide +kernel
theorem dL_law_360 : decode cL_law 360 = .ok (.iload 5, 2) := by decide +kernel
theorem dL_law_362 : decode cL_law 362 = .ok (.ifCond .ne 15, 3) := by decide +kernel
theorem dL_law_365 : decode cL_law 365 = .ok (.aload_n 3, 1) := by decide +kernel
theorem dL_law_366 : decode cL_law 366 = .ok (.iconst 0, 1) := by decide +kernel
theorem dL_law_367 : decode cL_law 367 = .ok (.laload, 1) := by decide +kernel
theorem dL_law_368 : decode cL_law 368 = .ok (.iload 6, 2) := by decide +kernel
theorem dL_law_370 : decode cL_law 370 = .ok (.i2l, 1) := by decide +kernel
theorem dL_law_371 : decode cL_law 371 = .ok (.lcmp, 1) := by decide +kernel
theorem dL_law_372 : decode cL_law 372 = .ok (.ifCond .eq 5, 3) := by decide +kernel
theorem dL_law_375 : decode cL_law 375 = .ok (.iconst 0, 1) := by decide +kernel
theorem dL_law_376 : decode cL_law 376 = .ok (.ireturn, 1) := by decide +kernel
theorem dL_law_377 : decode cL_law 377 = .ok (.goto 370, 3) := by decide +kernel
theorem dL_law_380 : decode cL_law 380 = .ok (.aload_n 1, 1) := by decide +kernel
theorem dL_law_381 : decode cL_law 381 = .ok (.invokevirtual 70, 3) := by decide +kernel
theorem dL_law_384 : decode cL_law 384 = .ok (.aload_n 2, 1) := by decide +kernel
theorem dL_law_385 : decode cL_law 385 = .ok (.invokevirtual 73, 3) := by decide +kernel
theorem dL_law_388 : decode cL_law 388 = .ok (.if_icmp .eq 359, 3) := by decide +kernel
theorem dL_law_391 : decode cL_law 391 = .ok (.iconst 0, 1) := by decide +kernel
theorem dL_law_392 : decode cL_law 392 = .ok (.ireturn, 1) := by decide +kernel
theorem dL_law_393 : decode cL_law 393 = .ok (.aload_n 1, 1) := by decide +kernel
theorem dL_law_394 : decode cL_law 394 = .ok (.aload_n 0, 1) := by decide +kernel
theorem dL_law_395 : decode cL_law 395 = .ok (.iload 4, 2) := by decide +kernel
theorem dL_law_397 : decode cL_law 397 = .ok (.iconst 1, 1) := by decide +kernel
theorem dL_law_398 : decode cL_law 398 = .ok (.iadd, 1) := by decide +kernel
theorem dL_law_399 : decode cL_law 399 = .ok (.iaload, 1) := by decide +kernel
theorem dL_law_400 : decode cL_law 400 = .ok (.aload_n 3, 1) := by decide +kernel
theorem dL_law_401 : decode cL_law 401 = .ok (.invokestatic 74, 3) := by decide +kernel
theorem dL_law_404 : decode cL_law 404 = .ok (.istore 5, 2) := by decide +kernel
theorem dL_law_406 : decode cL_law 406 = .ok (.aload_n 2, 1) := by decide +kernel
theorem dL_law_407 : decode cL_law 407 = .ok (.aload_n 0, 1) := by decide +kernel
theorem dL_law_408 : decode cL_law 408 = .ok (.iload 4, 2) := by decide +kernel
theorem dL_law_410 : decode cL_law 410 = .ok (.iconst 1, 1) := by decide +kernel
theorem dL_law_411 : decode cL_law 411 = .ok (.iadd, 1) := by decide +kernel
theorem dL_law_412 : decode cL_law 412 = .ok (.iaload, 1) := by decide +kernel
theorem dL_law_413 : decode cL_law 413 = .ok (.invokevirtual 77, 3) := by decide +kernel
theorem dL_law_416 : decode cL_law 416 = .ok (.istore 6, 2) := by decide +kernel
theorem dL_law_418 : decode cL_law 418 = .ok (.aload_n 2, 1) := by decide +kernel
theorem dL_law_419 : decode cL_law 419 = .ok (.invokevirtual 63, 3) := by decide +kernel
theorem dL_law_422 : decode cL_law 422 = .ok (.iload 5, 2) := by decide +kernel
theorem dL_law_424 : decode cL_law 424 = .ok (.if_icmp .eq 5, 3) := by decide +kernel
theorem dL_law_427 : decode cL_law 427 = .ok (.iconst 0, 1) := by decide +kernel
theorem dL_law_428 : decode cL_law 428 = .ok (.ireturn, 1) := by decide +kernel
theorem dL_law_429 : decode cL_law 429 = .ok (.iload 5, 2) := by decide +kernel
theorem dL_law_431 : decode cL_law 431 = .ok (.ifCond .ne 15, 3) := by decide +kernel
theorem dL_law_434 : decode cL_law 434 = .ok (.aload_n 3, 1) := by decide +kernel
theorem dL_law_435 : decode cL_law 435 = .ok (.iconst 0, 1) := by decide +kernel
theorem dL_law_436 : decode cL_law 436 = .ok (.laload, 1) := by decide +kernel
theorem dL_law_437 : decode cL_law 437 = .ok (.iload 6, 2) := by decide +kernel
theorem dL_law_439 : decode cL_law 439 = .ok (.i2l, 1) := by decide +kernel
theorem dL_law_440 : decode cL_law 440 = .ok (.lcmp, 1) := by decide +kernel
theorem dL_law_441 : decode cL_law 441 = .ok (.ifCond .eq 5, 3) := by decide +kernel
theorem dL_law_444 : decode cL_law 444 = .ok (.iconst 0, 1) := by decide +kernel
theorem dL_law_445 : decode cL_law 445 = .ok (.ireturn, 1) := by decide +kernel
theorem dL_law_446 : decode cL_law 446 = .ok (.goto 301, 3) := by decide +kernel
theorem dL_law_449 : decode cL_law 449 = .ok (.aload_n 1, 1) := by decide +kernel
theorem dL_law_450 : decode cL_law 450 = .ok (.aload_n 0, 1) := by decide +kernel
theorem dL_law_451 : decode cL_law 451 = .ok (.iload 4, 2) := by decide +kernel
theorem dL_law_453 : decode cL_law 453 = .ok (.iconst 1, 1) := by decide +kernel
theorem dL_law_454 : decode cL_law 454 = .ok (.iadd, 1) := by decide +kernel
theorem dL_law_455 : decode cL_law 455 = .ok (.iaload, 1) := by decide +kernel
theorem dL_law_456 : decode cL_law 456 = .ok (.aload_n 0, 1) := by decide +kernel
theorem dL_law_457 : decode cL_law 457 = .ok (.iload 4, 2) := by decide +kernel
theorem dL_law_459 : decode cL_law 459 = .ok (.iconst 2, 1) := by decide +kernel
theorem dL_law_460 : decode cL_law 460 = .ok (.iadd, 1) := by decide +kernel
theorem dL_law_461 : decode cL_law 461 = .ok (.iaload, 1) := by decide +kernel
theorem dL_law_462 : decode cL_law 462 = .ok (.aload_n 0, 1) := by decide +kernel
theorem dL_law_463 : decode cL_law 463 = .ok (.iload 4, 2) := by decide +kernel
theorem dL_law_465 : decode cL_law 465 = .ok (.iconst 3, 1) := by decide +kernel
theorem dL_law_466 : decode cL_law 466 = .ok (.iadd, 1) := by decide +kernel
theorem dL_law_467 : decode cL_law 467 = .ok (.iaload, 1) := by decide +kernel
theorem dL_law_468 : decode cL_law 468 = .ok (.i2l, 1) := by decide +kernel
theorem dL_law_469 : decode cL_law 469 = .ok (.bipush 32, 2) := by decide +kernel
theorem dL_law_471 : decode cL_law 471 = .ok (.lshl, 1) := by decide +kernel
theorem dL_law_472 : decode cL_law 472 = .ok (.aload_n 0, 1) := by decide +kernel
theorem dL_law_473 : decode cL_law 473 = .ok (.iload 4, 2) := by decide +kernel
theorem dL_law_475 : decode cL_law 475 = .ok (.iconst 4, 1) := by decide +kernel
theorem dL_law_476 : decode cL_law 476 = .ok (.iadd, 1) := by decide +kernel
theorem dL_law_477 : decode cL_law 477 = .ok (.iaload, 1) := by decide +kernel
theorem dL_law_478 : decode cL_law 478 = .ok (.i2l, 1) := by decide +kernel
theorem dL_law_479 : decode cL_law 479 = .ok (.ldc2_w 37, 3) := by decide +kernel
theorem dL_law_482 : decode cL_law 482 = .ok (.land, 1) := by decide +kernel
theorem dL_law_483 : decode cL_law 483 = .ok (.lor, 1) := by decide +kernel
theorem dL_law_484 : decode cL_law 484 = .ok (.invokevirtual 78, 3) := by decide +kernel
theorem dL_law_487 : decode cL_law 487 = .ok (.aload_n 2, 1) := by decide +kernel
theorem dL_law_488 : decode cL_law 488 = .ok (.aload_n 0, 1) := by decide +kernel
theorem dL_law_489 : decode cL_law 489 = .ok (.iload 4, 2) := by decide +kernel
theorem dL_law_491 : decode cL_law 491 = .ok (.iconst 1, 1) := by decide +kernel
theorem dL_law_492 : decode cL_law 492 = .ok (.iadd, 1) := by decide +kernel
theorem dL_law_493 : decode cL_law 493 = .ok (.iaload, 1) := by decide +kernel
theorem dL_law_494 : decode cL_law 494 = .ok (.aload_n 0, 1) := by decide +kernel
theorem dL_law_495 : decode cL_law 495 = .ok (.iload 4, 2) := by decide +kernel
theorem dL_law_497 : decode cL_law 497 = .ok (.iconst 2, 1) := by decide +kernel
theorem dL_law_498 : decode cL_law 498 = .ok (.iadd, 1) := by decide +kernel
theorem dL_law_499 : decode cL_law 499 = .ok (.iaload, 1) := by decide +kernel
theorem dL_law_500 : decode cL_law 500 = .ok (.aload_n 0, 1) := by decide +kernel
theorem dL_law_501 : decode cL_law 501 = .ok (.iload 4, 2) := by decide +kernel
theorem dL_law_503 : decode cL_law 503 = .ok (.iconst 3, 1) := by decide +kernel
theorem dL_law_504 : decode cL_law 504 = .ok (.iadd, 1) := by decide +kernel
theorem dL_law_505 : decode cL_law 505 = .ok (.iaload, 1) := by decide +kernel
theorem dL_law_506 : decode cL_law 506 = .ok (.i2l, 1) := by decide +kernel
theorem dL_law_507 : decode cL_law 507 = .ok (.bipush 32, 2) := by decide +kernel
theorem dL_law_509 : decode cL_law 509 = .ok (.lshl, 1) := by decide +kernel
theorem dL_law_510 : decode cL_law 510 = .ok (.aload_n 0, 1) := by decide +kernel
theorem dL_law_511 : decode cL_law 511 = .ok (.iload 4, 2) := by decide +kernel
theorem dL_law_513 : decode cL_law 513 = .ok (.iconst 4, 1) := by decide +kernel
theorem dL_law_514 : decode cL_law 514 = .ok (.iadd, 1) := by decide +kernel
theorem dL_law_515 : decode cL_law 515 = .ok (.iaload, 1) := by decide +kernel
theorem dL_law_516 : decode cL_law 516 = .ok (.i2l, 1) := by decide +kernel
theorem dL_law_517 : decode cL_law 517 = .ok (.ldc2_w 37, 3) := by decide +kernel
theorem dL_law_520 : decode cL_law 520 = .ok (.land, 1) := by decide +kernel
theorem dL_law_521 : decode cL_law 521 = .ok (.lor, 1) := by decide +kernel
theorem dL_law_522 : decode cL_law 522 = .ok (.invokevirtual 82, 3) := by decide +kernel
theorem dL_law_525 : decode cL_law 525 = .ok (.if_icmp .eq 222, 3) := by decide +kernel
theorem dL_law_528 : decode cL_law 528 = .ok (.iconst 0, 1) := by decide +kernel
theorem dL_law_529 : decode cL_law 529 = .ok (.ireturn, 1) := by decide +kernel
theorem dL_law_530 : decode cL_law 530 = .ok (.aload_n 1, 1) := by decide +kernel
theorem dL_law_531 : decode cL_law 531 = .ok (.aload_n 0, 1) := by decide +kernel
theorem dL_law_532 : decode cL_law 532 = .ok (.iload 4, 2) := by decide +kernel
theorem dL_law_534 : decode cL_law 534 = .ok (.iconst 1, 1) := by decide +kernel
theorem dL_law_535 : decode cL_law 535 = .ok (.iadd, 1) := by decide +kernel
theorem dL_law_536 : decode cL_law 536 = .ok (.iaload, 1) := by decide +kernel
theorem dL_law_537 : decode cL_law 537 = .ok (.invokevirtual 83, 3) := by decide +kernel
theorem dL_law_540 : decode cL_law 540 = .ok (.aload_n 2, 1) := by decide +kernel
theorem dL_law_541 : decode cL_law 541 = .ok (.aload_n 0, 1) := by decide +kernel
theorem dL_law_542 : decode cL_law 542 = .ok (.iload 4, 2) := by decide +kernel
theorem dL_law_544 : decode cL_law 544 = .ok (.iconst 1, 1) := by decide +kernel
theorem dL_law_545 : decode cL_law 545 = .ok (.iadd, 1) := by decide +kernel
theorem dL_law_546 : decode cL_law 546 = .ok (.iaload, 1) := by decide +kernel
theorem dL_law_547 : decode cL_law 547 = .ok (.invokevirtual 86, 3) := by decide +kernel
theorem dL_law_550 : decode cL_law 550 = .ok (.if_icmp .eq 197, 3) := by decide +kernel
theorem dL_law_553 : decode cL_law 553 = .ok (.iconst 0, 1) := by decide +kernel
theorem dL_law_554 : decode cL_law 554 = .ok (.ireturn, 1) := by decide +kernel
theorem dL_law_555 : decode cL_law 555 = .ok (.aload_n 1, 1) := by decide +kernel
theorem dL_law_556 : decode cL_law 556 = .ok (.aload_n 0, 1) := by decide +kernel
theorem dL_law_557 : decode cL_law 557 = .ok (.iload 4, 2) := by decide +kernel
theorem dL_law_559 : decode cL_law 559 = .ok (.iconst 1, 1) := by decide +kernel
theorem dL_law_560 : decode cL_law 560 = .ok (.iadd, 1) := by decide +kernel
theorem dL_law_561 : decode cL_law 561 = .ok (.iaload, 1) := by decide +kernel
theorem dL_law_562 : decode cL_law 562 = .ok (.aload_n 0, 1) := by decide +kernel
theorem dL_law_563 : decode cL_law 563 = .ok (.iload 4, 2) := by decide +kernel
theorem dL_law_565 : decode cL_law 565 = .ok (.iconst 2, 1) := by decide +kernel
theorem dL_law_566 : decode cL_law 566 = .ok (.iadd, 1) := by decide +kernel
theorem dL_law_567 : decode cL_law 567 = .ok (.iaload, 1) := by decide +kernel
theorem dL_law_568 : decode cL_law 568 = .ok (.invokevirtual 87, 3) := by decide +kernel
theorem dL_law_571 : decode cL_law 571 = .ok (.aload_n 2, 1) := by decide +kernel
theorem dL_law_572 : decode cL_law 572 = .ok (.aload_n 0, 1) := by decide +kernel
theorem dL_law_573 : decode cL_law 573 = .ok (.iload 4, 2) := by decide +kernel
theorem dL_law_575 : decode cL_law 575 = .ok (.iconst 1, 1) := by decide +kernel
theorem dL_law_576 : decode cL_law 576 = .ok (.iadd, 1) := by decide +kernel
theorem dL_law_577 : decode cL_law 577 = .ok (.iaload, 1) := by decide +kernel
theorem dL_law_578 : decode cL_law 578 = .ok (.aload_n 0, 1) := by decide +kernel
theorem dL_law_579 : decode cL_law 579 = .ok (.iload 4, 2) := by decide +kernel
theorem dL_law_581 : decode cL_law 581 = .ok (.iconst 2, 1) := by decide +kernel
theorem dL_law_582 : decode cL_law 582 = .ok (.iadd, 1) := by decide +kernel
theorem dL_law_583 : decode cL_law 583 = .ok (.iaload, 1) := by decide +kernel
theorem dL_law_584 : decode cL_law 584 = .ok (.invokevirtual 90, 3) := by decide +kernel
theorem dL_law_587 : decode cL_law 587 = .ok (.if_icmp .eq 160, 3) := by decide +kernel
theorem dL_law_590 : decode cL_law 590 = .ok (.iconst 0, 1) := by decide +kernel
theorem dL_law_591 : decode cL_law 591 = .ok (.ireturn, 1) := by decide +kernel
theorem dL_law_592 : decode cL_law 592 = .ok (.aload_n 1, 1) := by decide +kernel
theorem dL_law_593 : decode cL_law 593 = .ok (.aload_n 0, 1) := by decide +kernel
theorem dL_law_594 : decode cL_law 594 = .ok (.iload 4, 2) := by decide +kernel
theorem dL_law_596 : decode cL_law 596 = .ok (.iconst 1, 1) := by decide +kernel
theorem dL_law_597 : decode cL_law 597 = .ok (.iadd, 1) := by decide +kernel
theorem dL_law_598 : decode cL_law 598 = .ok (.iaload, 1) := by decide +kernel
theorem dL_law_599 : decode cL_law 599 = .ok (.aload_n 0, 1) := by decide +kernel
theorem dL_law_600 : decode cL_law 600 = .ok (.iload 4, 2) := by decide +kernel
theorem dL_law_602 : decode cL_law 602 = .ok (.iconst 2, 1) := by decide +kernel
theorem dL_law_603 : decode cL_law 603 = .ok (.iadd, 1) := by decide +kernel
theorem dL_law_604 : decode cL_law 604 = .ok (.iaload, 1) := by decide +kernel
theorem dL_law_605 : decode cL_law 605 = .ok (.invokevirtual 91, 3) := by decide +kernel
theorem dL_law_608 : decode cL_law 608 = .ok (.aload_n 2, 1) := by decide +kernel
theorem dL_law_609 : decode cL_law 609 = .ok (.aload_n 0, 1) := by decide +kernel
theorem dL_law_610 : decode cL_law 610 = .ok (.iload 4, 2) := by decide +kernel
theorem dL_law_612 : decode cL_law 612 = .ok (.iconst 1, 1) := by decide +kernel
theorem dL_law_613 : decode cL_law 613 = .ok (.iadd, 1) := by decide +kernel
theorem dL_law_614 : decode cL_law 614 = .ok (.iaload, 1) := by decide +kernel
theorem dL_law_615 : decode cL_law 615 = .ok (.aload_n 0, 1) := by decide +kernel
theorem dL_law_616 : decode cL_law 616 = .ok (.iload 4, 2) := by decide +kernel
theorem dL_law_618 : decode cL_law 618 = .ok (.iconst 2, 1) := by decide +kernel
theorem dL_law_619 : decode cL_law 619 = .ok (.iadd, 1) := by decide +kernel
theorem dL_law_620 : decode cL_law 620 = .ok (.iaload, 1) := by decide +kernel
theorem dL_law_621 : decode cL_law 621 = .ok (.invokevirtual 94, 3) := by decide +kernel
theorem dL_law_624 : decode cL_law 624 = .ok (.lcmp, 1) := by decide +kernel
theorem dL_law_625 : decode cL_law 625 = .ok (.ifCond .eq 122, 3) := by decide +kernel
theorem dL_law_628 : decode cL_law 628 = .ok (.iconst 0, 1) := by decide +kernel
theorem dL_law_629 : decode cL_law 629 = .ok (.ireturn, 1) := by decide +kernel
theorem dL_law_630 : decode cL_law 630 = .ok (.aload_n 1, 1) := by decide +kernel
theorem dL_law_631 : decode cL_law 631 = .ok (.aload_n 0, 1) := by decide +kernel
theorem dL_law_632 : decode cL_law 632 = .ok (.iload 4, 2) := by decide +kernel
theorem dL_law_634 : decode cL_law 634 = .ok (.iconst 1, 1) := by decide +kernel
theorem dL_law_635 : decode cL_law 635 = .ok (.iadd, 1) := by decide +kernel
theorem dL_law_636 : decode cL_law 636 = .ok (.iaload, 1) := by decide +kernel
theorem dL_law_637 : decode cL_law 637 = .ok (.aload_n 0, 1) := by decide +kernel
theorem dL_law_638 : decode cL_law 638 = .ok (.iload 4, 2) := by decide +kernel
theorem dL_law_640 : decode cL_law 640 = .ok (.iconst 2, 1) := by decide +kernel
theorem dL_law_641 : decode cL_law 641 = .ok (.iadd, 1) := by decide +kernel
theorem dL_law_642 : decode cL_law 642 = .ok (.iaload, 1) := by decide +kernel
theorem dL_law_643 : decode cL_law 643 = .ok (.aload_n 3, 1) := by decide +kernel
theorem dL_law_644 : decode cL_law 644 = .ok (.invokestatic 95, 3) := by decide +kernel
theorem dL_law_647 : decode cL_law 647 = .ok (.istore 5, 2) := by decide +kernel
theorem dL_law_649 : decode cL_law 649 = .ok (.aload_n 2, 1) := by decide +kernel
theorem dL_law_650 : decode cL_law 650 = .ok (.aload_n 0, 1) := by decide +kernel
theorem dL_law_651 : decode cL_law 651 = .ok (.iload 4, 2) := by decide +kernel
theorem dL_law_653 : decode cL_law 653 = .ok (.iconst 1, 1) := by decide +kernel
theorem dL_law_654 : decode cL_law 654 = .ok (.iadd, 1) := by decide +kernel
theorem dL_law_655 : decode cL_law 655 = .ok (.iaload, 1) := by decide +kernel
theorem dL_law_656 : decode cL_law 656 = .ok (.aload_n 0, 1) := by decide +kernel
theorem dL_law_657 : decode cL_law 657 = .ok (.iload 4, 2) := by decide +kernel
theorem dL_law_659 : decode cL_law 659 = .ok (.iconst 2, 1) := by decide +kernel
theorem dL_law_660 : decode cL_law 660 = .ok (.iadd, 1) := by decide +kernel
theorem dL_law_661 : decode cL_law 661 = .ok (.iaload, 1) := by decide +kernel
theorem dL_law_662 : decode cL_law 662 = .ok (.invokevirtual 97, 3) := by decide +kernel
theorem dL_law_665 : decode cL_law 665 = .ok (.lstore 6, 2) := by decide +kernel
theorem dL_law_667 : decode cL_law 667 = .ok (.aload_n 2, 1) := by decide +kernel
theorem dL_law_668 : decode cL_law 668 = .ok (.invokevirtual 63, 3) := by decide +kernel
theorem dL_law_671 : decode cL_law 671 = .ok (.iload 5, 2) := by decide +kernel
theorem dL_law_673 : decode cL_law 673 = .ok (.if_icmp .eq 5, 3) := by decide +kernel
theorem dL_law_676 : decode cL_law 676 = .ok (.iconst 0, 1) := by decide +kernel
theorem dL_law_677 : decode cL_law 677 = .ok (.ireturn, 1) := by decide +kernel
theorem dL_law_678 : decode cL_law 678 = .ok (.iload 5, 2) := by decide +kernel
theorem dL_law_680 : decode cL_law 680 = .ok (.ifCond .ne 14, 3) := by decide +kernel
theorem dL_law_683 : decode cL_law 683 = .ok (.aload_n 3, 1) := by decide +kernel
theorem dL_law_684 : decode cL_law 684 = .ok (.iconst 0, 1) := by decide +kernel
theorem dL_law_685 : decode cL_law 685 = .ok (.laload, 1) := by decide +kernel
theorem dL_law_686 : decode cL_law 686 = .ok (.lload 6, 2) := by decide +kernel
theorem dL_law_688 : decode cL_law 688 = .ok (.lcmp, 1) := by decide +kernel
theorem dL_law_689 : decode cL_law 689 = .ok (.ifCond .eq 5, 3) := by decide +kernel
theorem dL_law_692 : decode cL_law 692 = .ok (.iconst 0, 1) := by decide +kernel
theorem dL_law_693 : decode cL_law 693 = .ok (.ireturn, 1) := by decide +kernel
theorem dL_law_694 : decode cL_law 694 = .ok (.goto 53, 3) := by decide +kernel
theorem dL_law_697 : decode cL_law 697 = .ok (.aload_n 1, 1) := by decide +kernel
theorem dL_law_698 : decode cL_law 698 = .ok (.aload_n 0, 1) := by decide +kernel
theorem dL_law_699 : decode cL_law 699 = .ok (.iload 4, 2) := by decide +kernel
theorem dL_law_701 : decode cL_law 701 = .ok (.iconst 1, 1) := by decide +kernel
theorem dL_law_702 : decode cL_law 702 = .ok (.iadd, 1) := by decide +kernel
theorem dL_law_703 : decode cL_law 703 = .ok (.iaload, 1) := by decide +kernel
theorem dL_law_704 : decode cL_law 704 = .ok (.invokevirtual 98, 3) := by decide +kernel
theorem dL_law_707 : decode cL_law 707 = .ok (.aload_n 2, 1) := by decide +kernel
theorem dL_law_708 : decode cL_law 708 = .ok (.aload_n 0, 1) := by decide +kernel
theorem dL_law_709 : decode cL_law 709 = .ok (.iload 4, 2) := by decide +kernel
theorem dL_law_711 : decode cL_law 711 = .ok (.iconst 1, 1) := by decide +kernel
theorem dL_law_712 : decode cL_law 712 = .ok (.iadd, 1) := by decide +kernel
theorem dL_law_713 : decode cL_law 713 = .ok (.iaload, 1) := by decide +kernel
theorem dL_law_714 : decode cL_law 714 = .ok (.invokevirtual 101, 3) := by decide +kernel
theorem dL_law_717 : decode cL_law 717 = .ok (.if_icmp .eq 30, 3) := by decide +kernel
theorem dL_law_720 : decode cL_law 720 = .ok (.iconst 0, 1) := by decide +kernel
theorem dL_law_721 : decode cL_law 721 = .ok (.ireturn, 1) := by decide +kernel
theorem dL_law_722 : decode cL_law 722 = .ok (.aload_n 1, 1) := by decide +kernel
theorem dL_law_723 : decode cL_law 723 = .ok (.aload_n 0, 1) := by decide +kernel
theorem dL_law_724 : decode cL_law 724 = .ok (.iload 4, 2) := by decide +kernel
theorem dL_law_726 : decode cL_law 726 = .ok (.iconst 1, 1) := by decide +kernel
theorem dL_law_727 : decode cL_law 727 = .ok (.iadd, 1) := by decide +kernel
theorem dL_law_728 : decode cL_law 728 = .ok (.iaload, 1) := by decide +kernel
theorem dL_law_729 : decode cL_law 729 = .ok (.invokevirtual 102, 3) := by decide +kernel
theorem dL_law_732 : decode cL_law 732 = .ok (.aload_n 2, 1) := by decide +kernel
theorem dL_law_733 : decode cL_law 733 = .ok (.aload_n 0, 1) := by decide +kernel
theorem dL_law_734 : decode cL_law 734 = .ok (.iload 4, 2) := by decide +kernel
theorem dL_law_736 : decode cL_law 736 = .ok (.iconst 1, 1) := by decide +kernel
theorem dL_law_737 : decode cL_law 737 = .ok (.iadd, 1) := by decide +kernel
theorem dL_law_738 : decode cL_law 738 = .ok (.iaload, 1) := by decide +kernel
theorem dL_law_739 : decode cL_law 739 = .ok (.invokevirtual 105, 3) := by decide +kernel
theorem dL_law_742 : decode cL_law 742 = .ok (.if_icmp .eq 5, 3) := by decide +kernel
theorem dL_law_745 : decode cL_law 745 = .ok (.iconst 0, 1) := by decide +kernel
theorem dL_law_746 : decode cL_law 746 = .ok (.ireturn, 1) := by decide +kernel
theorem dL_law_747 : decode cL_law 747 = .ok (.iinc 4 5, 3) := by decide +kernel
theorem dL_law_750 : decode cL_law 750 = .ok (.goto (-727), 3) := by decide +kernel
theorem dL_law_753 : decode cL_law 753 = .ok (.iconst 1, 1) := by decide +kernel
theorem dL_law_754 : decode cL_law 754 = .ok (.ireturn, 1) := by decide +kernel
