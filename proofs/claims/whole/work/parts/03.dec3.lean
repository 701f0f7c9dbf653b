theorem dX11_nextToken_95 : decode cX11_nextToken 95 = .ok (.getfield 58, 3) := by decide +kernel
theorem dX11_nextToken_98 : decode cX11_nextToken 98 = .ok (.iconst 1, 1) := by decide +kernel
theorem dX11_nextToken_99 : decode cX11_nextToken 99 = .ok (.iadd, 1) := by decide +kernel
theorem dX11_nextToken_100 : decode cX11_nextToken 100 = .ok (.putfield 58, 3) := by decide +kernel
theorem dX11_nextToken_103 : decode cX11_nextToken 103 = .ok (.goto (-44), 3) := by decide +kernel
theorem dX11_nextToken_106 : decode cX11_nextToken 106 = .ok (.aload_n 0, 1) := by decide +kernel
theorem dX11_nextToken_107 : decode cX11_nextToken 107 = .ok (.getfield 71, 3) := by decide +kernel
theorem dX11_nextToken_110 : decode cX11_nextToken 110 = .ok (.iconst 1, 1) := by decide +kernel
theorem dX11_nextToken_111 : decode cX11_nextToken 111 = .ok (.if_icmp .eq 82, 3) := by decide +kernel
theorem dX11_nextToken_114 : decode cX11_nextToken 114 = .ok (.aload_n 0, 1) := by decide +kernel
theorem dX11_nextToken_115 : decode cX11_nextToken 115 = .ok (.aload_n 0, 1) := by decide +kernel
theorem dX11_nextToken_116 : decode cX11_nextToken 116 = .ok (.getfield 58, 3) := by decide +kernel
theorem dX11_nextToken_119 : decode cX11_nextToken 119 = .ok (.invokevirtual 61, 3) := by decide +kernel
theorem dX11_nextToken_122 : decode cX11_nextToken 122 = .ok (.i2l, 1) := by decide +kernel
theorem dX11_nextToken_123 : decode cX11_nextToken 123 = .ok (.ldc2_w 78, 3) := by decide +kernel
theorem dX11_nextToken_126 : decode cX11_nextToken 126 = .ok (.ldc2_w 80, 3) := by decide +kernel
theorem dX11_nextToken_129 : decode cX11_nextToken 129 = .ok (.invokestatic 49, 3) := by decide +kernel
theorem dX11_nextToken_132 : decode cX11_nextToken 132 = .ok (.ifCond .eq 61, 3) := by decide +kernel
theorem dX11_nextToken_135 : decode cX11_nextToken 135 = .ok (.aload_n 0, 1) := by decide +kernel
theorem dX11_nextToken_136 : decode cX11_nextToken 136 = .ok (.aload_n 0, 1) := by decide +kernel
theorem dX11_nextToken_137 : decode cX11_nextToken 137 = .ok (.getfield 68, 3) := by decide +kernel
theorem dX11_nextToken_140 : decode cX11_nextToken 140 = .ok (.bipush 99, 2) := by decide +kernel
theorem dX11_nextToken_142 : decode cX11_nextToken 142 = .ok (.if_icmp .le 10, 3) := by decide +kernel
theorem dX11_nextToken_145 : decode cX11_nextToken 145 = .ok (.aload_n 0, 1) := by decide +kernel
theorem dX11_nextToken_146 : decode cX11_nextToken 146 = .ok (.getfield 68, 3) := by decide +kernel
theorem dX11_nextToken_149 : decode cX11_nextToken 149 = .ok (.goto 23, 3) := by decide +kernel
theorem dX11_nextToken_152 : decode cX11_nextToken 152 = .ok (.bipush 10, 2) := by decide +kernel
theorem dX11_nextToken_154 : decode cX11_nextToken 154 = .ok (.aload_n 0, 1) := by decide +kernel
theorem dX11_nextToken_155 : decode cX11_nextToken 155 = .ok (.getfield 68, 3) := by decide +kernel
theorem dX11_nextToken_158 : decode cX11_nextToken 158 = .ok (.imul, 1) := by decide +kernel
theorem dX11_nextToken_159 : decode cX11_nextToken 159 = .ok (.aload_n 0, 1) := by decide +kernel
theorem dX11_nextToken_160 : decode cX11_nextToken 160 = .ok (.getfield 16, 3) := by decide +kernel
theorem dX11_nextToken_163 : decode cX11_nextToken 163 = .ok (.aload_n 0, 1) := by decide +kernel
theorem dX11_nextToken_164 : decode cX11_nextToken 164 = .ok (.getfield 58, 3) := by decide +kernel
theorem dX11_nextToken_167 : decode cX11_nextToken 167 = .ok (.iaload, 1) := by decide +kernel
theorem dX11_nextToken_168 : decode cX11_nextToken 168 = .ok (.iadd, 1) := by decide +kernel
theorem dX11_nextToken_169 : decode cX11_nextToken 169 = .ok (.bipush 48, 2) := by decide +kernel
theorem dX11_nextToken_171 : decode cX11_nextToken 171 = .ok (.isub, 1) := by decide +kernel
theorem dX11_nextToken_172 : decode cX11_nextToken 172 = .ok (.putfield 68, 3) := by decide +kernel
theorem dX11_nextToken_175 : decode cX11_nextToken 175 = .ok (.aload_n 0, 1) := by decide +kernel
theorem dX11_nextToken_176 : decode cX11_nextToken 176 = .ok (.iconst 2, 1) := by decide +kernel
theorem dX11_nextToken_177 : decode cX11_nextToken 177 = .ok (.putfield 71, 3) := by decide +kernel
theorem dX11_nextToken_180 : decode cX11_nextToken 180 = .ok (.aload_n 0, 1) := by decide +kernel
theorem dX11_nextToken_181 : decode cX11_nextToken 181 = .ok (.dup, 1) := by decide +kernel
theorem dX11_nextToken_182 : decode cX11_nextToken 182 = .ok (.getfield 58, 3) := by decide +kernel
theorem dX11_nextToken_185 : decode cX11_nextToken 185 = .ok (.iconst 1, 1) := by decide +kernel
theorem dX11_nextToken_186 : decode cX11_nextToken 186 = .ok (.iadd, 1) := by decide +kernel
theorem dX11_nextToken_187 : decode cX11_nextToken 187 = .ok (.putfield 58, 3) := by decide +kernel
theorem dX11_nextToken_190 : decode cX11_nextToken 190 = .ok (.goto (-84), 3) := by decide +kernel
theorem dX11_nextToken_193 : decode cX11_nextToken 193 = .ok (.aload_n 0, 1) := by decide +kernel
theorem dX11_nextToken_194 : decode cX11_nextToken 194 = .ok (.getfield 71, 3) := by decide +kernel
theorem dX11_nextToken_197 : decode cX11_nextToken 197 = .ok (.iconst 2, 1) := by decide +kernel
theorem dX11_nextToken_198 : decode cX11_nextToken 198 = .ok (.if_icmp .ne 23, 3) := by decide +kernel
theorem dX11_nextToken_201 : decode cX11_nextToken 201 = .ok (.aload_n 0, 1) := by decide +kernel
theorem dX11_nextToken_202 : decode cX11_nextToken 202 = .ok (.getfield 58, 3) := by decide +kernel
theorem dX11_nextToken_205 : decode cX11_nextToken 205 = .ok (.aload_n 0, 1) := by decide +kernel
theorem dX11_nextToken_206 : decode cX11_nextToken 206 = .ok (.getfield 65, 3) := by decide +kernel
theorem dX11_nextToken_209 : decode cX11_nextToken 209 = .ok (.isub, 1) := by decide +kernel
theorem dX11_nextToken_210 : decode cX11_nextToken 210 = .ok (.iconst 2, 1) := by decide +kernel
theorem dX11_nextToken_211 : decode cX11_nextToken 211 = .ok (.if_icmp .le 10, 3) := by decide +kernel
theorem dX11_nextToken_214 : decode cX11_nextToken 214 = .ok (.aload_n 0, 1) := by decide +kernel
theorem dX11_nextToken_215 : decode cX11_nextToken 215 = .ok (.sipush 999, 3) := by decide +kernel
theorem dX11_nextToken_218 : decode cX11_nextToken 218 = .ok (.putfield 68, 3) := by decide +kernel
theorem dX11_nextToken_221 : decode cX11_nextToken 221 = .ok (.aload_n 0, 1) := by decide +kernel
theorem dX11_nextToken_222 : decode cX11_nextToken 222 = .ok (.getfield 71, 3) := by decide +kernel
theorem dX11_nextToken_225 : decode cX11_nextToken 225 = .ok (.ifCond .ne 26, 3) := by decide +kernel
theorem dX11_nextToken_228 : decode cX11_nextToken 228 = .ok (.aload_n 0, 1) := by decide +kernel
theorem dX11_nextToken_229 : decode cX11_nextToken 229 = .ok (.aload_n 0, 1) := by decide +kernel
theorem dX11_nextToken_230 : decode cX11_nextToken 230 = .ok (.getfield 16, 3) := by decide +kernel
theorem dX11_nextToken_233 : decode cX11_nextToken 233 = .ok (.aload_n 0, 1) := by decide +kernel
theorem dX11_nextToken_234 : decode cX11_nextToken 234 = .ok (.getfield 58, 3) := by decide +kernel
theorem dX11_nextToken_237 : decode cX11_nextToken 237 = .ok (.iaload, 1) := by decide +kernel
theorem dX11_nextToken_238 : decode cX11_nextToken 238 = .ok (.putfield 68, 3) := by decide +kernel
theorem dX11_nextToken_241 : decode cX11_nextToken 241 = .ok (.aload_n 0, 1) := by decide +kernel
theorem dX11_nextToken_242 : decode cX11_nextToken 242 = .ok (.dup, 1) := by decide +kernel
theorem dX11_nextToken_243 : decode cX11_nextToken 243 = .ok (.getfield 58, 3) := by decide +kernel
theorem dX11_nextToken_246 : decode cX11_nextToken 246 = .ok (.iconst 1, 1) := by decide +kernel
theorem dX11_nextToken_247 : decode cX11_nextToken 247 = .ok (.iadd, 1) := by decide +kernel
theorem dX11_nextToken_248 : decode cX11_nextToken 248 = .ok (.putfield 58, 3) := by decide +kernel
theorem dX11_nextToken_251 : decode cX11_nextToken 251 = .ok (.return_, 1) := by decide +kernel
theorem dX11_wordOf_0 : decode cX11_wordOf 0 = .ok (.lconst 0, 1) := by decide +kernel
theorem dX11_wordOf_1 : decode cX11_wordOf 1 = .ok (.lstore_n 1, 1) := by decide +kernel
theorem dX11_wordOf_2 : decode cX11_wordOf 2 = .ok (.aload_n 0, 1) := by decide +kernel
theorem dX11_wordOf_3 : decode cX11_wordOf 3 = .ok (.getfield 65, 3) := by decide +kernel
theorem dX11_wordOf_6 : decode cX11_wordOf 6 = .ok (.istore_n 3, 1) := by decide +kernel
theorem dX11_wordOf_7 : decode cX11_wordOf 7 = .ok (.iload_n 3, 1) := by decide +kernel
theorem dX11_wordOf_8 : decode cX11_wordOf 8 = .ok (.aload_n 0, 1) := by decide +kernel
theorem dX11_wordOf_9 : decode cX11_wordOf 9 = .ok (.getfield 58, 3) := by decide +kernel
theorem dX11_wordOf_12 : decode cX11_wordOf 12 = .ok (.if_icmp .ge 40, 3) := by decide +kernel
theorem dX11_wordOf_15 : decode cX11_wordOf 15 = .ok (.iload_n 3, 1) := by decide +kernel
theorem dX11_wordOf_16 : decode cX11_wordOf 16 = .ok (.aload_n 0, 1) := by decide +kernel
theorem dX11_wordOf_17 : decode cX11_wordOf 17 = .ok (.getfield 65, 3) := by decide +kernel
theorem dX11_wordOf_20 : decode cX11_wordOf 20 = .ok (.bipush 9, 2) := by decide +kernel
theorem dX11_wordOf_22 : decode cX11_wordOf 22 = .ok (.iadd, 1) := by decide +kernel
theorem dX11_wordOf_23 : decode cX11_wordOf 23 = .ok (.if_icmp .ge 29, 3) := by decide +kernel
theorem dX11_wordOf_26 : decode cX11_wordOf 26 = .ok (.ldc2_w 82, 3) := by decide +kernel
theorem dX11_wordOf_29 : decode cX11_wordOf 29 = .ok (.lload_n 1, 1) := by decide +kernel
theorem dX11_wordOf_30 : decode cX11_wordOf 30 = .ok (.lmul, 1) := by decide +kernel
theorem dX11_wordOf_31 : decode cX11_wordOf 31 = .ok (.aload_n 0, 1) := by decide +kernel
theorem dX11_wordOf_32 : decode cX11_wordOf 32 = .ok (.getfield 16, 3) := by decide +kernel
theorem dX11_wordOf_35 : decode cX11_wordOf 35 = .ok (.iload_n 3, 1) := by decide +kernel
theorem dX11_wordOf_36 : decode cX11_wordOf 36 = .ok (.iaload, 1) := by decide +kernel
theorem dX11_wordOf_37 : decode cX11_wordOf 37 = .ok (.i2l, 1) := by decide +kernel
theorem dX11_wordOf_38 : decode cX11_wordOf 38 = .ok (.ladd, 1) := by decide +kernel
theorem dX11_wordOf_39 : decode cX11_wordOf 39 = .ok (.ldc2_w 74, 3) := by decide +kernel
theorem dX11_wordOf_42 : decode cX11_wordOf 42 = .ok (.lsub, 1) := by decide +kernel
theorem dX11_wordOf_43 : decode cX11_wordOf 43 = .ok (.lconst 1, 1) := by decide +kernel
theorem dX11_wordOf_44 : decode cX11_wordOf 44 = .ok (.ladd, 1) := by decide +kernel
theorem dX11_wordOf_45 : decode cX11_wordOf 45 = .ok (.lstore_n 1, 1) := by decide +kernel
theorem dX11_wordOf_46 : decode cX11_wordOf 46 = .ok (.iinc 3 1, 3) := by decide +kernel
theorem dX11_wordOf_49 : decode cX11_wordOf 49 = .ok (.goto (-42), 3) := by decide +kernel
theorem dX11_wordOf_52 : decode cX11_wordOf 52 = .ok (.aload_n 0, 1) := by decide +kernel
theorem dX11_wordOf_53 : decode cX11_wordOf 53 = .ok (.getfield 71, 3) := by decide +kernel
theorem dX11_wordOf_56 : decode cX11_wordOf 56 = .ok (.iconst 1, 1) := by decide +kernel
theorem dX11_wordOf_57 : decode cX11_wordOf 57 = .ok (.if_icmp .ne 7, 3) := by decide +kernel
theorem dX11_wordOf_60 : decode cX11_wordOf 60 = .ok (.lload_n 1, 1) := by decide +kernel
theorem dX11_wordOf_61 : decode cX11_wordOf 61 = .ok (.goto 4, 3) := by decide +kernel
theorem dX11_wordOf_64 : decode cX11_wordOf 64 = .ok (.lconst 0, 1) := by decide +kernel
theorem dX11_wordOf_65 : decode cX11_wordOf 65 = .ok (.lreturn, 1) := by decide +kernel
theorem dX11_spelt_0 : decode cX11_spelt 0 = .ok (.lconst 0, 1) := by decide +kernel
theorem dX11_spelt_1 : decode cX11_spelt 1 = .ok (.lstore 7, 2) := by decide +kernel
theorem dX11_spelt_3 : decode cX11_spelt 3 = .ok (.lload 7, 2) := by decide +kernel
theorem dX11_spelt_5 : decode cX11_spelt 5 = .ok (.ldc2_w 82, 3) := by decide +kernel
theorem dX11_spelt_8 : decode cX11_spelt 8 = .ok (.lmul, 1) := by decide +kernel
theorem dX11_spelt_9 : decode cX11_spelt 9 = .ok (.iload_n 0, 1) := by decide +kernel
theorem dX11_spelt_10 : decode cX11_spelt 10 = .ok (.ifCond .ne 7, 3) := by decide +kernel
theorem dX11_spelt_13 : decode cX11_spelt 13 = .ok (.iconst 0, 1) := by decide +kernel
theorem dX11_spelt_14 : decode cX11_spelt 14 = .ok (.goto 9, 3) := by decide +kernel
theorem dX11_spelt_17 : decode cX11_spelt 17 = .ok (.iload_n 0, 1) := by decide +kernel
theorem dX11_spelt_18 : decode cX11_spelt 18 = .ok (.bipush 97, 2) := by decide +kernel
theorem dX11_spelt_20 : decode cX11_spelt 20 = .ok (.isub, 1) := by decide +kernel
theorem dX11_spelt_21 : decode cX11_spelt 21 = .ok (.iconst 1, 1) := by decide +kernel
theorem dX11_spelt_22 : decode cX11_spelt 22 = .ok (.iadd, 1) := by decide +kernel
theorem dX11_spelt_23 : decode cX11_spelt 23 = .ok (.i2l, 1) := by decide +kernel
theorem dX11_spelt_24 : decode cX11_spelt 24 = .ok (.ladd, 1) := by decide +kernel
theorem dX11_spelt_25 : decode cX11_spelt 25 = .ok (.lstore 7, 2) := by decide +kernel
theorem dX11_spelt_27 : decode cX11_spelt 27 = .ok (.iload_n 1, 1) := by decide +kernel
theorem dX11_spelt_28 : decode cX11_spelt 28 = .ok (.ifCond .ne 8, 3) := by decide +kernel
theorem dX11_spelt_31 : decode cX11_spelt 31 = .ok (.lload 7, 2) := by decide +kernel
theorem dX11_spelt_33 : decode cX11_spelt 33 = .ok (.goto 18, 3) := by decide +kernel
theorem dX11_spelt_36 : decode cX11_spelt 36 = .ok (.lload 7, 2) := by decide +kernel
theorem dX11_spelt_38 : decode cX11_spelt 38 = .ok (.ldc2_w 82, 3) := by decide +kernel
theorem dX11_spelt_41 : decode cX11_spelt 41 = .ok (.lmul, 1) := by decide +kernel
theorem dX11_spelt_42 : decode cX11_spelt 42 = .ok (.iload_n 1, 1) := by decide +kernel
theorem dX11_spelt_43 : decode cX11_spelt 43 = .ok (.i2l, 1) := by decide +kernel
theorem dX11_spelt_44 : decode cX11_spelt 44 = .ok (.ladd, 1) := by decide +kernel
theorem dX11_spelt_45 : decode cX11_spelt 45 = .ok (.ldc2_w 74, 3) := by decide +kernel
theorem dX11_spelt_48 : decode cX11_spelt 48 = .ok (.lsub, 1) := by decide +kernel
theorem dX11_spelt_49 : decode cX11_spelt 49 = .ok (.lconst 1, 1) := by decide +kernel
theorem dX11_spelt_50 : decode cX11_spelt 50 = .ok (.ladd, 1) := by decide +kernel
theorem dX11_spelt_51 : decode cX11_spelt 51 = .ok (.lstore 7, 2) := by decide +kernel
theorem dX11_spelt_53 : decode cX11_spelt 53 = .ok (.iload_n 2, 1) := by decide +kernel
theorem dX11_spelt_54 : decode cX11_spelt 54 = .ok (.ifCond .ne 8, 3) := by decide +kernel
theorem dX11_spelt_57 : decode cX11_spelt 57 = .ok (.lload 7, 2) := by decide +kernel
theorem dX11_spelt_59 : decode cX11_spelt 59 = .ok (.goto 18, 3) := by decide +kernel
theorem dX11_spelt_62 : decode cX11_spelt 62 = .ok (.lload 7, 2) := by decide +kernel
theorem dX11_spelt_64 : decode cX11_spelt 64 = .ok (.ldc2_w 82, 3) := by decide +kernel
theorem dX11_spelt_67 : decode cX11_spelt 67 = .ok (.lmul, 1) := by decide +kernel
theorem dX11_spelt_68 : decode cX11_spelt 68 = .ok (.iload_n 2, 1) := by decide +kernel
theorem dX11_spelt_69 : decode cX11_spelt 69 = .ok (.i2l, 1) := by decide +kernel
theorem dX11_spelt_70 : decode cX11_spelt 70 = .ok (.ladd, 1) := by decide +kernel
theorem dX11_spelt_71 : decode cX11_spelt 71 = .ok (.ldc2_w 74, 3) := by decide +kernel
theorem dX11_spelt_74 : decode cX11_spelt 74 = .ok (.lsub, 1) := by decide +kernel
theorem dX11_spelt_75 : decode cX11_spelt 75 = .ok (.lconst 1, 1) := by decide +kernel
theorem dX11_spelt_76 : decode cX11_spelt 76 = .ok (.ladd, 1) := by decide +kernel
theorem dX11_spelt_77 : decode cX11_spelt 77 = .ok (.lstore 7, 2) := by decide +kernel
theorem dX11_spelt_79 : decode cX11_spelt 79 = .ok (.iload_n 3, 1) := by decide +kernel
theorem dX11_spelt_80 : decode cX11_spelt 80 = .ok (.ifCond .ne 8, 3) := by decide +kernel
theorem dX11_spelt_83 : decode cX11_spelt 83 = .ok (.lload 7, 2) := by decide +kernel
theorem dX11_spelt_85 : decode cX11_spelt 85 = .ok (.goto 18, 3) := by decide +kernel
theorem dX11_spelt_88 : decode cX11_spelt 88 = .ok (.lload 7, 2) := by decide +kernel
theorem dX11_spelt_90 : decode cX11_spelt 90 = .ok (.ldc2_w 82, 3) := by decide +kernel
theorem dX11_spelt_93 : decode cX11_spelt 93 = .ok (.lmul, 1) := by decide +kernel
theorem dX11_spelt_94 : decode cX11_spelt 94 = .ok (.iload_n 3, 1) := by decide +kernel
theorem dX11_spelt_95 : decode cX11_spelt 95 = .ok (.i2l, 1) := by decide +kernel
theorem dX11_spelt_96 : decode cX11_spelt 96 = .ok (.ladd, 1) := by decide +kernel
theorem dX11_spelt_97 : decode cX11_spelt 97 = .ok (.ldc2_w 74, 3) := by decide +kernel
theorem dX11_spelt_100 : decode cX11_spelt 100 = .ok (.lsub, 1) := by decide +kernel
theorem dX11_spelt_101 : decode cX11_spelt 101 = .ok (.lconst 1, 1) := by decide +kernel
theorem dX11_spelt_102 : decode cX11_spelt 102 = .ok (.ladd, 1) := by decide +kernel
theorem dX11_spelt_103 : decode cX11_spelt 103 = .ok (.lstore 7, 2) := by decide +kernel
theorem dX11_spelt_105 : decode cX11_spelt 105 = .ok (.iload 4, 2) := by decide +kernel
theorem dX11_spelt_107 : decode cX11_spelt 107 = .ok (.ifCond .ne 8, 3) := by decide +kernel
theorem dX11_spelt_110 : decode cX11_spelt 110 = .ok (.lload 7, 2) := by decide +kernel
theorem dX11_spelt_112 : decode cX11_spelt 112 = .ok (.goto 19, 3) := by decide +kernel
theorem dX11_spelt_115 : decode cX11_spelt 115 = .ok (.lload 7, 2) := by decide +kernel
theorem dX11_spelt_117 : decode cX11_spelt 117 = .ok (.ldc2_w 82, 3) := by decide +kernel
theorem dX11_spelt_120 : decode cX11_spelt 120 = .ok (.lmul, 1) := by decide +kernel
theorem dX11_spelt_121 : decode cX11_spelt 121 = .ok (.iload 4, 2) := by decide +kernel
theorem dX11_spelt_123 : decode cX11_spelt 123 = .ok (.i2l, 1) := by decide +kernel
theorem dX11_spelt_124 : decode cX11_spelt 124 = .ok (.ladd, 1) := by decide +kernel
theorem dX11_spelt_125 : decode cX11_spelt 125 = .ok (.ldc2_w 74, 3) := by decide +kernel
theorem dX11_spelt_128 : decode cX11_spelt 128 = .ok (.lsub, 1) := by decide +kernel
theorem dX11_spelt_129 : decode cX11_spelt 129 = .ok (.lconst 1, 1) := by decide +kernel
theorem dX11_spelt_130 : decode cX11_spelt 130 = .ok (.ladd, 1) := by decide +kernel
theorem dX11_spelt_131 : decode cX11_spelt 131 = .ok (.lstore 7, 2) := by decide +kernel
theorem dX11_spelt_133 : decode cX11_spelt 133 = .ok (.iload 5, 2) := by decide +kernel
theorem dX11_spelt_135 : decode cX11_spelt 135 = .ok (.ifCond .ne 8, 3) := by decide +kernel
theorem dX11_spelt_138 : decode cX11_spelt 138 = .ok (.lload 7, 2) := by decide +kernel
theorem dX11_spelt_140 : decode cX11_spelt 140 = .ok (.goto 19, 3) := by decide +kernel
theorem dX11_spelt_143 : decode cX11_spelt 143 = .ok (.lload 7, 2) := by decide +kernel
theorem dX11_spelt_145 : decode cX11_spelt 145 = .ok (.ldc2_w 82, 3) := by decide +kernel
theorem dX11_spelt_148 : decode cX11_spelt 148 = .ok (.lmul, 1) := by decide +kernel
theorem dX11_spelt_149 : decode cX11_spelt 149 = .ok (.iload 5, 2) := by decide +kernel
theorem dX11_spelt_151 : decode cX11_spelt 151 = .ok (.i2l, 1) := by decide +kernel
theorem dX11_spelt_152 : decode cX11_spelt 152 = .ok (.ladd, 1) := by decide +kernel
theorem dX11_spelt_153 : decode cX11_spelt 153 = .ok (.ldc2_w 74, 3) := by decide +kernel
theorem dX11_spelt_156 : decode cX11_spelt 156 = .ok (.lsub, 1) := by decide +kernel
theorem dX11_spelt_157 : decode cX11_spelt 157 = .ok (.lconst 1, 1) := by decide +kernel
theorem dX11_spelt_158 : decode cX11_spelt 158 = .ok (.ladd, 1) := by decide +kernel
theorem dX11_spelt_159 : decode cX11_spelt 159 = .ok (.lstore 7, 2) := by decide +kernel
theorem dX11_spelt_161 : decode cX11_spelt 161 = .ok (.iload 6, 2) := by decide +kernel
theorem dX11_spelt_163 : decode cX11_spelt 163 = .ok (.ifCond .ne 8, 3) := by decide +kernel
theorem dX11_spelt_166 : decode cX11_spelt 166 = .ok (.lload 7, 2) := by decide +kernel
theorem dX11_spelt_168 : decode cX11_spelt 168 = .ok (.goto 19, 3) := by decide +kernel
theorem dX11_spelt_171 : decode cX11_spelt 171 = .ok (.lload 7, 2) := by decide +kernel
theorem dX11_spelt_173 : decode cX11_spelt 173 = .ok (.ldc2_w 82, 3) := by decide +kernel
theorem dX11_spelt_176 : decode cX11_spelt 176 = .ok (.lmul, 1) := by decide +kernel
theorem dX11_spelt_177 : decode cX11_spelt 177 = .ok (.iload 6, 2) := by decide +kernel
theorem dX11_spelt_179 : decode cX11_spelt 179 = .ok (.i2l, 1) := by decide +kernel
theorem dX11_spelt_180 : decode cX11_spelt 180 = .ok (.ladd, 1) := by decide +kernel
theorem dX11_spelt_181 : decode cX11_spelt 181 = .ok (.ldc2_w 74, 3) := by decide +kernel
theorem dX11_spelt_184 : decode cX11_spelt 184 = .ok (.lsub, 1) := by decide +kernel
theorem dX11_spelt_185 : decode cX11_spelt 185 = .ok (.lconst 1, 1) := by decide +kernel
theorem dX11_spelt_186 : decode cX11_spelt 186 = .ok (.ladd, 1) := by decide +kernel
theorem dX11_spelt_187 : decode cX11_spelt 187 = .ok (.lreturn, 1) := by decide +kernel
theorem dX11_verb_0 : decode cX11_verb 0 = .ok (.aload_n 0, 1) := by decide +kernel
theorem dX11_verb_1 : decode cX11_verb 1 = .ok (.invokevirtual 84, 3) := by decide +kernel
theorem dX11_verb_4 : decode cX11_verb 4 = .ok (.lstore_n 1, 1) := by decide +kernel
theorem dX11_verb_5 : decode cX11_verb 5 = .ok (.lload_n 1, 1) := by decide +kernel
theorem dX11_verb_6 : decode cX11_verb 6 = .ok (.bipush 112, 2) := by decide +kernel
theorem dX11_verb_8 : decode cX11_verb 8 = .ok (.bipush 108, 2) := by decide +kernel
theorem dX11_verb_10 : decode cX11_verb 10 = .ok (.bipush 97, 2) := by decide +kernel
theorem dX11_verb_12 : decode cX11_verb 12 = .ok (.bipush 105, 2) := by decide +kernel
theorem dX11_verb_14 : decode cX11_verb 14 = .ok (.bipush 110, 2) := by decide +kernel
theorem dX11_verb_16 : decode cX11_verb 16 = .ok (.iconst 0, 1) := by decide +kernel
theorem dX11_verb_17 : decode cX11_verb 17 = .ok (.iconst 0, 1) := by decide +kernel
theorem dX11_verb_18 : decode cX11_verb 18 = .ok (.invokestatic 88, 3) := by decide +kernel
theorem dX11_verb_21 : decode cX11_verb 21 = .ok (.lcmp, 1) := by decide +kernel
theorem dX11_verb_22 : decode cX11_verb 22 = .ok (.ifCond .ne 5, 3) := by decide +kernel
theorem dX11_verb_25 : decode cX11_verb 25 = .ok (.iconst 0, 1) := by decide +kernel
theorem dX11_verb_26 : decode cX11_verb 26 = .ok (.ireturn, 1) := by decide +kernel
theorem dX11_verb_27 : decode cX11_verb 27 = .ok (.lload_n 1, 1) := by decide +kernel
theorem dX11_verb_28 : decode cX11_verb 28 = .ok (.bipush 114, 2) := by decide +kernel
theorem dX11_verb_30 : decode cX11_verb 30 = .ok (.bipush 117, 2) := by decide +kernel
theorem dX11_verb_32 : decode cX11_verb 32 = .ok (.bipush 110, 2) := by decide +kernel
theorem dX11_verb_34 : decode cX11_verb 34 = .ok (.bipush 110, 2) := by decide +kernel
theorem dX11_verb_36 : decode cX11_verb 36 = .ok (.bipush 101, 2) := by decide +kernel
theorem dX11_verb_38 : decode cX11_verb 38 = .ok (.bipush 114, 2) := by decide +kernel
theorem dX11_verb_40 : decode cX11_verb 40 = .ok (.iconst 0, 1) := by decide +kernel
theorem dX11_verb_41 : decode cX11_verb 41 = .ok (.invokestatic 88, 3) := by decide +kernel
theorem dX11_verb_44 : decode cX11_verb 44 = .ok (.lcmp, 1) := by decide +kernel
theorem dX11_verb_45 : decode cX11_verb 45 = .ok (.ifCond .ne 5, 3) := by decide +kernel
theorem dX11_verb_48 : decode cX11_verb 48 = .ok (.iconst 1, 1) := by decide +kernel
theorem dX11_verb_49 : decode cX11_verb 49 = .ok (.ireturn, 1) := by decide +kernel
theorem dX11_verb_50 : decode cX11_verb 50 = .ok (.lload_n 1, 1) := by decide +kernel
theorem dX11_verb_51 : decode cX11_verb 51 = .ok (.bipush 108, 2) := by decide +kernel
theorem dX11_verb_53 : decode cX11_verb 53 = .ok (.bipush 97, 2) := by decide +kernel
theorem dX11_verb_55 : decode cX11_verb 55 = .ok (.bipush 122, 2) := by decide +kernel
theorem dX11_verb_57 : decode cX11_verb 57 = .ok (.bipush 121, 2) := by decide +kernel
theorem dX11_verb_59 : decode cX11_verb 59 = .ok (.iconst 0, 1) := by decide +kernel
theorem dX11_verb_60 : decode cX11_verb 60 = .ok (.iconst 0, 1) := by decide +kernel
theorem dX11_verb_61 : decode cX11_verb 61 = .ok (.iconst 0, 1) := by decide +kernel
theorem dX11_verb_62 : decode cX11_verb 62 = .ok (.invokestatic 88, 3) := by decide +kernel
theorem dX11_verb_65 : decode cX11_verb 65 = .ok (.lcmp, 1) := by decide +kernel
theorem dX11_verb_66 : decode cX11_verb 66 = .ok (.ifCond .ne 5, 3) := by decide +kernel
theorem dX11_verb_69 : decode cX11_verb 69 = .ok (.iconst 2, 1) := by decide +kernel
theorem dX11_verb_70 : decode cX11_verb 70 = .ok (.ireturn, 1) := by decide +kernel
theorem dX11_verb_71 : decode cX11_verb 71 = .ok (.lload_n 1, 1) := by decide +kernel
theorem dX11_verb_72 : decode cX11_verb 72 = .ok (.bipush 111, 2) := by decide +kernel
theorem dX11_verb_74 : decode cX11_verb 74 = .ok (.bipush 112, 2) := by decide +kernel
theorem dX11_verb_76 : decode cX11_verb 76 = .ok (.bipush 101, 2) := by decide +kernel
theorem dX11_verb_78 : decode cX11_verb 78 = .ok (.bipush 110, 2) := by decide +kernel
theorem dX11_verb_80 : decode cX11_verb 80 = .ok (.iconst 0, 1) := by decide +kernel
theorem dX11_verb_81 : decode cX11_verb 81 = .ok (.iconst 0, 1) := by decide +kernel
theorem dX11_verb_82 : decode cX11_verb 82 = .ok (.iconst 0, 1) := by decide +kernel
theorem dX11_verb_83 : decode cX11_verb 83 = .ok (.invokestatic 88, 3) := by decide +kernel
theorem dX11_verb_86 : decode cX11_verb 86 = .ok (.lcmp, 1) := by decide +kernel
theorem dX11_verb_87 : decode cX11_verb 87 = .ok (.ifCond .ne 5, 3) := by decide +kernel
theorem dX11_verb_90 : decode cX11_verb 90 = .ok (.iconst 3, 1) := by decide +kernel
theorem dX11_verb_91 : decode cX11_verb 91 = .ok (.ireturn, 1) := by decide +kernel
theorem dX11_verb_92 : decode cX11_verb 92 = .ok (.lload_n 1, 1) := by decide +kernel
theorem dX11_verb_93 : decode cX11_verb 93 = .ok (.bipush 108, 2) := by decide +kernel
theorem dX11_verb_95 : decode cX11_verb 95 = .ok (.bipush 105, 2) := by decide +kernel
theorem dX11_verb_97 : decode cX11_verb 97 = .ok (.bipush 110, 2) := by decide +kernel
theorem dX11_verb_99 : decode cX11_verb 99 = .ok (.bipush 101, 2) := by decide +kernel
theorem dX11_verb_101 : decode cX11_verb 101 = .ok (.bipush 100, 2) := by decide +kernel
theorem dX11_verb_103 : decode cX11_verb 103 = .ok (.iconst 0, 1) := by decide +kernel
theorem dX11_verb_104 : decode cX11_verb 104 = .ok (.iconst 0, 1) := by decide +kernel
theorem dX11_verb_105 : decode cX11_verb 105 = .ok (.invokestatic 88, 3) := by decide +kernel
theorem dX11_verb_108 : decode cX11_verb 108 = .ok (.lcmp, 1) := by decide +kernel
theorem dX11_verb_109 : decode cX11_verb 109 = .ok (.ifCond .ne 5, 3) := by decide +kernel
theorem dX11_verb_112 : decode cX11_verb 112 = .ok (.iconst 4, 1) := by decide +kernel
theorem dX11_verb_113 : decode cX11_verb 113 = .ok (.ireturn, 1) := by decide +kernel
theorem dX11_verb_114 : decode cX11_verb 114 = .ok (.lload_n 1, 1) := by decide +kernel
theorem dX11_verb_115 : decode cX11_verb 115 = .ok (.bipush 100, 2) := by decide +kernel
theorem dX11_verb_117 : decode cX11_verb 117 = .ok (.bipush 111, 2) := by decide +kernel
theorem dX11_verb_119 : decode cX11_verb 119 = .ok (.bipush 117, 2) := by decide +kernel
theorem dX11_verb_121 : decode cX11_verb 121 = .ok (.bipush 98, 2) := by decide +kernel
theorem dX11_verb_123 : decode cX11_verb 123 = .ok (.bipush 108, 2) := by decide +kernel
theorem dX11_verb_125 : decode cX11_verb 125 = .ok (.bipush 101, 2) := by decide +kernel
theorem dX11_verb_127 : decode cX11_verb 127 = .ok (.bipush 100, 2) := by decide +kernel
theorem dX11_verb_129 : decode cX11_verb 129 = .ok (.invokestatic 88, 3) := by decide +kernel
theorem dX11_verb_132 : decode cX11_verb 132 = .ok (.lcmp, 1) := by decide +kernel
theorem dX11_verb_133 : decode cX11_verb 133 = .ok (.ifCond .ne 5, 3) := by decide +kernel
theorem dX11_verb_136 : decode cX11_verb 136 = .ok (.iconst 5, 1) := by decide +kernel
theorem dX11_verb_137 : decode cX11_verb 137 = .ok (.ireturn, 1) := by decide +kernel
theorem dX11_verb_138 : decode cX11_verb 138 = .ok (.lload_n 1, 1) := by decide +kernel
theorem dX11_verb_139 : decode cX11_verb 139 = .ok (.bipush 116, 2) := by decide +kernel
theorem dX11_verb_141 : decode cX11_verb 141 = .ok (.bipush 111, 2) := by decide +kernel
theorem dX11_verb_143 : decode cX11_verb 143 = .ok (.bipush 114, 2) := by decide +kernel
theorem dX11_verb_145 : decode cX11_verb 145 = .ok (.bipush 110, 2) := by decide +kernel
theorem dX11_verb_147 : decode cX11_verb 147 = .ok (.iconst 0, 1) := by decide +kernel
theorem dX11_verb_148 : decode cX11_verb 148 = .ok (.iconst 0, 1) := by decide +kernel
theorem dX11_verb_149 : decode cX11_verb 149 = .ok (.iconst 0, 1) := by decide +kernel
theorem dX11_verb_150 : decode cX11_verb 150 = .ok (.invokestatic 88, 3) := by decide +kernel
theorem dX11_verb_153 : decode cX11_verb 153 = .ok (.lcmp, 1) := by decide +kernel
theorem dX11_verb_154 : decode cX11_verb 154 = .ok (.ifCond .ne 6, 3) := by decide +kernel
theorem dX11_verb_157 : decode cX11_verb 157 = .ok (.bipush 6, 2) := by decide +kernel
theorem dX11_verb_159 : decode cX11_verb 159 = .ok (.ireturn, 1) := by decide +kernel
theorem dX11_verb_160 : decode cX11_verb 160 = .ok (.lload_n 1, 1) := by decide +kernel
theorem dX11_verb_161 : decode cX11_verb 161 = .ok (.bipush 119, 2) := by decide +kernel
theorem dX11_verb_163 : decode cX11_verb 163 = .ok (.bipush 101, 2) := by decide +kernel
theorem dX11_verb_165 : decode cX11_verb 165 = .ok (.bipush 108, 2) := by decide +kernel
theorem dX11_verb_167 : decode cX11_verb 167 = .ok (.bipush 108, 2) := by decide +kernel
theorem dX11_verb_169 : decode cX11_verb 169 = .ok (.iconst 0, 1) := by decide +kernel
theorem dX11_verb_170 : decode cX11_verb 170 = .ok (.iconst 0, 1) := by decide +kernel
theorem dX11_verb_171 : decode cX11_verb 171 = .ok (.iconst 0, 1) := by decide +kernel
theorem dX11_verb_172 : decode cX11_verb 172 = .ok (.invokestatic 88, 3) := by decide +kernel
theorem dX11_verb_175 : decode cX11_verb 175 = .ok (.lcmp, 1) := by decide +kernel
theorem dX11_verb_176 : decode cX11_verb 176 = .ok (.ifCond .ne 6, 3) := by decide +kernel
theorem dX11_verb_179 : decode cX11_verb 179 = .ok (.bipush 7, 2) := by decide +kernel
theorem dX11_verb_181 : decode cX11_verb 181 = .ok (.ireturn, 1) := by decide +kernel
theorem dX11_verb_182 : decode cX11_verb 182 = .ok (.lload_n 1, 1) := by decide +kernel
theorem dX11_verb_183 : decode cX11_verb 183 = .ok (.bipush 116, 2) := by decide +kernel
theorem dX11_verb_185 : decode cX11_verb 185 = .ok (.bipush 117, 2) := by decide +kernel
theorem dX11_verb_187 : decode cX11_verb 187 = .ok (.bipush 98, 2) := by decide +kernel
theorem dX11_verb_189 : decode cX11_verb 189 = .ok (.iconst 0, 1) := by decide +kernel
theorem dX11_verb_190 : decode cX11_verb 190 = .ok (.iconst 0, 1) := by decide +kernel
theorem dX11_verb_191 : decode cX11_verb 191 = .ok (.iconst 0, 1) := by decide +kernel
theorem dX11_verb_192 : decode cX11_verb 192 = .ok (.iconst 0, 1) := by decide +kernel
theorem dX11_verb_193 : decode cX11_verb 193 = .ok (.invokestatic 88, 3) := by decide +kernel
theorem dX11_verb_196 : decode cX11_verb 196 = .ok (.lcmp, 1) := by decide +kernel
theorem dX11_verb_197 : decode cX11_verb 197 = .ok (.ifCond .ne 6, 3) := by decide +kernel
theorem dX11_verb_200 : decode cX11_verb 200 = .ok (.bipush 8, 2) := by decide +kernel
theorem dX11_verb_202 : decode cX11_verb 202 = .ok (.ireturn, 1) := by decide +kernel
theorem dX11_verb_203 : decode cX11_verb 203 = .ok (.lload_n 1, 1) := by decide +kernel
theorem dX11_verb_204 : decode cX11_verb 204 = .ok (.bipush 104, 2) := by decide +kernel
theorem dX11_verb_206 : decode cX11_verb 206 = .ok (.bipush 111, 2) := by decide +kernel
theorem dX11_verb_208 : decode cX11_verb 208 = .ok (.bipush 108, 2) := by decide +kernel
theorem dX11_verb_210 : decode cX11_verb 210 = .ok (.bipush 101, 2) := by decide +kernel
theorem dX11_verb_212 : decode cX11_verb 212 = .ok (.iconst 0, 1) := by decide +kernel
theorem dX11_verb_213 : decode cX11_verb 213 = .ok (.iconst 0, 1) := by decide +kernel
theorem dX11_verb_214 : decode cX11_verb 214 = .ok (.iconst 0, 1) := by decide +kernel
theorem dX11_verb_215 : decode cX11_verb 215 = .ok (.invokestatic 88, 3) := by decide +kernel
theorem dX11_verb_218 : decode cX11_verb 218 = .ok (.lcmp, 1) := by decide +kernel
theorem dX11_verb_219 : decode cX11_verb 219 = .ok (.ifCond .ne 6, 3) := by decide +kernel
theorem dX11_verb_222 : decode cX11_verb 222 = .ok (.bipush 9, 2) := by decide +kernel
theorem dX11_verb_224 : decode cX11_verb 224 = .ok (.ireturn, 1) := by decide +kernel
theorem dX11_verb_225 : decode cX11_verb 225 = .ok (.lload_n 1, 1) := by decide +kernel
theorem dX11_verb_226 : decode cX11_verb 226 = .ok (.bipush 102, 2) := by decide +kernel
theorem dX11_verb_228 : decode cX11_verb 228 = .ok (.bipush 114, 2) := by decide +kernel
theorem dX11_verb_230 : decode cX11_verb 230 = .ok (.bipush 111, 2) := by decide +kernel
theorem dX11_verb_232 : decode cX11_verb 232 = .ok (.bipush 115, 2) := by decide +kernel
theorem dX11_verb_234 : decode cX11_verb 234 = .ok (.bipush 116, 2) := by decide +kernel
theorem dX11_verb_236 : decode cX11_verb 236 = .ok (.iconst 0, 1) := by decide +kernel
theorem dX11_verb_237 : decode cX11_verb 237 = .ok (.iconst 0, 1) := by decide +kernel
theorem dX11_verb_238 : decode cX11_verb 238 = .ok (.invokestatic 88, 3) := by decide +kernel
theorem dX11_verb_241 : decode cX11_verb 241 = .ok (.lcmp, 1) := by decide +kernel
theorem dX11_verb_242 : decode cX11_verb 242 = .ok (.ifCond .ne 8, 3) := by decide +kernel
theorem dX11_verb_245 : decode cX11_verb 245 = .ok (.bipush 10, 2) := by decide +kernel
theorem dX11_verb_247 : decode cX11_verb 247 = .ok (.goto 28, 3) := by decide +kernel
theorem dX11_verb_250 : decode cX11_verb 250 = .ok (.lload_n 1, 1) := by decide +kernel
theorem dX11_verb_251 : decode cX11_verb 251 = .ok (.bipush 116, 2) := by decide +kernel
theorem dX11_verb_253 : decode cX11_verb 253 = .ok (.bipush 104, 2) := by decide +kernel
theorem dX11_verb_255 : decode cX11_verb 255 = .ok (.bipush 97, 2) := by decide +kernel
theorem dX11_verb_257 : decode cX11_verb 257 = .ok (.bipush 119, 2) := by decide +kernel
theorem dX11_verb_259 : decode cX11_verb 259 = .ok (.iconst 0, 1) := by decide +kernel
theorem dX11_verb_260 : decode cX11_verb 260 = .ok (.iconst 0, 1) := by decide +kernel
theorem dX11_verb_261 : decode cX11_verb 261 = .ok (.iconst 0, 1) := by decide +kernel
theorem dX11_verb_262 : decode cX11_verb 262 = .ok (.invokestatic 88, 3) := by decide +kernel
theorem dX11_verb_265 : decode cX11_verb 265 = .ok (.lcmp, 1) := by decide +kernel
theorem dX11_verb_266 : decode cX11_verb 266 = .ok (.ifCond .ne 8, 3) := by decide +kernel
theorem dX11_verb_269 : decode cX11_verb 269 = .ok (.bipush 11, 2) := by decide +kernel
theorem dX11_verb_271 : decode cX11_verb 271 = .ok (.goto 4, 3) := by decide +kernel
theorem dX11_verb_274 : decode cX11_verb 274 = .ok (.iconst (-1), 1) := by decide +kernel
theorem dX11_verb_275 : decode cX11_verb 275 = .ok (.ireturn, 1) := by decide +kernel
theorem dX11_number_0 : decode cX11_number 0 = .ok (.aload_n 0, 1) := by decide +kernel
theorem dX11_number_1 : decode cX11_number 1 = .ok (.invokevirtual 92, 3) := by decide +kernel
theorem dX11_number_4 : decode cX11_number 4 = .ok (.aload_n 0, 1) := by decide +kernel
theorem dX11_number_5 : decode cX11_number 5 = .ok (.getfield 71, 3) := by decide +kernel
theorem dX11_number_8 : decode cX11_number 8 = .ok (.iconst 2, 1) := by decide +kernel
theorem dX11_number_9 : decode cX11_number 9 = .ok (.if_icmp .ne 25, 3) := by decide +kernel
theorem dX11_number_12 : decode cX11_number 12 = .ok (.aload_n 0, 1) := by decide +kernel
theorem dX11_number_13 : decode cX11_number 13 = .ok (.getfield 68, 3) := by decide +kernel
theorem dX11_number_16 : decode cX11_number 16 = .ok (.i2l, 1) := by decide +kernel
theorem dX11_number_17 : decode cX11_number 17 = .ok (.iload_n 1, 1) := by decide +kernel
theorem dX11_number_18 : decode cX11_number 18 = .ok (.i2l, 1) := by decide +kernel
theorem dX11_number_19 : decode cX11_number 19 = .ok (.iload_n 2, 1) := by decide +kernel
theorem dX11_number_20 : decode cX11_number 20 = .ok (.i2l, 1) := by decide +kernel
theorem dX11_number_21 : decode cX11_number 21 = .ok (.invokestatic 49, 3) := by decide +kernel
theorem dX11_number_24 : decode cX11_number 24 = .ok (.ifCond .eq 10, 3) := by decide +kernel
theorem dX11_number_27 : decode cX11_number 27 = .ok (.aload_n 0, 1) := by decide +kernel
theorem dX11_number_28 : decode cX11_number 28 = .ok (.getfield 68, 3) := by decide +kernel
theorem dX11_number_31 : decode cX11_number 31 = .ok (.goto 4, 3) := by decide +kernel
theorem dX11_number_34 : decode cX11_number 34 = .ok (.iconst (-1), 1) := by decide +kernel
theorem dX11_number_35 : decode cX11_number 35 = .ok (.ireturn, 1) := by decide +kernel
theorem dX11_readSister_0 : decode cX11_readSister 0 = .ok (.aload_n 0, 1) := by decide +kernel
theorem dX11_readSister_1 : decode cX11_readSister 1 = .ok (.getfield 95, 3) := by decide +kernel
theorem dX11_readSister_4 : decode cX11_readSister 4 = .ok (.iconst 5, 1) := by decide +kernel
theorem dX11_readSister_5 : decode cX11_readSister 5 = .ok (.if_icmp .ne 5, 3) := by decide +kernel
theorem dX11_readSister_8 : decode cX11_readSister 8 = .ok (.iconst 0, 1) := by decide +kernel
theorem dX11_readSister_9 : decode cX11_readSister 9 = .ok (.ireturn, 1) := by decide +kernel
theorem dX11_readSister_10 : decode cX11_readSister 10 = .ok (.aload_n 0, 1) := by decide +kernel
theorem dX11_readSister_11 : decode cX11_readSister 11 = .ok (.iconst 1, 1) := by decide +kernel
theorem dX11_readSister_12 : decode cX11_readSister 12 = .ok (.bipush 6, 2) := by decide +kernel
theorem dX11_readSister_14 : decode cX11_readSister 14 = .ok (.invokevirtual 98, 3) := by decide +kernel
theorem dX11_readSister_17 : decode cX11_readSister 17 = .ok (.istore_n 2, 1) := by decide +kernel
theorem dX11_readSister_18 : decode cX11_readSister 18 = .ok (.iload_n 2, 1) := by decide +kernel
theorem dX11_readSister_19 : decode cX11_readSister 19 = .ok (.ifCond .ge 7, 3) := by decide +kernel
theorem dX11_readSister_22 : decode cX11_readSister 22 = .ok (.iconst (-1), 1) := by decide +kernel
theorem dX11_readSister_23 : decode cX11_readSister 23 = .ok (.goto 10, 3) := by decide +kernel
theorem dX11_readSister_26 : decode cX11_readSister 26 = .ok (.aload_n 0, 1) := by decide +kernel
theorem dX11_readSister_27 : decode cX11_readSister 27 = .ok (.iconst 1, 1) := by decide +kernel
theorem dX11_readSister_28 : decode cX11_readSister 28 = .ok (.bipush 40, 2) := by decide +kernel
theorem dX11_readSister_30 : decode cX11_readSister 30 = .ok (.invokevirtual 98, 3) := by decide +kernel
theorem dX11_readSister_33 : decode cX11_readSister 33 = .ok (.istore_n 3, 1) := by decide +kernel
theorem dX11_readSister_34 : decode cX11_readSister 34 = .ok (.iload_n 3, 1) := by decide +kernel
theorem dX11_readSister_35 : decode cX11_readSister 35 = .ok (.ifCond .ge 5, 3) := by decide +kernel
theorem dX11_readSister_38 : decode cX11_readSister 38 = .ok (.iconst 0, 1) := by decide +kernel
theorem dX11_readSister_39 : decode cX11_readSister 39 = .ok (.ireturn, 1) := by decide +kernel
theorem dX11_readSister_40 : decode cX11_readSister 40 = .ok (.bipush 6, 2) := by decide +kernel
theorem dX11_readSister_42 : decode cX11_readSister 42 = .ok (.iconst 5, 1) := by decide +kernel
theorem dX11_readSister_43 : decode cX11_readSister 43 = .ok (.aload_n 0, 1) := by decide +kernel
theorem dX11_readSister_44 : decode cX11_readSister 44 = .ok (.getfield 95, 3) := by decide +kernel
theorem dX11_readSister_47 : decode cX11_readSister 47 = .ok (.imul, 1) := by decide +kernel
theorem dX11_readSister_48 : decode cX11_readSister 48 = .ok (.iadd, 1) := by decide +kernel
theorem dX11_readSister_49 : decode cX11_readSister 49 = .ok (.istore 4, 2) := by decide +kernel
theorem dX11_readSister_51 : decode cX11_readSister 51 = .ok (.aload_n 0, 1) := by decide +kernel
theorem dX11_readSister_52 : decode cX11_readSister 52 = .ok (.getfield 19, 3) := by decide +kernel
theorem dX11_readSister_55 : decode cX11_readSister 55 = .ok (.iload 4, 2) := by decide +kernel
theorem dX11_readSister_57 : decode cX11_readSister 57 = .ok (.iload_n 1, 1) := by decide +kernel
theorem dX11_readSister_58 : decode cX11_readSister 58 = .ok (.iastore, 1) := by decide +kernel
theorem dX11_readSister_59 : decode cX11_readSister 59 = .ok (.aload_n 0, 1) := by decide +kernel
theorem dX11_readSister_60 : decode cX11_readSister 60 = .ok (.getfield 19, 3) := by decide +kernel
theorem dX11_readSister_63 : decode cX11_readSister 63 = .ok (.iload 4, 2) := by decide +kernel
theorem dX11_readSister_65 : decode cX11_readSister 65 = .ok (.iconst 1, 1) := by decide +kernel
theorem dX11_readSister_66 : decode cX11_readSister 66 = .ok (.iadd, 1) := by decide +kernel
theorem dX11_readSister_67 : decode cX11_readSister 67 = .ok (.iload_n 2, 1) := by decide +kernel
theorem dX11_readSister_68 : decode cX11_readSister 68 = .ok (.iastore, 1) := by decide +kernel
theorem dX11_readSister_69 : decode cX11_readSister 69 = .ok (.aload_n 0, 1) := by decide +kernel
theorem dX11_readSister_70 : decode cX11_readSister 70 = .ok (.getfield 19, 3) := by decide +kernel
theorem dX11_readSister_73 : decode cX11_readSister 73 = .ok (.iload 4, 2) := by decide +kernel
theorem dX11_readSister_75 : decode cX11_readSister 75 = .ok (.iconst 2, 1) := by decide +kernel
theorem dX11_readSister_76 : decode cX11_readSister 76 = .ok (.iadd, 1) := by decide +kernel
theorem dX11_readSister_77 : decode cX11_readSister 77 = .ok (.iload_n 3, 1) := by decide +kernel
theorem dX11_readSister_78 : decode cX11_readSister 78 = .ok (.iastore, 1) := by decide +kernel
theorem dX11_readSister_79 : decode cX11_readSister 79 = .ok (.aload_n 0, 1) := by decide +kernel
theorem dX11_readSister_80 : decode cX11_readSister 80 = .ok (.getfield 19, 3) := by decide +kernel
theorem dX11_readSister_83 : decode cX11_readSister 83 = .ok (.iload 4, 2) := by decide +kernel
theorem dX11_readSister_85 : decode cX11_readSister 85 = .ok (.iconst 3, 1) := by decide +kernel
theorem dX11_readSister_86 : decode cX11_readSister 86 = .ok (.iadd, 1) := by decide +kernel
theorem dX11_readSister_87 : decode cX11_readSister 87 = .ok (.aload_n 0, 1) := by decide +kernel
theorem dX11_readSister_88 : decode cX11_readSister 88 = .ok (.getfield 19, 3) := by decide +kernel
theorem dX11_readSister_91 : decode cX11_readSister 91 = .ok (.iconst 4, 1) := by decide +kernel
theorem dX11_readSister_92 : decode cX11_readSister 92 = .ok (.iaload, 1) := by decide +kernel
theorem dX11_readSister_93 : decode cX11_readSister 93 = .ok (.iastore, 1) := by decide +kernel
theorem dX11_readSister_94 : decode cX11_readSister 94 = .ok (.aload_n 0, 1) := by decide +kernel
theorem dX11_readSister_95 : decode cX11_readSister 95 = .ok (.getfield 19, 3) := by decide +kernel
theorem dX11_readSister_98 : decode cX11_readSister 98 = .ok (.iload 4, 2) := by decide +kernel
theorem dX11_readSister_100 : decode cX11_readSister 100 = .ok (.iconst 4, 1) := by decide +kernel
theorem dX11_readSister_101 : decode cX11_readSister 101 = .ok (.iadd, 1) := by decide +kernel
theorem dX11_readSister_102 : decode cX11_readSister 102 = .ok (.aload_n 0, 1) := by decide +kernel
theorem dX11_readSister_103 : decode cX11_readSister 103 = .ok (.getfield 19, 3) := by decide +kernel
theorem dX11_readSister_106 : decode cX11_readSister 106 = .ok (.iconst 5, 1) := by decide +kernel
theorem dX11_readSister_107 : decode cX11_readSister 107 = .ok (.iaload, 1) := by decide +kernel
theorem dX11_readSister_108 : decode cX11_readSister 108 = .ok (.iastore, 1) := by decide +kernel
theorem dX11_readSister_109 : decode cX11_readSister 109 = .ok (.aload_n 0, 1) := by decide +kernel
theorem dX11_readSister_110 : decode cX11_readSister 110 = .ok (.dup, 1) := by decide +kernel
theorem dX11_readSister_111 : decode cX11_readSister 111 = .ok (.getfield 95, 3) := by decide +kernel
theorem dX11_readSister_114 : decode cX11_readSister 114 = .ok (.iconst 1, 1) := by decide +kernel
theorem dX11_readSister_115 : decode cX11_readSister 115 = .ok (.iadd, 1) := by decide +kernel
theorem dX11_readSister_116 : decode cX11_readSister 116 = .ok (.putfield 95, 3) := by decide +kernel
theorem dX11_readSister_119 : decode cX11_readSister 119 = .ok (.iconst 1, 1) := by decide +kernel
theorem dX11_readSister_120 : decode cX11_readSister 120 = .ok (.ireturn, 1) := by decide +kernel
theorem dX11_takes_0 : decode cX11_takes 0 = .ok (.aload_n 0, 1) := by decide +kernel
theorem dX11_takes_1 : decode cX11_takes 1 = .ok (.iload_n 2, 1) := by decide +kernel
theorem dX11_takes_2 : decode cX11_takes 2 = .ok (.iload_n 3, 1) := by decide +kernel
theorem dX11_takes_3 : decode cX11_takes 3 = .ok (.invokevirtual 98, 3) := by decide +kernel
theorem dX11_takes_6 : decode cX11_takes 6 = .ok (.istore 4, 2) := by decide +kernel
theorem dX11_takes_8 : decode cX11_takes 8 = .ok (.aload_n 0, 1) := by decide +kernel
theorem dX11_takes_9 : decode cX11_takes 9 = .ok (.getfield 19, 3) := by decide +kernel
theorem dX11_takes_12 : decode cX11_takes 12 = .ok (.iload_n 1, 1) := by decide +kernel
theorem dX11_takes_13 : decode cX11_takes 13 = .ok (.iload 4, 2) := by decide +kernel
theorem dX11_takes_15 : decode cX11_takes 15 = .ok (.ifCond .ge 12, 3) := by decide +kernel
theorem dX11_takes_18 : decode cX11_takes 18 = .ok (.aload_n 0, 1) := by decide +kernel
theorem dX11_takes_19 : decode cX11_takes 19 = .ok (.getfield 19, 3) := by decide +kernel
theorem dX11_takes_22 : decode cX11_takes 22 = .ok (.iload_n 1, 1) := by decide +kernel
theorem dX11_takes_23 : decode cX11_takes 23 = .ok (.iaload, 1) := by decide +kernel
theorem dX11_takes_24 : decode cX11_takes 24 = .ok (.goto 5, 3) := by decide +kernel
theorem dX11_takes_27 : decode cX11_takes 27 = .ok (.iload 4, 2) := by decide +kernel
theorem dX11_takes_29 : decode cX11_takes 29 = .ok (.iastore, 1) := by decide +kernel
theorem dX11_takes_30 : decode cX11_takes 30 = .ok (.iload 4, 2) := by decide +kernel
theorem dX11_takes_32 : decode cX11_takes 32 = .ok (.ifCond .lt 7, 3) := by decide +kernel
theorem dX11_takes_35 : decode cX11_takes 35 = .ok (.iconst 1, 1) := by decide +kernel
theorem dX11_takes_36 : decode cX11_takes 36 = .ok (.goto 4, 3) := by decide +kernel
theorem dX11_takes_39 : decode cX11_takes 39 = .ok (.iconst 0, 1) := by decide +kernel
theorem dX11_takes_40 : decode cX11_takes 40 = .ok (.ireturn, 1) := by decide +kernel
theorem dX11_readClause_0 : decode cX11_readClause 0 = .ok (.aload_n 0, 1) := by decide +kernel
theorem dX11_readClause_1 : decode cX11_readClause 1 = .ok (.invokevirtual 102, 3) := by decide +kernel
theorem dX11_readClause_4 : decode cX11_readClause 4 = .ok (.istore_n 1, 1) := by decide +kernel
theorem dX11_readClause_5 : decode cX11_readClause 5 = .ok (.iload_n 1, 1) := by decide +kernel
theorem dX11_readClause_6 : decode cX11_readClause 6 = .ok (.ifCond .ge 5, 3) := by decide +kernel
theorem dX11_readClause_9 : decode cX11_readClause 9 = .ok (.iconst 0, 1) := by decide +kernel
theorem dX11_readClause_10 : decode cX11_readClause 10 = .ok (.ireturn, 1) := by decide +kernel
theorem dX11_readClause_11 : decode cX11_readClause 11 = .ok (.iload_n 1, 1) := by decide +kernel
theorem dX11_readClause_12 : decode cX11_readClause 12 = .ok (.iconst 3, 1) := by decide +kernel
theorem dX11_readClause_13 : decode cX11_readClause 13 = .ok (.if_icmp .ge 9, 3) := by decide +kernel
theorem dX11_readClause_16 : decode cX11_readClause 16 = .ok (.aload_n 0, 1) := by decide +kernel
theorem dX11_readClause_17 : decode cX11_readClause 17 = .ok (.iload_n 1, 1) := by decide +kernel
theorem dX11_readClause_18 : decode cX11_readClause 18 = .ok (.invokevirtual 106, 3) := by decide +kernel
theorem dX11_readClause_21 : decode cX11_readClause 21 = .ok (.ireturn, 1) := by decide +kernel
theorem dX11_readClause_22 : decode cX11_readClause 22 = .ok (.iload_n 1, 1) := by decide +kernel
theorem dX11_readClause_23 : decode cX11_readClause 23 = .ok (.bipush 7, 2) := by decide +kernel
theorem dX11_readClause_25 : decode cX11_readClause 25 = .ok (.if_icmp .ge 21, 3) := by decide +kernel
theorem dX11_readClause_28 : decode cX11_readClause 28 = .ok (.aload_n 0, 1) := by decide +kernel
theorem dX11_readClause_29 : decode cX11_readClause 29 = .ok (.getfield 19, 3) := by decide +kernel
theorem dX11_readClause_32 : decode cX11_readClause 32 = .ok (.iconst 4, 1) := by decide +kernel
theorem dX11_readClause_33 : decode cX11_readClause 33 = .ok (.iload_n 1, 1) := by decide +kernel
theorem dX11_readClause_34 : decode cX11_readClause 34 = .ok (.iconst 3, 1) := by decide +kernel
theorem dX11_readClause_35 : decode cX11_readClause 35 = .ok (.isub, 1) := by decide +kernel
theorem dX11_readClause_36 : decode cX11_readClause 36 = .ok (.iastore, 1) := by decide +kernel
theorem dX11_readClause_37 : decode cX11_readClause 37 = .ok (.aload_n 0, 1) := by decide +kernel
theorem dX11_readClause_38 : decode cX11_readClause 38 = .ok (.iconst 5, 1) := by decide +kernel
theorem dX11_readClause_39 : decode cX11_readClause 39 = .ok (.iconst 0, 1) := by decide +kernel
theorem dX11_readClause_40 : decode cX11_readClause 40 = .ok (.bipush 9, 2) := by decide +kernel
theorem dX11_readClause_42 : decode cX11_readClause 42 = .ok (.invokevirtual 110, 3) := by decide +kernel
theorem dX11_readClause_45 : decode cX11_readClause 45 = .ok (.ireturn, 1) := by decide +kernel
theorem dX11_readClause_46 : decode cX11_readClause 46 = .ok (.iload_n 1, 1) := by decide +kernel
theorem dX11_readClause_47 : decode cX11_readClause 47 = .ok (.bipush 7, 2) := by decide +kernel
theorem dX11_readClause_49 : decode cX11_readClause 49 = .ok (.if_icmp .ne 17, 3) := by decide +kernel
theorem dX11_readClause_52 : decode cX11_readClause 52 = .ok (.aload_n 0, 1) := by decide +kernel
theorem dX11_readClause_53 : decode cX11_readClause 53 = .ok (.getfield 19, 3) := by decide +kernel
theorem dX11_readClause_56 : decode cX11_readClause 56 = .ok (.invokestatic 41, 3) := by decide +kernel
theorem dX11_readClause_59 : decode cX11_readClause 59 = .ok (.aload_n 0, 1) := by decide +kernel
theorem dX11_readClause_60 : decode cX11_readClause 60 = .ok (.iconst 0, 1) := by decide +kernel
theorem dX11_readClause_61 : decode cX11_readClause 61 = .ok (.putfield 95, 3) := by decide +kernel
theorem dX11_readClause_64 : decode cX11_readClause 64 = .ok (.iconst 1, 1) := by decide +kernel
theorem dX11_readClause_65 : decode cX11_readClause 65 = .ok (.ireturn, 1) := by decide +kernel
theorem dX11_readClause_66 : decode cX11_readClause 66 = .ok (.iload_n 1, 1) := by decide +kernel
theorem dX11_readClause_67 : decode cX11_readClause 67 = .ok (.bipush 8, 2) := by decide +kernel
theorem dX11_readClause_69 : decode cX11_readClause 69 = .ok (.if_icmp .ne 12, 3) := by decide +kernel
theorem dX11_readClause_72 : decode cX11_readClause 72 = .ok (.aload_n 0, 1) := by decide +kernel
theorem dX11_readClause_73 : decode cX11_readClause 73 = .ok (.iconst 0, 1) := by decide +kernel
theorem dX11_readClause_74 : decode cX11_readClause 74 = .ok (.iconst 1, 1) := by decide +kernel
theorem dX11_readClause_75 : decode cX11_readClause 75 = .ok (.bipush 99, 2) := by decide +kernel
theorem dX11_readClause_77 : decode cX11_readClause 77 = .ok (.invokevirtual 110, 3) := by decide +kernel
theorem dX11_readClause_80 : decode cX11_readClause 80 = .ok (.ireturn, 1) := by decide +kernel
theorem dX11_readClause_81 : decode cX11_readClause 81 = .ok (.iload_n 1, 1) := by decide +kernel
theorem dX11_readClause_82 : decode cX11_readClause 82 = .ok (.bipush 9, 2) := by decide +kernel
theorem dX11_readClause_84 : decode cX11_readClause 84 = .ok (.if_icmp .ne 12, 3) := by decide +kernel
theorem dX11_readClause_87 : decode cX11_readClause 87 = .ok (.aload_n 0, 1) := by decide +kernel
theorem dX11_readClause_88 : decode cX11_readClause 88 = .ok (.iconst 1, 1) := by decide +kernel
theorem dX11_readClause_89 : decode cX11_readClause 89 = .ok (.iconst 0, 1) := by decide +kernel
theorem dX11_readClause_90 : decode cX11_readClause 90 = .ok (.bipush 9, 2) := by decide +kernel
theorem dX11_readClause_92 : decode cX11_readClause 92 = .ok (.invokevirtual 110, 3) := by decide +kernel
theorem dX11_readClause_95 : decode cX11_readClause 95 = .ok (.ireturn, 1) := by decide +kernel
theorem dX11_readClause_96 : decode cX11_readClause 96 = .ok (.iload_n 1, 1) := by decide +kernel
theorem dX11_readClause_97 : decode cX11_readClause 97 = .ok (.bipush 10, 2) := by decide +kernel
theorem dX11_readClause_99 : decode cX11_readClause 99 = .ok (.if_icmp .ne 36, 3) := by decide +kernel
theorem dX11_readClause_102 : decode cX11_readClause 102 = .ok (.aload_n 0, 1) := by decide +kernel
theorem dX11_readClause_103 : decode cX11_readClause 103 = .ok (.iconst 2, 1) := by decide +kernel
theorem dX11_readClause_104 : decode cX11_readClause 104 = .ok (.iconst 0, 1) := by decide +kernel
theorem dX11_readClause_105 : decode cX11_readClause 105 = .ok (.bipush 99, 2) := by decide +kernel
theorem dX11_readClause_107 : decode cX11_readClause 107 = .ok (.invokevirtual 110, 3) := by decide +kernel
theorem dX11_readClause_110 : decode cX11_readClause 110 = .ok (.ifCond .eq 23, 3) := by decide +kernel
theorem dX11_readClause_113 : decode cX11_readClause 113 = .ok (.aload_n 0, 1) := by decide +kernel
theorem dX11_readClause_114 : decode cX11_readClause 114 = .ok (.iconst 3, 1) := by decide +kernel
theorem dX11_readClause_115 : decode cX11_readClause 115 = .ok (.aload_n 0, 1) := by decide +kernel
theorem dX11_readClause_116 : decode cX11_readClause 116 = .ok (.getfield 19, 3) := by decide +kernel
theorem dX11_readClause_119 : decode cX11_readClause 119 = .ok (.iconst 2, 1) := by decide +kernel
theorem dX11_readClause_120 : decode cX11_readClause 120 = .ok (.iaload, 1) := by decide +kernel
theorem dX11_readClause_121 : decode cX11_readClause 121 = .ok (.bipush 99, 2) := by decide +kernel
theorem dX11_readClause_123 : decode cX11_readClause 123 = .ok (.invokevirtual 110, 3) := by decide +kernel
theorem dX11_readClause_126 : decode cX11_readClause 126 = .ok (.ifCond .eq 7, 3) := by decide +kernel
theorem dX11_readClause_129 : decode cX11_readClause 129 = .ok (.iconst 1, 1) := by decide +kernel
theorem dX11_readClause_130 : decode cX11_readClause 130 = .ok (.goto 4, 3) := by decide +kernel
theorem dX11_readClause_133 : decode cX11_readClause 133 = .ok (.iconst 0, 1) := by decide +kernel
theorem dX11_readClause_134 : decode cX11_readClause 134 = .ok (.ireturn, 1) := by decide +kernel
theorem dX11_readClause_135 : decode cX11_readClause 135 = .ok (.aload_n 0, 1) := by decide +kernel
theorem dX11_readClause_136 : decode cX11_readClause 136 = .ok (.getfield 19, 3) := by decide +kernel
theorem dX11_readClause_139 : decode cX11_readClause 139 = .ok (.iconst 2, 1) := by decide +kernel
theorem dX11_readClause_140 : decode cX11_readClause 140 = .ok (.iconst (-1), 1) := by decide +kernel
theorem dX11_readClause_141 : decode cX11_readClause 141 = .ok (.iastore, 1) := by decide +kernel
theorem dX11_readClause_142 : decode cX11_readClause 142 = .ok (.aload_n 0, 1) := by decide +kernel
theorem dX11_readClause_143 : decode cX11_readClause 143 = .ok (.getfield 19, 3) := by decide +kernel
theorem dX11_readClause_146 : decode cX11_readClause 146 = .ok (.iconst 3, 1) := by decide +kernel
theorem dX11_readClause_147 : decode cX11_readClause 147 = .ok (.iconst (-1), 1) := by decide +kernel
theorem dX11_readClause_148 : decode cX11_readClause 148 = .ok (.iastore, 1) := by decide +kernel
theorem dX11_readClause_149 : decode cX11_readClause 149 = .ok (.iconst 1, 1) := by decide +kernel
theorem dX11_readClause_150 : decode cX11_readClause 150 = .ok (.ireturn, 1) := by decide +kernel
theorem dX11_readText_0 : decode cX11_readText 0 = .ok (.aload_n 0, 1) := by decide +kernel
theorem dX11_readText_1 : decode cX11_readText 1 = .ok (.iconst 0, 1) := by decide +kernel
theorem dX11_readText_2 : decode cX11_readText 2 = .ok (.putfield 58, 3) := by decide +kernel
theorem dX11_readText_5 : decode cX11_readText 5 = .ok (.aload_n 0, 1) := by decide +kernel
theorem dX11_readText_6 : decode cX11_readText 6 = .ok (.iconst 0, 1) := by decide +kernel
theorem dX11_readText_7 : decode cX11_readText 7 = .ok (.putfield 114, 3) := by decide +kernel
theorem dX11_readText_10 : decode cX11_readText 10 = .ok (.aload_n 0, 1) := by decide +kernel
theorem dX11_readText_11 : decode cX11_readText 11 = .ok (.aload_n 0, 1) := by decide +kernel
theorem dX11_readText_12 : decode cX11_readText 12 = .ok (.getfield 45, 3) := by decide +kernel
theorem dX11_readText_15 : decode cX11_readText 15 = .ok (.putfield 95, 3) := by decide +kernel
theorem dX11_readText_18 : decode cX11_readText 18 = .ok (.iconst 0, 1) := by decide +kernel
theorem dX11_readText_19 : decode cX11_readText 19 = .ok (.istore_n 1, 1) := by decide +kernel
theorem dX11_readText_20 : decode cX11_readText 20 = .ok (.iload_n 1, 1) := by decide +kernel
theorem dX11_readText_21 : decode cX11_readText 21 = .ok (.bipush 31, 2) := by decide +kernel
theorem dX11_readText_23 : decode cX11_readText 23 = .ok (.if_icmp .ge 21, 3) := by decide +kernel
theorem dX11_readText_26 : decode cX11_readText 26 = .ok (.aload_n 0, 1) := by decide +kernel
theorem dX11_readText_27 : decode cX11_readText 27 = .ok (.getfield 19, 3) := by decide +kernel
theorem dX11_readText_30 : decode cX11_readText 30 = .ok (.iload_n 1, 1) := by decide +kernel
theorem dX11_readText_31 : decode cX11_readText 31 = .ok (.aload_n 0, 1) := by decide +kernel
theorem dX11_readText_32 : decode cX11_readText 32 = .ok (.getfield 7, 3) := by decide +kernel
theorem dX11_readText_35 : decode cX11_readText 35 = .ok (.iload_n 1, 1) := by decide +kernel
theorem dX11_readText_36 : decode cX11_readText 36 = .ok (.iaload, 1) := by decide +kernel
theorem dX11_readText_37 : decode cX11_readText 37 = .ok (.iastore, 1) := by decide +kernel
theorem dX11_readText_38 : decode cX11_readText 38 = .ok (.iinc 1 1, 3) := by decide +kernel
theorem dX11_readText_41 : decode cX11_readText 41 = .ok (.goto (-21), 3) := by decide +kernel
theorem dX11_readText_44 : decode cX11_readText 44 = .ok (.aload_n 0, 1) := by decide +kernel
theorem dX11_readText_45 : decode cX11_readText 45 = .ok (.invokevirtual 92, 3) := by decide +kernel
theorem dX11_readText_48 : decode cX11_readText 48 = .ok (.aload_n 0, 1) := by decide +kernel
theorem dX11_readText_49 : decode cX11_readText 49 = .ok (.invokevirtual 117, 3) := by decide +kernel
theorem dX11_readText_52 : decode cX11_readText 52 = .ok (.ifCond .ne 5, 3) := by decide +kernel
theorem dX11_readText_55 : decode cX11_readText 55 = .ok (.iconst 0, 1) := by decide +kernel
theorem dX11_readText_56 : decode cX11_readText 56 = .ok (.ireturn, 1) := by decide +kernel
theorem dX11_readText_57 : decode cX11_readText 57 = .ok (.aload_n 0, 1) := by decide +kernel
theorem dX11_readText_58 : decode cX11_readText 58 = .ok (.dup, 1) := by decide +kernel
theorem dX11_readText_59 : decode cX11_readText 59 = .ok (.getfield 114, 3) := by decide +kernel
theorem dX11_readText_62 : decode cX11_readText 62 = .ok (.iconst 1, 1) := by decide +kernel
theorem dX11_readText_63 : decode cX11_readText 63 = .ok (.iadd, 1) := by decide +kernel
theorem dX11_readText_64 : decode cX11_readText 64 = .ok (.putfield 114, 3) := by decide +kernel
theorem dX11_readText_67 : decode cX11_readText 67 = .ok (.aload_n 0, 1) := by decide +kernel
theorem dX11_readText_68 : decode cX11_readText 68 = .ok (.invokevirtual 92, 3) := by decide +kernel
theorem dX11_readText_71 : decode cX11_readText 71 = .ok (.aload_n 0, 1) := by decide +kernel
theorem dX11_readText_72 : decode cX11_readText 72 = .ok (.getfield 71, 3) := by decide +kernel
theorem dX11_readText_75 : decode cX11_readText 75 = .ok (.iconst 3, 1) := by decide +kernel
theorem dX11_readText_76 : decode cX11_readText 76 = .ok (.if_icmp .ne 5, 3) := by decide +kernel
theorem dX11_readText_79 : decode cX11_readText 79 = .ok (.iconst 1, 1) := by decide +kernel
theorem dX11_readText_80 : decode cX11_readText 80 = .ok (.ireturn, 1) := by decide +kernel
theorem dX11_readText_81 : decode cX11_readText 81 = .ok (.aload_n 0, 1) := by decide +kernel
theorem dX11_readText_82 : decode cX11_readText 82 = .ok (.getfield 71, 3) := by decide +kernel
theorem dX11_readText_85 : decode cX11_readText 85 = .ok (.ifCond .ne 21, 3) := by decide +kernel
theorem dX11_readText_88 : decode cX11_readText 88 = .ok (.aload_n 0, 1) := by decide +kernel
theorem dX11_readText_89 : decode cX11_readText 89 = .ok (.getfield 68, 3) := by decide +kernel
theorem dX11_readText_92 : decode cX11_readText 92 = .ok (.bipush 59, 2) := by decide +kernel
theorem dX11_readText_94 : decode cX11_readText 94 = .ok (.if_icmp .ne 12, 3) := by decide +kernel
theorem dX11_readText_97 : decode cX11_readText 97 = .ok (.aload_n 0, 1) := by decide +kernel
theorem dX11_readText_98 : decode cX11_readText 98 = .ok (.getfield 114, 3) := by decide +kernel
theorem dX11_readText_101 : decode cX11_readText 101 = .ok (.bipush 14, 2) := by decide +kernel
theorem dX11_readText_103 : decode cX11_readText 103 = .ok (.if_icmp .ne (-59), 3) := by decide +kernel
theorem dX11_readText_106 : decode cX11_readText 106 = .ok (.iconst 0, 1) := by decide +kernel
theorem dX11_readText_107 : decode cX11_readText 107 = .ok (.ireturn, 1) := by decide +kernel
theorem dX11_fault_0 : decode cX11_fault 0 = .ok (.aload_n 0, 1) := by decide +kernel
theorem dX11_fault_1 : decode cX11_fault 1 = .ok (.invokevirtual 121, 3) := by decide +kernel
theorem dX11_fault_4 : decode cX11_fault 4 = .ok (.ifCond .eq 7, 3) := by decide +kernel
theorem dX11_fault_7 : decode cX11_fault 7 = .ok (.iconst (-1), 1) := by decide +kernel
theorem dX11_fault_8 : decode cX11_fault 8 = .ok (.goto 7, 3) := by decide +kernel
theorem dX11_fault_11 : decode cX11_fault 11 = .ok (.aload_n 0, 1) := by decide +kernel
theorem dX11_fault_12 : decode cX11_fault 12 = .ok (.getfield 65, 3) := by decide +kernel
theorem dX11_fault_15 : decode cX11_fault 15 = .ok (.ireturn, 1) := by decide +kernel
theorem dX11_well_0 : decode cX11_well 0 = .ok (.aload_n 0, 1) := by decide +kernel
theorem dX11_well_1 : decode cX11_well 1 = .ok (.invokevirtual 121, 3) := by decide +kernel
theorem dX11_well_4 : decode cX11_well 4 = .ok (.ifCond .ne 6, 3) := by decide +kernel
theorem dX11_well_7 : decode cX11_well 7 = .ok (.bipush (-4), 2) := by decide +kernel
theorem dX11_well_9 : decode cX11_well 9 = .ok (.ireturn, 1) := by decide +kernel
theorem dX11_well_10 : decode cX11_well 10 = .ok (.aload_n 0, 1) := by decide +kernel
theorem dX11_well_11 : decode cX11_well 11 = .ok (.iconst 0, 1) := by decide +kernel
theorem dX11_well_12 : decode cX11_well 12 = .ok (.putfield 55, 3) := by decide +kernel
theorem dX11_well_15 : decode cX11_well 15 = .ok (.aload_n 0, 1) := by decide +kernel
theorem dX11_well_16 : decode cX11_well 16 = .ok (.aload_n 0, 1) := by decide +kernel
theorem dX11_well_17 : decode cX11_well 17 = .ok (.getfield 95, 3) := by decide +kernel
theorem dX11_well_20 : decode cX11_well 20 = .ok (.putfield 45, 3) := by decide +kernel
theorem dX11_well_23 : decode cX11_well 23 = .ok (.iconst 0, 1) := by decide +kernel
theorem dX11_well_24 : decode cX11_well 24 = .ok (.istore_n 1, 1) := by decide +kernel
theorem dX11_well_25 : decode cX11_well 25 = .ok (.iload_n 1, 1) := by decide +kernel
theorem dX11_well_26 : decode cX11_well 26 = .ok (.bipush 31, 2) := by decide +kernel
theorem dX11_well_28 : decode cX11_well 28 = .ok (.if_icmp .ge 21, 3) := by decide +kernel
theorem dX11_well_31 : decode cX11_well 31 = .ok (.aload_n 0, 1) := by decide +kernel
theorem dX11_well_32 : decode cX11_well 32 = .ok (.getfield 7, 3) := by decide +kernel
theorem dX11_well_35 : decode cX11_well 35 = .ok (.iload_n 1, 1) := by decide +kernel
theorem dX11_well_36 : decode cX11_well 36 = .ok (.aload_n 0, 1) := by decide +kernel
theorem dX11_well_37 : decode cX11_well 37 = .ok (.getfield 19, 3) := by decide +kernel
theorem dX11_well_40 : decode cX11_well 40 = .ok (.iload_n 1, 1) := by decide +kernel
theorem dX11_well_41 : decode cX11_well 41 = .ok (.iaload, 1) := by decide +kernel
theorem dX11_well_42 : decode cX11_well 42 = .ok (.iastore, 1) := by decide +kernel
theorem dX11_well_43 : decode cX11_well 43 = .ok (.iinc 1 1, 3) := by decide +kernel
theorem dX11_well_46 : decode cX11_well 46 = .ok (.goto (-21), 3) := by decide +kernel
theorem dX11_well_49 : decode cX11_well 49 = .ok (.aload_n 0, 1) := by decide +kernel
theorem dX11_well_50 : decode cX11_well 50 = .ok (.invokevirtual 124, 3) := by decide +kernel
theorem dX11_well_53 : decode cX11_well 53 = .ok (.aload_n 0, 1) := by decide +kernel
theorem dX11_well_54 : decode cX11_well 54 = .ok (.iconst 0, 1) := by decide +kernel
theorem dX11_well_55 : decode cX11_well 55 = .ok (.putfield 127, 3) := by decide +kernel
theorem dX11_well_58 : decode cX11_well 58 = .ok (.aload_n 0, 1) := by decide +kernel
theorem dX11_well_59 : decode cX11_well 59 = .ok (.iconst 0, 1) := by decide +kernel
theorem dX11_well_60 : decode cX11_well 60 = .ok (.putfield 130, 3) := by decide +kernel
theorem dX11_well_63 : decode cX11_well 63 = .ok (.aload_n 0, 1) := by decide +kernel
theorem dX11_well_64 : decode cX11_well 64 = .ok (.getfield 25, 3) := by decide +kernel
theorem dX11_well_67 : decode cX11_well 67 = .ok (.iconst 0, 1) := by decide +kernel
theorem dX11_well_68 : decode cX11_well 68 = .ok (.iconst 0, 1) := by decide +kernel
theorem dX11_well_69 : decode cX11_well 69 = .ok (.bastore, 1) := by decide +kernel
theorem dX11_well_70 : decode cX11_well 70 = .ok (.aload_n 0, 1) := by decide +kernel
theorem dX11_well_71 : decode cX11_well 71 = .ok (.getfield 25, 3) := by decide +kernel
theorem dX11_well_74 : decode cX11_well 74 = .ok (.iconst 1, 1) := by decide +kernel
theorem dX11_well_75 : decode cX11_well 75 = .ok (.iconst 0, 1) := by decide +kernel
theorem dX11_well_76 : decode cX11_well 76 = .ok (.bastore, 1) := by decide +kernel
theorem dX11_well_77 : decode cX11_well 77 = .ok (.aload_n 0, 1) := by decide +kernel
theorem dX11_well_78 : decode cX11_well 78 = .ok (.getfield 114, 3) := by decide +kernel
theorem dX11_well_81 : decode cX11_well 81 = .ok (.ireturn, 1) := by decide +kernel
theorem dX11_anew_0 : decode cX11_anew 0 = .ok (.iconst 0, 1) := by decide +kernel
theorem dX11_anew_1 : decode cX11_anew 1 = .ok (.istore_n 1, 1) := by decide +kernel
theorem dX11_anew_2 : decode cX11_anew 2 = .ok (.iload_n 1, 1) := by decide +kernel
theorem dX11_anew_3 : decode cX11_anew 3 = .ok (.bipush 35, 2) := by decide +kernel
theorem dX11_anew_5 : decode cX11_anew 5 = .ok (.if_icmp .ge 16, 3) := by decide +kernel
theorem dX11_anew_8 : decode cX11_anew 8 = .ok (.aload_n 0, 1) := by decide +kernel
theorem dX11_anew_9 : decode cX11_anew 9 = .ok (.getfield 13, 3) := by decide +kernel
theorem dX11_anew_12 : decode cX11_anew 12 = .ok (.iload_n 1, 1) := by decide +kernel
theorem dX11_anew_13 : decode cX11_anew 13 = .ok (.iconst 0, 1) := by decide +kernel
theorem dX11_anew_14 : decode cX11_anew 14 = .ok (.iastore, 1) := by decide +kernel
theorem dX11_anew_15 : decode cX11_anew 15 = .ok (.iinc 1 1, 3) := by decide +kernel
theorem dX11_anew_18 : decode cX11_anew 18 = .ok (.goto (-16), 3) := by decide +kernel
theorem dX11_anew_21 : decode cX11_anew 21 = .ok (.aload_n 0, 1) := by decide +kernel
theorem dX11_anew_22 : decode cX11_anew 22 = .ok (.getfield 13, 3) := by decide +kernel
theorem dX11_anew_25 : decode cX11_anew 25 = .ok (.bipush 32, 2) := by decide +kernel
theorem dX11_anew_27 : decode cX11_anew 27 = .ok (.aload_n 0, 1) := by decide +kernel
theorem dX11_anew_28 : decode cX11_anew 28 = .ok (.getfield 7, 3) := by decide +kernel
theorem dX11_anew_31 : decode cX11_anew 31 = .ok (.iconst 1, 1) := by decide +kernel
theorem dX11_anew_32 : decode cX11_anew 32 = .ok (.iaload, 1) := by decide +kernel
theorem dX11_anew_33 : decode cX11_anew 33 = .ok (.iastore, 1) := by decide +kernel
theorem dX11_anew_34 : decode cX11_anew 34 = .ok (.return_, 1) := by decide +kernel
theorem dX11_of_0 : decode cX11_of 0 = .ok (.aload_n 0, 1) := by decide +kernel
theorem dX11_of_1 : decode cX11_of 1 = .ok (.getfield 7, 3) := by decide +kernel
theorem dX11_of_4 : decode cX11_of 4 = .ok (.bipush 6, 2) := by decide +kernel
theorem dX11_of_6 : decode cX11_of 6 = .ok (.iconst 5, 1) := by decide +kernel
theorem dX11_of_7 : decode cX11_of 7 = .ok (.iload_n 1, 1) := by decide +kernel
theorem dX11_of_8 : decode cX11_of 8 = .ok (.imul, 1) := by decide +kernel
theorem dX11_of_9 : decode cX11_of 9 = .ok (.iadd, 1) := by decide +kernel
theorem dX11_of_10 : decode cX11_of 10 = .ok (.iload_n 2, 1) := by decide +kernel
theorem dX11_of_11 : decode cX11_of 11 = .ok (.iadd, 1) := by decide +kernel
theorem dX11_of_12 : decode cX11_of 12 = .ok (.iaload, 1) := by decide +kernel
theorem dX11_of_13 : decode cX11_of 13 = .ok (.ireturn, 1) := by decide +kernel
theorem dX11_walkOf_0 : decode cX11_walkOf 0 = .ok (.aload_n 0, 1) := by decide +kernel
theorem dX11_walkOf_1 : decode cX11_walkOf 1 = .ok (.iload_n 1, 1) := by decide +kernel
theorem dX11_walkOf_2 : decode cX11_walkOf 2 = .ok (.iconst 1, 1) := by decide +kernel
theorem dX11_walkOf_3 : decode cX11_walkOf 3 = .ok (.invokevirtual 133, 3) := by decide +kernel
theorem dX11_walkOf_6 : decode cX11_walkOf 6 = .ok (.istore_n 2, 1) := by decide +kernel
theorem dX11_walkOf_7 : decode cX11_walkOf 7 = .ok (.aload_n 0, 1) := by decide +kernel
theorem dX11_walkOf_8 : decode cX11_walkOf 8 = .ok (.iload_n 1, 1) := by decide +kernel
theorem dX11_walkOf_9 : decode cX11_walkOf 9 = .ok (.iconst 0, 1) := by decide +kernel
theorem dX11_walkOf_10 : decode cX11_walkOf 10 = .ok (.invokevirtual 133, 3) := by decide +kernel
theorem dX11_walkOf_13 : decode cX11_walkOf 13 = .ok (.iconst 1, 1) := by decide +kernel
theorem dX11_walkOf_14 : decode cX11_walkOf 14 = .ok (.if_icmp .eq 5, 3) := by decide +kernel
theorem dX11_walkOf_17 : decode cX11_walkOf 17 = .ok (.iload_n 2, 1) := by decide +kernel
theorem dX11_walkOf_18 : decode cX11_walkOf 18 = .ok (.ireturn, 1) := by decide +kernel
theorem dX11_walkOf_19 : decode cX11_walkOf 19 = .ok (.aload_n 0, 1) := by decide +kernel
theorem dX11_walkOf_20 : decode cX11_walkOf 20 = .ok (.getfield 13, 3) := by decide +kernel
theorem dX11_walkOf_23 : decode cX11_walkOf 23 = .ok (.bipush 20, 2) := by decide +kernel
theorem dX11_walkOf_25 : decode cX11_walkOf 25 = .ok (.iload_n 1, 1) := by decide +kernel
theorem dX11_walkOf_26 : decode cX11_walkOf 26 = .ok (.iadd, 1) := by decide +kernel
theorem dX11_walkOf_27 : decode cX11_walkOf 27 = .ok (.iaload, 1) := by decide +kernel
theorem dX11_walkOf_28 : decode cX11_walkOf 28 = .ok (.iconst 3, 1) := by decide +kernel
theorem dX11_walkOf_29 : decode cX11_walkOf 29 = .ok (.if_icmp .lt 9, 3) := by decide +kernel
theorem dX11_walkOf_32 : decode cX11_walkOf 32 = .ok (.iload_n 2, 1) := by decide +kernel
theorem dX11_walkOf_33 : decode cX11_walkOf 33 = .ok (.iconst 1, 1) := by decide +kernel
theorem dX11_walkOf_34 : decode cX11_walkOf 34 = .ok (.iadd, 1) := by decide +kernel
theorem dX11_walkOf_35 : decode cX11_walkOf 35 = .ok (.goto 15, 3) := by decide +kernel
theorem dX11_walkOf_38 : decode cX11_walkOf 38 = .ok (.iload_n 2, 1) := by decide +kernel
theorem dX11_walkOf_39 : decode cX11_walkOf 39 = .ok (.iconst 1, 1) := by decide +kernel
theorem dX11_walkOf_40 : decode cX11_walkOf 40 = .ok (.if_icmp .le 9, 3) := by decide +kernel
theorem dX11_walkOf_43 : decode cX11_walkOf 43 = .ok (.iload_n 2, 1) := by decide +kernel
theorem dX11_walkOf_44 : decode cX11_walkOf 44 = .ok (.iconst 1, 1) := by decide +kernel
theorem dX11_walkOf_45 : decode cX11_walkOf 45 = .ok (.isub, 1) := by decide +kernel
theorem dX11_walkOf_46 : decode cX11_walkOf 46 = .ok (.goto 4, 3) := by decide +kernel
theorem dX11_walkOf_49 : decode cX11_walkOf 49 = .ok (.iconst 1, 1) := by decide +kernel
theorem dX11_walkOf_50 : decode cX11_walkOf 50 = .ok (.ireturn, 1) := by decide +kernel
theorem dX11_dripOf_0 : decode cX11_dripOf 0 = .ok (.aload_n 0, 1) := by decide +kernel
theorem dX11_dripOf_1 : decode cX11_dripOf 1 = .ok (.iload_n 1, 1) := by decide +kernel
theorem dX11_dripOf_2 : decode cX11_dripOf 2 = .ok (.iconst 3, 1) := by decide +kernel
theorem dX11_dripOf_3 : decode cX11_dripOf 3 = .ok (.invokevirtual 133, 3) := by decide +kernel
theorem dX11_dripOf_6 : decode cX11_dripOf 6 = .ok (.istore_n 2, 1) := by decide +kernel
theorem dX11_dripOf_7 : decode cX11_dripOf 7 = .ok (.aload_n 0, 1) := by decide +kernel
theorem dX11_dripOf_8 : decode cX11_dripOf 8 = .ok (.iload_n 1, 1) := by decide +kernel
theorem dX11_dripOf_9 : decode cX11_dripOf 9 = .ok (.iconst 4, 1) := by decide +kernel
theorem dX11_dripOf_10 : decode cX11_dripOf 10 = .ok (.invokevirtual 133, 3) := by decide +kernel
theorem dX11_dripOf_13 : decode cX11_dripOf 13 = .ok (.istore_n 3, 1) := by decide +kernel
theorem dX11_dripOf_14 : decode cX11_dripOf 14 = .ok (.iload_n 3, 1) := by decide +kernel
theorem dX11_dripOf_15 : decode cX11_dripOf 15 = .ok (.iconst 2, 1) := by decide +kernel
theorem dX11_dripOf_16 : decode cX11_dripOf 16 = .ok (.idiv, 1) := by decide +kernel
theorem dX11_dripOf_17 : decode cX11_dripOf 17 = .ok (.istore 4, 2) := by decide +kernel
theorem dX11_dripOf_19 : decode cX11_dripOf 19 = .ok (.iload_n 2, 1) := by decide +kernel
theorem dX11_dripOf_20 : decode cX11_dripOf 20 = .ok (.ifCond .ne 7, 3) := by decide +kernel
theorem dX11_dripOf_23 : decode cX11_dripOf 23 = .ok (.iload_n 3, 1) := by decide +kernel
theorem dX11_dripOf_24 : decode cX11_dripOf 24 = .ok (.goto 37, 3) := by decide +kernel
theorem dX11_dripOf_27 : decode cX11_dripOf 27 = .ok (.iload_n 2, 1) := by decide +kernel
theorem dX11_dripOf_28 : decode cX11_dripOf 28 = .ok (.iconst 1, 1) := by decide +kernel
theorem dX11_dripOf_29 : decode cX11_dripOf 29 = .ok (.if_icmp .ne 8, 3) := by decide +kernel
theorem dX11_dripOf_32 : decode cX11_dripOf 32 = .ok (.iload 4, 2) := by decide +kernel
theorem dX11_dripOf_34 : decode cX11_dripOf 34 = .ok (.goto 27, 3) := by decide +kernel
theorem dX11_dripOf_37 : decode cX11_dripOf 37 = .ok (.iload_n 2, 1) := by decide +kernel
theorem dX11_dripOf_38 : decode cX11_dripOf 38 = .ok (.iconst 3, 1) := by decide +kernel
theorem dX11_dripOf_39 : decode cX11_dripOf 39 = .ok (.if_icmp .ne 9, 3) := by decide +kernel
theorem dX11_dripOf_42 : decode cX11_dripOf 42 = .ok (.iload_n 3, 1) := by decide +kernel
theorem dX11_dripOf_43 : decode cX11_dripOf 43 = .ok (.iconst 2, 1) := by decide +kernel
theorem dX11_dripOf_44 : decode cX11_dripOf 44 = .ok (.iadd, 1) := by decide +kernel
theorem dX11_dripOf_45 : decode cX11_dripOf 45 = .ok (.goto 16, 3) := by decide +kernel
theorem dX11_dripOf_48 : decode cX11_dripOf 48 = .ok (.iload 4, 2) := by decide +kernel
theorem dX11_dripOf_50 : decode cX11_dripOf 50 = .ok (.ifCond .le 10, 3) := by decide +kernel
theorem dX11_dripOf_53 : decode cX11_dripOf 53 = .ok (.iload 4, 2) := by decide +kernel
theorem dX11_dripOf_55 : decode cX11_dripOf 55 = .ok (.iconst 1, 1) := by decide +kernel
theorem dX11_dripOf_56 : decode cX11_dripOf 56 = .ok (.isub, 1) := by decide +kernel
theorem dX11_dripOf_57 : decode cX11_dripOf 57 = .ok (.goto 4, 3) := by decide +kernel
theorem dX11_dripOf_60 : decode cX11_dripOf 60 = .ok (.iconst 0, 1) := by decide +kernel
theorem dX11_dripOf_61 : decode cX11_dripOf 61 = .ok (.ireturn, 1) := by decide +kernel
theorem dX11_dripNow_0 : decode cX11_dripNow 0 = .ok (.aload_n 0, 1) := by decide +kernel
theorem dX11_dripNow_1 : decode cX11_dripNow 1 = .ok (.getfield 13, 3) := by decide +kernel
theorem dX11_dripNow_4 : decode cX11_dripNow 4 = .ok (.bipush 30, 2) := by decide +kernel
theorem dX11_dripNow_6 : decode cX11_dripNow 6 = .ok (.iaload, 1) := by decide +kernel
theorem dX11_dripNow_7 : decode cX11_dripNow 7 = .ok (.i2l, 1) := by decide +kernel
theorem dX11_dripNow_8 : decode cX11_dripNow 8 = .ok (.aload_n 0, 1) := by decide +kernel
theorem dX11_dripNow_9 : decode cX11_dripNow 9 = .ok (.getfield 7, 3) := by decide +kernel
theorem dX11_dripNow_12 : decode cX11_dripNow 12 = .ok (.iconst 2, 1) := by decide +kernel
theorem dX11_dripNow_13 : decode cX11_dripNow 13 = .ok (.iaload, 1) := by decide +kernel
theorem dX11_dripNow_14 : decode cX11_dripNow 14 = .ok (.i2l, 1) := by decide +kernel
theorem dX11_dripNow_15 : decode cX11_dripNow 15 = .ok (.aload_n 0, 1) := by decide +kernel
theorem dX11_dripNow_16 : decode cX11_dripNow 16 = .ok (.getfield 7, 3) := by decide +kernel
theorem dX11_dripNow_19 : decode cX11_dripNow 19 = .ok (.iconst 3, 1) := by decide +kernel
theorem dX11_dripNow_20 : decode cX11_dripNow 20 = .ok (.iaload, 1) := by decide +kernel
theorem dX11_dripNow_21 : decode cX11_dripNow 21 = .ok (.i2l, 1) := by decide +kernel
theorem dX11_dripNow_22 : decode cX11_dripNow 22 = .ok (.invokestatic 49, 3) := by decide +kernel
theorem dX11_dripNow_25 : decode cX11_dripNow 25 = .ok (.ifCond .eq 5, 3) := by decide +kernel
theorem dX11_dripNow_28 : decode cX11_dripNow 28 = .ok (.iconst 0, 1) := by decide +kernel
theorem dX11_dripNow_29 : decode cX11_dripNow 29 = .ok (.ireturn, 1) := by decide +kernel
theorem dX11_dripNow_30 : decode cX11_dripNow 30 = .ok (.aload_n 0, 1) := by decide +kernel
theorem dX11_dripNow_31 : decode cX11_dripNow 31 = .ok (.getfield 13, 3) := by decide +kernel
theorem dX11_dripNow_34 : decode cX11_dripNow 34 = .ok (.bipush 25, 2) := by decide +kernel
theorem dX11_dripNow_36 : decode cX11_dripNow 36 = .ok (.iload_n 1, 1) := by decide +kernel
theorem dX11_dripNow_37 : decode cX11_dripNow 37 = .ok (.iadd, 1) := by decide +kernel
theorem dX11_dripNow_38 : decode cX11_dripNow 38 = .ok (.iaload, 1) := by decide +kernel
theorem dX11_dripNow_39 : decode cX11_dripNow 39 = .ok (.aload_n 0, 1) := by decide +kernel
theorem dX11_dripNow_40 : decode cX11_dripNow 40 = .ok (.getfield 13, 3) := by decide +kernel
theorem dX11_dripNow_43 : decode cX11_dripNow 43 = .ok (.bipush 30, 2) := by decide +kernel
theorem dX11_dripNow_45 : decode cX11_dripNow 45 = .ok (.iaload, 1) := by decide +kernel
theorem dX11_dripNow_46 : decode cX11_dripNow 46 = .ok (.if_icmp .le 13, 3) := by decide +kernel
theorem dX11_dripNow_49 : decode cX11_dripNow 49 = .ok (.aload_n 0, 1) := by decide +kernel
theorem dX11_dripNow_50 : decode cX11_dripNow 50 = .ok (.iload_n 1, 1) := by decide +kernel
theorem dX11_dripNow_51 : decode cX11_dripNow 51 = .ok (.invokevirtual 136, 3) := by decide +kernel
theorem dX11_dripNow_54 : decode cX11_dripNow 54 = .ok (.iconst 2, 1) := by decide +kernel
theorem dX11_dripNow_55 : decode cX11_dripNow 55 = .ok (.idiv, 1) := by decide +kernel
theorem dX11_dripNow_56 : decode cX11_dripNow 56 = .ok (.goto 8, 3) := by decide +kernel
theorem dX11_dripNow_59 : decode cX11_dripNow 59 = .ok (.aload_n 0, 1) := by decide +kernel
theorem dX11_dripNow_60 : decode cX11_dripNow 60 = .ok (.iload_n 1, 1) := by decide +kernel
theorem dX11_dripNow_61 : decode cX11_dripNow 61 = .ok (.invokevirtual 136, 3) := by decide +kernel
theorem dX11_dripNow_64 : decode cX11_dripNow 64 = .ok (.ireturn, 1) := by decide +kernel
theorem dX11_mossOf_0 : decode cX11_mossOf 0 = .ok (.aload_n 0, 1) := by decide +kernel
theorem dX11_mossOf_1 : decode cX11_mossOf 1 = .ok (.getfield 13, 3) := by decide +kernel
theorem dX11_mossOf_4 : decode cX11_mossOf 4 = .ok (.bipush 25, 2) := by decide +kernel
theorem dX11_mossOf_6 : decode cX11_mossOf 6 = .ok (.iload_n 1, 1) := by decide +kernel
theorem dX11_mossOf_7 : decode cX11_mossOf 7 = .ok (.iadd, 1) := by decide +kernel
theorem dX11_mossOf_8 : decode cX11_mossOf 8 = .ok (.iaload, 1) := by decide +kernel
theorem dX11_mossOf_9 : decode cX11_mossOf 9 = .ok (.aload_n 0, 1) := by decide +kernel
theorem dX11_mossOf_10 : decode cX11_mossOf 10 = .ok (.getfield 13, 3) := by decide +kernel
theorem dX11_mossOf_13 : decode cX11_mossOf 13 = .ok (.bipush 30, 2) := by decide +kernel
theorem dX11_mossOf_15 : decode cX11_mossOf 15 = .ok (.iaload, 1) := by decide +kernel
theorem dX11_mossOf_16 : decode cX11_mossOf 16 = .ok (.isub, 1) := by decide +kernel
theorem dX11_mossOf_17 : decode cX11_mossOf 17 = .ok (.istore_n 2, 1) := by decide +kernel
theorem dX11_mossOf_18 : decode cX11_mossOf 18 = .ok (.iload_n 2, 1) := by decide +kernel
theorem dX11_mossOf_19 : decode cX11_mossOf 19 = .ok (.ifCond .ge 7, 3) := by decide +kernel
theorem dX11_mossOf_22 : decode cX11_mossOf 22 = .ok (.iconst 0, 1) := by decide +kernel
theorem dX11_mossOf_23 : decode cX11_mossOf 23 = .ok (.goto 4, 3) := by decide +kernel
theorem dX11_mossOf_26 : decode cX11_mossOf 26 = .ok (.iload_n 2, 1) := by decide +kernel
theorem dX11_mossOf_27 : decode cX11_mossOf 27 = .ok (.ireturn, 1) := by decide +kernel
theorem dX11_sister_0 : decode cX11_sister 0 = .ok (.aload_n 0, 1) := by decide +kernel
theorem dX11_sister_1 : decode cX11_sister 1 = .ok (.iload_n 1, 1) := by decide +kernel
theorem dX11_sister_2 : decode cX11_sister 2 = .ok (.invokevirtual 139, 3) := by decide +kernel
theorem dX11_sister_5 : decode cX11_sister 5 = .ok (.ifCond .ne 6, 3) := by decide +kernel
theorem dX11_sister_8 : decode cX11_sister 8 = .ok (.bipush (-2), 2) := by decide +kernel
theorem dX11_sister_10 : decode cX11_sister 10 = .ok (.ireturn, 1) := by decide +kernel
theorem dX11_sister_11 : decode cX11_sister 11 = .ok (.iload_n 2, 1) := by decide +kernel
theorem dX11_sister_12 : decode cX11_sister 12 = .ok (.tableswitch 107 0 9 #[56, 56, 56, 56, 56, 63, 72, 81, 91, 101], 56) := by decide +kernel
theorem dX11_sister_68 : decode cX11_sister 68 = .ok (.aload_n 0, 1) := by decide +kernel
theorem dX11_sister_69 : decode cX11_sister 69 = .ok (.iload_n 1, 1) := by decide +kernel
theorem dX11_sister_70 : decode cX11_sister 70 = .ok (.iload_n 2, 1) := by decide +kernel
theorem dX11_sister_71 : decode cX11_sister 71 = .ok (.invokevirtual 133, 3) := by decide +kernel
theorem dX11_sister_74 : decode cX11_sister 74 = .ok (.ireturn, 1) := by decide +kernel
theorem dX11_sister_75 : decode cX11_sister 75 = .ok (.aload_n 0, 1) := by decide +kernel
theorem dX11_sister_76 : decode cX11_sister 76 = .ok (.getfield 13, 3) := by decide +kernel
theorem dX11_sister_79 : decode cX11_sister 79 = .ok (.iconst 0, 1) := by decide +kernel
theorem dX11_sister_80 : decode cX11_sister 80 = .ok (.iload_n 1, 1) := by decide +kernel
theorem dX11_sister_81 : decode cX11_sister 81 = .ok (.iadd, 1) := by decide +kernel
theorem dX11_sister_82 : decode cX11_sister 82 = .ok (.iaload, 1) := by decide +kernel
theorem dX11_sister_83 : decode cX11_sister 83 = .ok (.ireturn, 1) := by decide +kernel
theorem dX11_sister_84 : decode cX11_sister 84 = .ok (.aload_n 0, 1) := by decide +kernel
theorem dX11_sister_85 : decode cX11_sister 85 = .ok (.getfield 13, 3) := by decide +kernel
theorem dX11_sister_88 : decode cX11_sister 88 = .ok (.iconst 5, 1) := by decide +kernel
theorem dX11_sister_89 : decode cX11_sister 89 = .ok (.iload_n 1, 1) := by decide +kernel
theorem dX11_sister_90 : decode cX11_sister 90 = .ok (.iadd, 1) := by decide +kernel
theorem dX11_sister_91 : decode cX11_sister 91 = .ok (.iaload, 1) := by decide +kernel
theorem dX11_sister_92 : decode cX11_sister 92 = .ok (.ireturn, 1) := by decide +kernel
theorem dX11_sister_93 : decode cX11_sister 93 = .ok (.aload_n 0, 1) := by decide +kernel
theorem dX11_sister_94 : decode cX11_sister 94 = .ok (.getfield 13, 3) := by decide +kernel
theorem dX11_sister_97 : decode cX11_sister 97 = .ok (.bipush 15, 2) := by decide +kernel
theorem dX11_sister_99 : decode cX11_sister 99 = .ok (.iload_n 1, 1) := by decide +kernel
theorem dX11_sister_100 : decode cX11_sister 100 = .ok (.iadd, 1) := by decide +kernel
theorem dX11_sister_101 : decode cX11_sister 101 = .ok (.iaload, 1) := by decide +kernel
theorem dX11_sister_102 : decode cX11_sister 102 = .ok (.ireturn, 1) := by decide +kernel
theorem dX11_sister_103 : decode cX11_sister 103 = .ok (.aload_n 0, 1) := by decide +kernel
theorem dX11_sister_104 : decode cX11_sister 104 = .ok (.getfield 13, 3) := by decide +kernel
theorem dX11_sister_107 : decode cX11_sister 107 = .ok (.bipush 20, 2) := by decide +kernel
theorem dX11_sister_109 : decode cX11_sister 109 = .ok (.iload_n 1, 1) := by decide +kernel
theorem dX11_sister_110 : decode cX11_sister 110 = .ok (.iadd, 1) := by decide +kernel
theorem dX11_sister_111 : decode cX11_sister 111 = .ok (.iaload, 1) := by decide +kernel
theorem dX11_sister_112 : decode cX11_sister 112 = .ok (.ireturn, 1) := by decide +kernel
theorem dX11_sister_113 : decode cX11_sister 113 = .ok (.aload_n 0, 1) := by decide +kernel
theorem dX11_sister_114 : decode cX11_sister 114 = .ok (.iload_n 1, 1) := by decide +kernel
theorem dX11_sister_115 : decode cX11_sister 115 = .ok (.invokevirtual 142, 3) := by decide +kernel
theorem dX11_sister_118 : decode cX11_sister 118 = .ok (.ireturn, 1) := by decide +kernel
theorem dX11_sister_119 : decode cX11_sister 119 = .ok (.bipush (-3), 2) := by decide +kernel
theorem dX11_sister_121 : decode cX11_sister 121 = .ok (.ireturn, 1) := by decide +kernel
theorem dX11_as_0 : decode cX11_as 0 = .ok (.aload_n 0, 1) := by decide +kernel
theorem dX11_as_1 : decode cX11_as 1 = .ok (.iload_n 1, 1) := by decide +kernel
theorem dX11_as_2 : decode cX11_as 2 = .ok (.invokevirtual 139, 3) := by decide +kernel
theorem dX11_as_5 : decode cX11_as 5 = .ok (.ifCond .ne 6, 3) := by decide +kernel
theorem dX11_as_8 : decode cX11_as 8 = .ok (.bipush (-2), 2) := by decide +kernel
theorem dX11_as_10 : decode cX11_as 10 = .ok (.ireturn, 1) := by decide +kernel
theorem dX11_as_11 : decode cX11_as 11 = .ok (.iload_n 2, 1) := by decide +kernel
theorem dX11_as_12 : decode cX11_as 12 = .ok (.i2l, 1) := by decide +kernel
theorem dX11_as_13 : decode cX11_as 13 = .ok (.lconst 0, 1) := by decide +kernel
theorem dX11_as_14 : decode cX11_as 14 = .ok (.ldc2_w 145, 3) := by decide +kernel
theorem dX11_as_17 : decode cX11_as 17 = .ok (.invokestatic 49, 3) := by decide +kernel
theorem dX11_as_20 : decode cX11_as 20 = .ok (.ifCond .ne 6, 3) := by decide +kernel
theorem dX11_as_23 : decode cX11_as 23 = .ok (.bipush (-3), 2) := by decide +kernel
theorem dX11_as_25 : decode cX11_as 25 = .ok (.ireturn, 1) := by decide +kernel
theorem dX11_as_26 : decode cX11_as 26 = .ok (.iload_n 2, 1) := by decide +kernel
theorem dX11_as_27 : decode cX11_as 27 = .ok (.iconst 2, 1) := by decide +kernel
theorem dX11_as_28 : decode cX11_as 28 = .ok (.if_icmp .lt 15, 3) := by decide +kernel
theorem dX11_as_31 : decode cX11_as 31 = .ok (.aload_n 0, 1) := by decide +kernel
theorem dX11_as_32 : decode cX11_as 32 = .ok (.iload_n 1, 1) := by decide +kernel
theorem dX11_as_33 : decode cX11_as 33 = .ok (.iconst 0, 1) := by decide +kernel
theorem dX11_as_34 : decode cX11_as 34 = .ok (.invokevirtual 133, 3) := by decide +kernel
theorem dX11_as_37 : decode cX11_as 37 = .ok (.iload_n 2, 1) := by decide +kernel
theorem dX11_as_38 : decode cX11_as 38 = .ok (.iconst 1, 1) := by decide +kernel
theorem dX11_as_39 : decode cX11_as 39 = .ok (.isub, 1) := by decide +kernel
theorem dX11_as_40 : decode cX11_as 40 = .ok (.if_icmp .ne 11, 3) := by decide +kernel
theorem dX11_as_43 : decode cX11_as 43 = .ok (.aload_n 0, 1) := by decide +kernel
theorem dX11_as_44 : decode cX11_as 44 = .ok (.iload_n 1, 1) := by decide +kernel
theorem dX11_as_45 : decode cX11_as 45 = .ok (.invokevirtual 147, 3) := by decide +kernel
theorem dX11_as_48 : decode cX11_as 48 = .ok (.goto 5, 3) := by decide +kernel
theorem dX11_as_51 : decode cX11_as 51 = .ok (.bipush (-4), 2) := by decide +kernel
theorem dX11_as_53 : decode cX11_as 53 = .ok (.ireturn, 1) := by decide +kernel
theorem dX11_sieveAs_0 : decode cX11_sieveAs 0 = .ok (.aload_n 0, 1) := by decide +kernel
theorem dX11_sieveAs_1 : decode cX11_sieveAs 1 = .ok (.iload_n 1, 1) := by decide +kernel
theorem dX11_sieveAs_2 : decode cX11_sieveAs 2 = .ok (.invokevirtual 139, 3) := by decide +kernel
theorem dX11_sieveAs_5 : decode cX11_sieveAs 5 = .ok (.ifCond .ne 6, 3) := by decide +kernel
theorem dX11_sieveAs_8 : decode cX11_sieveAs 8 = .ok (.bipush (-2), 2) := by decide +kernel
theorem dX11_sieveAs_10 : decode cX11_sieveAs 10 = .ok (.ireturn, 1) := by decide +kernel
theorem dX11_sieveAs_11 : decode cX11_sieveAs 11 = .ok (.iload_n 2, 1) := by decide +kernel
theorem dX11_sieveAs_12 : decode cX11_sieveAs 12 = .ok (.i2l, 1) := by decide +kernel
theorem dX11_sieveAs_13 : decode cX11_sieveAs 13 = .ok (.lconst 0, 1) := by decide +kernel
theorem dX11_sieveAs_14 : decode cX11_sieveAs 14 = .ok (.ldc2_w 150, 3) := by decide +kernel
theorem dX11_sieveAs_17 : decode cX11_sieveAs 17 = .ok (.invokestatic 49, 3) := by decide +kernel
theorem dX11_sieveAs_20 : decode cX11_sieveAs 20 = .ok (.ifCond .ne 6, 3) := by decide +kernel
theorem dX11_sieveAs_23 : decode cX11_sieveAs 23 = .ok (.bipush (-3), 2) := by decide +kernel
theorem dX11_sieveAs_25 : decode cX11_sieveAs 25 = .ok (.ireturn, 1) := by decide +kernel
theorem dX11_sieveAs_26 : decode cX11_sieveAs 26 = .ok (.aload_n 0, 1) := by decide +kernel
theorem dX11_sieveAs_27 : decode cX11_sieveAs 27 = .ok (.iload_n 1, 1) := by decide +kernel
theorem dX11_sieveAs_28 : decode cX11_sieveAs 28 = .ok (.iconst 3, 1) := by decide +kernel
theorem dX11_sieveAs_29 : decode cX11_sieveAs 29 = .ok (.invokevirtual 133, 3) := by decide +kernel
theorem dX11_sieveAs_32 : decode cX11_sieveAs 32 = .ok (.istore_n 3, 1) := by decide +kernel
theorem dX11_sieveAs_33 : decode cX11_sieveAs 33 = .ok (.iload_n 2, 1) := by decide +kernel
theorem dX11_sieveAs_34 : decode cX11_sieveAs 34 = .ok (.ifCond .eq 22, 3) := by decide +kernel
theorem dX11_sieveAs_37 : decode cX11_sieveAs 37 = .ok (.iload_n 2, 1) := by decide +kernel
theorem dX11_sieveAs_38 : decode cX11_sieveAs 38 = .ok (.iload_n 3, 1) := by decide +kernel
theorem dX11_sieveAs_39 : decode cX11_sieveAs 39 = .ok (.iconst 1, 1) := by decide +kernel
theorem dX11_sieveAs_40 : decode cX11_sieveAs 40 = .ok (.iadd, 1) := by decide +kernel
theorem dX11_sieveAs_41 : decode cX11_sieveAs 41 = .ok (.if_icmp .eq 15, 3) := by decide +kernel
theorem dX11_sieveAs_44 : decode cX11_sieveAs 44 = .ok (.iload_n 3, 1) := by decide +kernel
theorem dX11_sieveAs_45 : decode cX11_sieveAs 45 = .ok (.iconst 3, 1) := by decide +kernel
theorem dX11_sieveAs_46 : decode cX11_sieveAs 46 = .ok (.if_icmp .ge 14, 3) := by decide +kernel
theorem dX11_sieveAs_49 : decode cX11_sieveAs 49 = .ok (.iload_n 2, 1) := by decide +kernel
theorem dX11_sieveAs_50 : decode cX11_sieveAs 50 = .ok (.iload_n 3, 1) := by decide +kernel
theorem dX11_sieveAs_51 : decode cX11_sieveAs 51 = .ok (.iconst 1, 1) := by decide +kernel
theorem dX11_sieveAs_52 : decode cX11_sieveAs 52 = .ok (.iadd, 1) := by decide +kernel
theorem dX11_sieveAs_53 : decode cX11_sieveAs 53 = .ok (.if_icmp .gt 7, 3) := by decide +kernel
theorem dX11_sieveAs_56 : decode cX11_sieveAs 56 = .ok (.iconst 1, 1) := by decide +kernel
theorem dX11_sieveAs_57 : decode cX11_sieveAs 57 = .ok (.goto 4, 3) := by decide +kernel
theorem dX11_sieveAs_60 : decode cX11_sieveAs 60 = .ok (.iconst 0, 1) := by decide +kernel
theorem dX11_sieveAs_61 : decode cX11_sieveAs 61 = .ok (.istore 4, 2) := by decide +kernel
theorem dX11_sieveAs_63 : decode cX11_sieveAs 63 = .ok (.iload 4, 2) := by decide +kernel
theorem dX11_sieveAs_65 : decode cX11_sieveAs 65 = .ok (.ifCond .eq 11, 3) := by decide +kernel
theorem dX11_sieveAs_68 : decode cX11_sieveAs 68 = .ok (.aload_n 0, 1) := by decide +kernel
theorem dX11_sieveAs_69 : decode cX11_sieveAs 69 = .ok (.iload_n 1, 1) := by decide +kernel
theorem dX11_sieveAs_70 : decode cX11_sieveAs 70 = .ok (.invokevirtual 136, 3) := by decide +kernel
theorem dX11_sieveAs_73 : decode cX11_sieveAs 73 = .ok (.goto 5, 3) := by decide +kernel
theorem dX11_sieveAs_76 : decode cX11_sieveAs 76 = .ok (.bipush (-4), 2) := by decide +kernel
theorem dX11_sieveAs_78 : decode cX11_sieveAs 78 = .ok (.ireturn, 1) := by decide +kernel
theorem dX11_draws_0 : decode cX11_draws 0 = .ok (.aload_n 0, 1) := by decide +kernel
theorem dX11_draws_1 : decode cX11_draws 1 = .ok (.getfield 13, 3) := by decide +kernel
theorem dX11_draws_4 : decode cX11_draws 4 = .ok (.iconst 0, 1) := by decide +kernel
theorem dX11_draws_5 : decode cX11_draws 5 = .ok (.iload_n 1, 1) := by decide +kernel
theorem dX11_draws_6 : decode cX11_draws 6 = .ok (.iadd, 1) := by decide +kernel
theorem dX11_draws_7 : decode cX11_draws 7 = .ok (.iconst 1, 1) := by decide +kernel
theorem dX11_draws_8 : decode cX11_draws 8 = .ok (.iastore, 1) := by decide +kernel
theorem dX11_draws_9 : decode cX11_draws 9 = .ok (.aload_n 0, 1) := by decide +kernel
theorem dX11_draws_10 : decode cX11_draws 10 = .ok (.getfield 13, 3) := by decide +kernel
theorem dX11_draws_13 : decode cX11_draws 13 = .ok (.iconst 5, 1) := by decide +kernel
theorem dX11_draws_14 : decode cX11_draws 14 = .ok (.iload_n 1, 1) := by decide +kernel
theorem dX11_draws_15 : decode cX11_draws 15 = .ok (.iadd, 1) := by decide +kernel
theorem dX11_draws_16 : decode cX11_draws 16 = .ok (.aload_n 0, 1) := by decide +kernel
theorem dX11_draws_17 : decode cX11_draws 17 = .ok (.iload_n 1, 1) := by decide +kernel
theorem dX11_draws_18 : decode cX11_draws 18 = .ok (.invokevirtual 147, 3) := by decide +kernel
theorem dX11_draws_21 : decode cX11_draws 21 = .ok (.iastore, 1) := by decide +kernel
theorem dX11_draws_22 : decode cX11_draws 22 = .ok (.aload_n 0, 1) := by decide +kernel
theorem dX11_draws_23 : decode cX11_draws 23 = .ok (.getfield 13, 3) := by decide +kernel
theorem dX11_draws_26 : decode cX11_draws 26 = .ok (.bipush 10, 2) := by decide +kernel
theorem dX11_draws_28 : decode cX11_draws 28 = .ok (.iload_n 1, 1) := by decide +kernel
theorem dX11_draws_29 : decode cX11_draws 29 = .ok (.iadd, 1) := by decide +kernel
theorem dX11_draws_30 : decode cX11_draws 30 = .ok (.aload_n 0, 1) := by decide +kernel
theorem dX11_draws_31 : decode cX11_draws 31 = .ok (.getfield 13, 3) := by decide +kernel
theorem dX11_draws_34 : decode cX11_draws 34 = .ok (.iconst 5, 1) := by decide +kernel
theorem dX11_draws_35 : decode cX11_draws 35 = .ok (.iload_n 1, 1) := by decide +kernel
theorem dX11_draws_36 : decode cX11_draws 36 = .ok (.iadd, 1) := by decide +kernel
theorem dX11_draws_37 : decode cX11_draws 37 = .ok (.iaload, 1) := by decide +kernel
theorem dX11_draws_38 : decode cX11_draws 38 = .ok (.iastore, 1) := by decide +kernel
theorem dX11_draws_39 : decode cX11_draws 39 = .ok (.aload_n 0, 1) := by decide +kernel
theorem dX11_draws_40 : decode cX11_draws 40 = .ok (.getfield 13, 3) := by decide +kernel
theorem dX11_draws_43 : decode cX11_draws 43 = .ok (.bipush 15, 2) := by decide +kernel
theorem dX11_draws_45 : decode cX11_draws 45 = .ok (.iload_n 1, 1) := by decide +kernel
theorem dX11_draws_46 : decode cX11_draws 46 = .ok (.iadd, 1) := by decide +kernel
theorem dX11_draws_47 : decode cX11_draws 47 = .ok (.aload_n 0, 1) := by decide +kernel
theorem dX11_draws_48 : decode cX11_draws 48 = .ok (.iload_n 1, 1) := by decide +kernel
theorem dX11_draws_49 : decode cX11_draws 49 = .ok (.iconst 2, 1) := by decide +kernel
theorem dX11_draws_50 : decode cX11_draws 50 = .ok (.invokevirtual 133, 3) := by decide +kernel
theorem dX11_draws_53 : decode cX11_draws 53 = .ok (.iastore, 1) := by decide +kernel
theorem dX11_draws_54 : decode cX11_draws 54 = .ok (.return_, 1) := by decide +kernel
theorem dX11_restNow_0 : decode cX11_restNow 0 = .ok (.aload_n 0, 1) := by decide +kernel
theorem dX11_restNow_1 : decode cX11_restNow 1 = .ok (.getfield 13, 3) := by decide +kernel
theorem dX11_restNow_4 : decode cX11_restNow 4 = .ok (.iconst 0, 1) := by decide +kernel
theorem dX11_restNow_5 : decode cX11_restNow 5 = .ok (.iload_n 1, 1) := by decide +kernel
theorem dX11_restNow_6 : decode cX11_restNow 6 = .ok (.iadd, 1) := by decide +kernel
theorem dX11_restNow_7 : decode cX11_restNow 7 = .ok (.iconst 0, 1) := by decide +kernel
theorem dX11_restNow_8 : decode cX11_restNow 8 = .ok (.iastore, 1) := by decide +kernel
theorem dX11_restNow_9 : decode cX11_restNow 9 = .ok (.aload_n 0, 1) := by decide +kernel
theorem dX11_restNow_10 : decode cX11_restNow 10 = .ok (.getfield 13, 3) := by decide +kernel
theorem dX11_restNow_13 : decode cX11_restNow 13 = .ok (.iconst 5, 1) := by decide +kernel
theorem dX11_restNow_14 : decode cX11_restNow 14 = .ok (.iload_n 1, 1) := by decide +kernel
theorem dX11_restNow_15 : decode cX11_restNow 15 = .ok (.iadd, 1) := by decide +kernel
theorem dX11_restNow_16 : decode cX11_restNow 16 = .ok (.iconst 0, 1) := by decide +kernel
theorem dX11_restNow_17 : decode cX11_restNow 17 = .ok (.iastore, 1) := by decide +kernel
theorem dX11_restNow_18 : decode cX11_restNow 18 = .ok (.aload_n 0, 1) := by decide +kernel
theorem dX11_restNow_19 : decode cX11_restNow 19 = .ok (.getfield 13, 3) := by decide +kernel
theorem dX11_restNow_22 : decode cX11_restNow 22 = .ok (.bipush 15, 2) := by decide +kernel
theorem dX11_restNow_24 : decode cX11_restNow 24 = .ok (.iload_n 1, 1) := by decide +kernel
theorem dX11_restNow_25 : decode cX11_restNow 25 = .ok (.iadd, 1) := by decide +kernel
theorem dX11_restNow_26 : decode cX11_restNow 26 = .ok (.iconst 0, 1) := by decide +kernel
theorem dX11_restNow_27 : decode cX11_restNow 27 = .ok (.iastore, 1) := by decide +kernel
theorem dX11_restNow_28 : decode cX11_restNow 28 = .ok (.return_, 1) := by decide +kernel
theorem dX11_step_0 : decode cX11_step 0 = .ok (.aload_n 0, 1) := by decide +kernel
theorem dX11_step_1 : decode cX11_step 1 = .ok (.getfield 13, 3) := by decide +kernel
theorem dX11_step_4 : decode cX11_step 4 = .ok (.iconst 0, 1) := by decide +kernel
theorem dX11_step_5 : decode cX11_step 5 = .ok (.iload_n 1, 1) := by decide +kernel
theorem dX11_step_6 : decode cX11_step 6 = .ok (.iadd, 1) := by decide +kernel
theorem dX11_step_7 : decode cX11_step 7 = .ok (.iaload, 1) := by decide +kernel
theorem dX11_step_8 : decode cX11_step 8 = .ok (.istore_n 2, 1) := by decide +kernel
theorem dX11_step_9 : decode cX11_step 9 = .ok (.iload_n 2, 1) := by decide +kernel
theorem dX11_step_10 : decode cX11_step 10 = .ok (.ifCond .ne 5, 3) := by decide +kernel
theorem dX11_step_13 : decode cX11_step 13 = .ok (.iconst 0, 1) := by decide +kernel
theorem dX11_step_14 : decode cX11_step 14 = .ok (.ireturn, 1) := by decide +kernel
theorem dX11_step_15 : decode cX11_step 15 = .ok (.aload_n 0, 1) := by decide +kernel
theorem dX11_step_16 : decode cX11_step 16 = .ok (.getfield 13, 3) := by decide +kernel
theorem dX11_step_19 : decode cX11_step 19 = .ok (.iconst 5, 1) := by decide +kernel
theorem dX11_step_20 : decode cX11_step 20 = .ok (.iload_n 1, 1) := by decide +kernel
theorem dX11_step_21 : decode cX11_step 21 = .ok (.iadd, 1) := by decide +kernel
theorem dX11_step_22 : decode cX11_step 22 = .ok (.dup2, 1) := by decide +kernel
theorem dX11_step_23 : decode cX11_step 23 = .ok (.iaload, 1) := by decide +kernel
theorem dX11_step_24 : decode cX11_step 24 = .ok (.iconst 1, 1) := by decide +kernel
theorem dX11_step_25 : decode cX11_step 25 = .ok (.isub, 1) := by decide +kernel
theorem dX11_step_26 : decode cX11_step 26 = .ok (.iastore, 1) := by decide +kernel
theorem dX11_step_27 : decode cX11_step 27 = .ok (.iload_n 2, 1) := by decide +kernel
theorem dX11_step_28 : decode cX11_step 28 = .ok (.iconst 1, 1) := by decide +kernel
theorem dX11_step_29 : decode cX11_step 29 = .ok (.if_icmp .ne 37, 3) := by decide +kernel
theorem dX11_step_32 : decode cX11_step 32 = .ok (.aload_n 0, 1) := by decide +kernel
theorem dX11_step_33 : decode cX11_step 33 = .ok (.getfield 13, 3) := by decide +kernel
theorem dX11_step_36 : decode cX11_step 36 = .ok (.bipush 15, 2) := by decide +kernel
theorem dX11_step_38 : decode cX11_step 38 = .ok (.iload_n 1, 1) := by decide +kernel
theorem dX11_step_39 : decode cX11_step 39 = .ok (.iadd, 1) := by decide +kernel
theorem dX11_step_40 : decode cX11_step 40 = .ok (.iaload, 1) := by decide +kernel
theorem dX11_step_41 : decode cX11_step 41 = .ok (.aload_n 0, 1) := by decide +kernel
theorem dX11_step_42 : decode cX11_step 42 = .ok (.iload_n 1, 1) := by decide +kernel
theorem dX11_step_43 : decode cX11_step 43 = .ok (.invokevirtual 152, 3) := by decide +kernel
theorem dX11_step_46 : decode cX11_step 46 = .ok (.isub, 1) := by decide +kernel
theorem dX11_step_47 : decode cX11_step 47 = .ok (.istore_n 3, 1) := by decide +kernel
theorem dX11_step_48 : decode cX11_step 48 = .ok (.aload_n 0, 1) := by decide +kernel
theorem dX11_step_49 : decode cX11_step 49 = .ok (.getfield 13, 3) := by decide +kernel
theorem dX11_step_52 : decode cX11_step 52 = .ok (.bipush 15, 2) := by decide +kernel
theorem dX11_step_54 : decode cX11_step 54 = .ok (.iload_n 1, 1) := by decide +kernel
theorem dX11_step_55 : decode cX11_step 55 = .ok (.iadd, 1) := by decide +kernel
theorem dX11_step_56 : decode cX11_step 56 = .ok (.iload_n 3, 1) := by decide +kernel
theorem dX11_step_57 : decode cX11_step 57 = .ok (.ifCond .ge 7, 3) := by decide +kernel
theorem dX11_step_60 : decode cX11_step 60 = .ok (.iconst 0, 1) := by decide +kernel
theorem dX11_step_61 : decode cX11_step 61 = .ok (.goto 4, 3) := by decide +kernel
theorem dX11_step_64 : decode cX11_step 64 = .ok (.iload_n 3, 1) := by decide +kernel
theorem dX11_step_65 : decode cX11_step 65 = .ok (.iastore, 1) := by decide +kernel
theorem dX11_step_66 : decode cX11_step 66 = .ok (.aload_n 0, 1) := by decide +kernel
theorem dX11_step_67 : decode cX11_step 67 = .ok (.getfield 13, 3) := by decide +kernel
theorem dX11_step_70 : decode cX11_step 70 = .ok (.iconst 5, 1) := by decide +kernel
theorem dX11_step_71 : decode cX11_step 71 = .ok (.iload_n 1, 1) := by decide +kernel
theorem dX11_step_72 : decode cX11_step 72 = .ok (.iadd, 1) := by decide +kernel
theorem dX11_step_73 : decode cX11_step 73 = .ok (.iaload, 1) := by decide +kernel
theorem dX11_step_74 : decode cX11_step 74 = .ok (.ifCond .le 5, 3) := by decide +kernel
theorem dX11_step_77 : decode cX11_step 77 = .ok (.iconst 0, 1) := by decide +kernel
theorem dX11_step_78 : decode cX11_step 78 = .ok (.ireturn, 1) := by decide +kernel
theorem dX11_step_79 : decode cX11_step 79 = .ok (.iload_n 2, 1) := by decide +kernel
theorem dX11_step_80 : decode cX11_step 80 = .ok (.iconst 2, 1) := by decide +kernel
theorem dX11_step_81 : decode cX11_step 81 = .ok (.if_icmp .ne 23, 3) := by decide +kernel
theorem dX11_step_84 : decode cX11_step 84 = .ok (.aload_n 0, 1) := by decide +kernel
theorem dX11_step_85 : decode cX11_step 85 = .ok (.getfield 13, 3) := by decide +kernel
theorem dX11_step_88 : decode cX11_step 88 = .ok (.bipush 20, 2) := by decide +kernel
theorem dX11_step_90 : decode cX11_step 90 = .ok (.iload_n 1, 1) := by decide +kernel
theorem dX11_step_91 : decode cX11_step 91 = .ok (.iadd, 1) := by decide +kernel
theorem dX11_step_92 : decode cX11_step 92 = .ok (.dup2, 1) := by decide +kernel
theorem dX11_step_93 : decode cX11_step 93 = .ok (.iaload, 1) := by decide +kernel
theorem dX11_step_94 : decode cX11_step 94 = .ok (.iconst 1, 1) := by decide +kernel
theorem dX11_step_95 : decode cX11_step 95 = .ok (.iadd, 1) := by decide +kernel
theorem dX11_step_96 : decode cX11_step 96 = .ok (.iastore, 1) := by decide +kernel
theorem dX11_step_97 : decode cX11_step 97 = .ok (.aload_n 0, 1) := by decide +kernel
theorem dX11_step_98 : decode cX11_step 98 = .ok (.iload_n 1, 1) := by decide +kernel
theorem dX11_step_99 : decode cX11_step 99 = .ok (.invokevirtual 155, 3) := by decide +kernel
theorem dX11_step_102 : decode cX11_step 102 = .ok (.iconst 0, 1) := by decide +kernel
theorem dX11_step_103 : decode cX11_step 103 = .ok (.ireturn, 1) := by decide +kernel
theorem dX11_step_104 : decode cX11_step 104 = .ok (.aload_n 0, 1) := by decide +kernel
theorem dX11_step_105 : decode cX11_step 105 = .ok (.getfield 13, 3) := by decide +kernel
theorem dX11_step_108 : decode cX11_step 108 = .ok (.bipush 15, 2) := by decide +kernel
theorem dX11_step_110 : decode cX11_step 110 = .ok (.iload_n 1, 1) := by decide +kernel
theorem dX11_step_111 : decode cX11_step 111 = .ok (.iadd, 1) := by decide +kernel
theorem dX11_step_112 : decode cX11_step 112 = .ok (.iaload, 1) := by decide +kernel
theorem dX11_step_113 : decode cX11_step 113 = .ok (.istore_n 3, 1) := by decide +kernel
theorem dX11_step_114 : decode cX11_step 114 = .ok (.aload_n 0, 1) := by decide +kernel
theorem dX11_step_115 : decode cX11_step 115 = .ok (.getfield 13, 3) := by decide +kernel
theorem dX11_step_118 : decode cX11_step 118 = .ok (.bipush 15, 2) := by decide +kernel
theorem dX11_step_120 : decode cX11_step 120 = .ok (.iload_n 1, 1) := by decide +kernel
theorem dX11_step_121 : decode cX11_step 121 = .ok (.iadd, 1) := by decide +kernel
theorem dX11_step_122 : decode cX11_step 122 = .ok (.iconst 0, 1) := by decide +kernel
theorem dX11_step_123 : decode cX11_step 123 = .ok (.iastore, 1) := by decide +kernel
theorem dX11_step_124 : decode cX11_step 124 = .ok (.aload_n 0, 1) := by decide +kernel
theorem dX11_step_125 : decode cX11_step 125 = .ok (.getfield 13, 3) := by decide +kernel
theorem dX11_step_128 : decode cX11_step 128 = .ok (.iconst 0, 1) := by decide +kernel
theorem dX11_step_129 : decode cX11_step 129 = .ok (.iload_n 1, 1) := by decide +kernel
theorem dX11_step_130 : decode cX11_step 130 = .ok (.iadd, 1) := by decide +kernel
theorem dX11_step_131 : decode cX11_step 131 = .ok (.iconst 2, 1) := by decide +kernel
theorem dX11_step_132 : decode cX11_step 132 = .ok (.iastore, 1) := by decide +kernel
theorem dX11_step_133 : decode cX11_step 133 = .ok (.aload_n 0, 1) := by decide +kernel
theorem dX11_step_134 : decode cX11_step 134 = .ok (.getfield 13, 3) := by decide +kernel
theorem dX11_step_137 : decode cX11_step 137 = .ok (.iconst 5, 1) := by decide +kernel
theorem dX11_step_138 : decode cX11_step 138 = .ok (.iload_n 1, 1) := by decide +kernel
theorem dX11_step_139 : decode cX11_step 139 = .ok (.iadd, 1) := by decide +kernel
theorem dX11_step_140 : decode cX11_step 140 = .ok (.aload_n 0, 1) := by decide +kernel
theorem dX11_step_141 : decode cX11_step 141 = .ok (.getfield 13, 3) := by decide +kernel
theorem dX11_step_144 : decode cX11_step 144 = .ok (.bipush 10, 2) := by decide +kernel
theorem dX11_step_146 : decode cX11_step 146 = .ok (.iload_n 1, 1) := by decide +kernel
theorem dX11_step_147 : decode cX11_step 147 = .ok (.iadd, 1) := by decide +kernel
theorem dX11_step_148 : decode cX11_step 148 = .ok (.iaload, 1) := by decide +kernel
theorem dX11_step_149 : decode cX11_step 149 = .ok (.aload_n 0, 1) := by decide +kernel
theorem dX11_step_150 : decode cX11_step 150 = .ok (.iload_n 1, 1) := by decide +kernel
theorem dX11_step_151 : decode cX11_step 151 = .ok (.iconst 0, 1) := by decide +kernel
theorem dX11_step_152 : decode cX11_step 152 = .ok (.invokevirtual 133, 3) := by decide +kernel
theorem dX11_step_155 : decode cX11_step 155 = .ok (.iconst 2, 1) := by decide +kernel
theorem dX11_step_156 : decode cX11_step 156 = .ok (.if_icmp .ne 7, 3) := by decide +kernel
theorem dX11_step_159 : decode cX11_step 159 = .ok (.iconst 2, 1) := by decide +kernel
theorem dX11_step_160 : decode cX11_step 160 = .ok (.goto 4, 3) := by decide +kernel
theorem dX11_step_163 : decode cX11_step 163 = .ok (.iconst 0, 1) := by decide +kernel
theorem dX11_step_164 : decode cX11_step 164 = .ok (.iadd, 1) := by decide +kernel
theorem dX11_step_165 : decode cX11_step 165 = .ok (.iastore, 1) := by decide +kernel
theorem dX11_step_166 : decode cX11_step 166 = .ok (.iload_n 3, 1) := by decide +kernel
theorem dX11_step_167 : decode cX11_step 167 = .ok (.ireturn, 1) := by decide +kernel
theorem dX11_oneMinute_0 : decode cX11_oneMinute 0 = .ok (.iconst 0, 1) := by decide +kernel
theorem dX11_oneMinute_1 : decode cX11_oneMinute 1 = .ok (.istore_n 1, 1) := by decide +kernel
theorem dX11_oneMinute_2 : decode cX11_oneMinute 2 = .ok (.iconst 0, 1) := by decide +kernel
theorem dX11_oneMinute_3 : decode cX11_oneMinute 3 = .ok (.istore_n 2, 1) := by decide +kernel
theorem dX11_oneMinute_4 : decode cX11_oneMinute 4 = .ok (.iload_n 2, 1) := by decide +kernel
theorem dX11_oneMinute_5 : decode cX11_oneMinute 5 = .ok (.aload_n 0, 1) := by decide +kernel
theorem dX11_oneMinute_6 : decode cX11_oneMinute 6 = .ok (.getfield 45, 3) := by decide +kernel
theorem dX11_oneMinute_9 : decode cX11_oneMinute 9 = .ok (.if_icmp .ge 17, 3) := by decide +kernel
theorem dX11_oneMinute_12 : decode cX11_oneMinute 12 = .ok (.iload_n 1, 1) := by decide +kernel
theorem dX11_oneMinute_13 : decode cX11_oneMinute 13 = .ok (.aload_n 0, 1) := by decide +kernel
theorem dX11_oneMinute_14 : decode cX11_oneMinute 14 = .ok (.iload_n 2, 1) := by decide +kernel
theorem dX11_oneMinute_15 : decode cX11_oneMinute 15 = .ok (.invokevirtual 159, 3) := by decide +kernel
theorem dX11_oneMinute_18 : decode cX11_oneMinute 18 = .ok (.iadd, 1) := by decide +kernel
theorem dX11_oneMinute_19 : decode cX11_oneMinute 19 = .ok (.istore_n 1, 1) := by decide +kernel
theorem dX11_oneMinute_20 : decode cX11_oneMinute 20 = .ok (.iinc 2 1, 3) := by decide +kernel
theorem dX11_oneMinute_23 : decode cX11_oneMinute 23 = .ok (.goto (-19), 3) := by decide +kernel
theorem dX11_oneMinute_26 : decode cX11_oneMinute 26 = .ok (.aload_n 0, 1) := by decide +kernel
theorem dX11_oneMinute_27 : decode cX11_oneMinute 27 = .ok (.getfield 13, 3) := by decide +kernel
theorem dX11_oneMinute_30 : decode cX11_oneMinute 30 = .ok (.bipush 34, 2) := by decide +kernel
theorem dX11_oneMinute_32 : decode cX11_oneMinute 32 = .ok (.dup2, 1) := by decide +kernel
theorem dX11_oneMinute_33 : decode cX11_oneMinute 33 = .ok (.iaload, 1) := by decide +kernel
theorem dX11_oneMinute_34 : decode cX11_oneMinute 34 = .ok (.iload_n 1, 1) := by decide +kernel
theorem dX11_oneMinute_35 : decode cX11_oneMinute 35 = .ok (.iadd, 1) := by decide +kernel
theorem dX11_oneMinute_36 : decode cX11_oneMinute 36 = .ok (.iastore, 1) := by decide +kernel
theorem dX11_oneMinute_37 : decode cX11_oneMinute 37 = .ok (.aload_n 0, 1) := by decide +kernel
theorem dX11_oneMinute_38 : decode cX11_oneMinute 38 = .ok (.getfield 13, 3) := by decide +kernel
theorem dX11_oneMinute_41 : decode cX11_oneMinute 41 = .ok (.bipush 31, 2) := by decide +kernel
theorem dX11_oneMinute_43 : decode cX11_oneMinute 43 = .ok (.iaload, 1) := by decide +kernel
theorem dX11_oneMinute_44 : decode cX11_oneMinute 44 = .ok (.iload_n 1, 1) := by decide +kernel
theorem dX11_oneMinute_45 : decode cX11_oneMinute 45 = .ok (.iadd, 1) := by decide +kernel
theorem dX11_oneMinute_46 : decode cX11_oneMinute 46 = .ok (.istore_n 2, 1) := by decide +kernel
theorem dX11_oneMinute_47 : decode cX11_oneMinute 47 = .ok (.iload_n 2, 1) := by decide +kernel
theorem dX11_oneMinute_48 : decode cX11_oneMinute 48 = .ok (.aload_n 0, 1) := by decide +kernel
theorem dX11_oneMinute_49 : decode cX11_oneMinute 49 = .ok (.getfield 7, 3) := by decide +kernel
theorem dX11_oneMinute_52 : decode cX11_oneMinute 52 = .ok (.iconst 0, 1) := by decide +kernel
theorem dX11_oneMinute_53 : decode cX11_oneMinute 53 = .ok (.iaload, 1) := by decide +kernel
theorem dX11_oneMinute_54 : decode cX11_oneMinute 54 = .ok (.if_icmp .le 12, 3) := by decide +kernel
theorem dX11_oneMinute_57 : decode cX11_oneMinute 57 = .ok (.aload_n 0, 1) := by decide +kernel
theorem dX11_oneMinute_58 : decode cX11_oneMinute 58 = .ok (.getfield 7, 3) := by decide +kernel
theorem dX11_oneMinute_61 : decode cX11_oneMinute 61 = .ok (.iconst 0, 1) := by decide +kernel
theorem dX11_oneMinute_62 : decode cX11_oneMinute 62 = .ok (.iaload, 1) := by decide +kernel
theorem dX11_oneMinute_63 : decode cX11_oneMinute 63 = .ok (.goto 4, 3) := by decide +kernel
theorem dX11_oneMinute_66 : decode cX11_oneMinute 66 = .ok (.iload_n 2, 1) := by decide +kernel
theorem dX11_oneMinute_67 : decode cX11_oneMinute 67 = .ok (.istore_n 2, 1) := by decide +kernel
theorem dX11_oneMinute_68 : decode cX11_oneMinute 68 = .ok (.aload_n 0, 1) := by decide +kernel
theorem dX11_oneMinute_69 : decode cX11_oneMinute 69 = .ok (.getfield 13, 3) := by decide +kernel
theorem dX11_oneMinute_72 : decode cX11_oneMinute 72 = .ok (.bipush 33, 2) := by decide +kernel
theorem dX11_oneMinute_74 : decode cX11_oneMinute 74 = .ok (.dup2, 1) := by decide +kernel
theorem dX11_oneMinute_75 : decode cX11_oneMinute 75 = .ok (.iaload, 1) := by decide +kernel
theorem dX11_oneMinute_76 : decode cX11_oneMinute 76 = .ok (.iload_n 2, 1) := by decide +kernel
theorem dX11_oneMinute_77 : decode cX11_oneMinute 77 = .ok (.aload_n 0, 1) := by decide +kernel
theorem dX11_oneMinute_78 : decode cX11_oneMinute 78 = .ok (.getfield 7, 3) := by decide +kernel
theorem dX11_oneMinute_81 : decode cX11_oneMinute 81 = .ok (.iconst 0, 1) := by decide +kernel
theorem dX11_oneMinute_82 : decode cX11_oneMinute 82 = .ok (.iaload, 1) := by decide +kernel
theorem dX11_oneMinute_83 : decode cX11_oneMinute 83 = .ok (.if_icmp .ne 7, 3) := by decide +kernel
theorem dX11_oneMinute_86 : decode cX11_oneMinute 86 = .ok (.iconst 1, 1) := by decide +kernel
theorem dX11_oneMinute_87 : decode cX11_oneMinute 87 = .ok (.goto 4, 3) := by decide +kernel
theorem dX11_oneMinute_90 : decode cX11_oneMinute 90 = .ok (.iconst 0, 1) := by decide +kernel
theorem dX11_oneMinute_91 : decode cX11_oneMinute 91 = .ok (.iadd, 1) := by decide +kernel
theorem dX11_oneMinute_92 : decode cX11_oneMinute 92 = .ok (.iastore, 1) := by decide +kernel
theorem dX11_oneMinute_93 : decode cX11_oneMinute 93 = .ok (.aload_n 0, 1) := by decide +kernel
theorem dX11_oneMinute_94 : decode cX11_oneMinute 94 = .ok (.getfield 13, 3) := by decide +kernel
theorem dX11_oneMinute_97 : decode cX11_oneMinute 97 = .ok (.bipush 31, 2) := by decide +kernel
theorem dX11_oneMinute_99 : decode cX11_oneMinute 99 = .ok (.iload_n 2, 1) := by decide +kernel
theorem dX11_oneMinute_100 : decode cX11_oneMinute 100 = .ok (.iload_n 2, 1) := by decide +kernel
theorem dX11_oneMinute_101 : decode cX11_oneMinute 101 = .ok (.aload_n 0, 1) := by decide +kernel
theorem dX11_oneMinute_102 : decode cX11_oneMinute 102 = .ok (.getfield 13, 3) := by decide +kernel
theorem dX11_oneMinute_105 : decode cX11_oneMinute 105 = .ok (.bipush 32, 2) := by decide +kernel
theorem dX11_oneMinute_107 : decode cX11_oneMinute 107 = .ok (.iaload, 1) := by decide +kernel
theorem dX11_oneMinute_108 : decode cX11_oneMinute 108 = .ok (.imul, 1) := by decide +kernel
theorem dX11_oneMinute_109 : decode cX11_oneMinute 109 = .ok (.bipush 19, 2) := by decide +kernel
theorem dX11_oneMinute_111 : decode cX11_oneMinute 111 = .ok (.iadd, 1) := by decide +kernel
theorem dX11_oneMinute_112 : decode cX11_oneMinute 112 = .ok (.bipush 20, 2) := by decide +kernel
theorem dX11_oneMinute_114 : decode cX11_oneMinute 114 = .ok (.idiv, 1) := by decide +kernel
theorem dX11_oneMinute_115 : decode cX11_oneMinute 115 = .ok (.isub, 1) := by decide +kernel
theorem dX11_oneMinute_116 : decode cX11_oneMinute 116 = .ok (.iastore, 1) := by decide +kernel
theorem dX11_oneMinute_117 : decode cX11_oneMinute 117 = .ok (.aload_n 0, 1) := by decide +kernel
theorem dX11_oneMinute_118 : decode cX11_oneMinute 118 = .ok (.getfield 13, 3) := by decide +kernel
theorem dX11_oneMinute_121 : decode cX11_oneMinute 121 = .ok (.bipush 30, 2) := by decide +kernel
theorem dX11_oneMinute_123 : decode cX11_oneMinute 123 = .ok (.dup2, 1) := by decide +kernel
theorem dX11_oneMinute_124 : decode cX11_oneMinute 124 = .ok (.iaload, 1) := by decide +kernel
theorem dX11_oneMinute_125 : decode cX11_oneMinute 125 = .ok (.iconst 1, 1) := by decide +kernel
theorem dX11_oneMinute_126 : decode cX11_oneMinute 126 = .ok (.iadd, 1) := by decide +kernel
theorem dX11_oneMinute_127 : decode cX11_oneMinute 127 = .ok (.iastore, 1) := by decide +kernel
theorem dX11_oneMinute_128 : decode cX11_oneMinute 128 = .ok (.iload_n 2, 1) := by decide +kernel
theorem dX11_oneMinute_129 : decode cX11_oneMinute 129 = .ok (.ireturn, 1) := by decide +kernel
theorem dX11_note_0 : decode cX11_note 0 = .ok (.aload_n 0, 1) := by decide +kernel
theorem dX11_note_1 : decode cX11_note 1 = .ok (.getfield 130, 3) := by decide +kernel
theorem dX11_note_4 : decode cX11_note 4 = .ok (.bipush 8, 2) := by decide +kernel
theorem dX11_note_6 : decode cX11_note 6 = .ok (.if_icmp .ne 43, 3) := by decide +kernel
theorem dX11_note_9 : decode cX11_note 9 = .ok (.iconst 0, 1) := by decide +kernel
theorem dX11_note_10 : decode cX11_note 10 = .ok (.istore_n 1, 1) := by decide +kernel
theorem dX11_note_11 : decode cX11_note 11 = .ok (.iload_n 1, 1) := by decide +kernel
theorem dX11_note_12 : decode cX11_note 12 = .ok (.sipush 245, 3) := by decide +kernel
theorem dX11_note_15 : decode cX11_note 15 = .ok (.if_icmp .ge 24, 3) := by decide +kernel
theorem dX11_note_18 : decode cX11_note 18 = .ok (.aload_n 0, 1) := by decide +kernel
theorem dX11_note_19 : decode cX11_note 19 = .ok (.getfield 22, 3) := by decide +kernel
theorem dX11_note_22 : decode cX11_note 22 = .ok (.iload_n 1, 1) := by decide +kernel
theorem dX11_note_23 : decode cX11_note 23 = .ok (.aload_n 0, 1) := by decide +kernel
theorem dX11_note_24 : decode cX11_note 24 = .ok (.getfield 22, 3) := by decide +kernel
theorem dX11_note_27 : decode cX11_note 27 = .ok (.iload_n 1, 1) := by decide +kernel
theorem dX11_note_28 : decode cX11_note 28 = .ok (.bipush 35, 2) := by decide +kernel
theorem dX11_note_30 : decode cX11_note 30 = .ok (.iadd, 1) := by decide +kernel
theorem dX11_note_31 : decode cX11_note 31 = .ok (.iaload, 1) := by decide +kernel
theorem dX11_note_32 : decode cX11_note 32 = .ok (.iastore, 1) := by decide +kernel
theorem dX11_note_33 : decode cX11_note 33 = .ok (.iinc 1 1, 3) := by decide +kernel
theorem dX11_note_36 : decode cX11_note 36 = .ok (.goto (-25), 3) := by decide +kernel
theorem dX11_note_39 : decode cX11_note 39 = .ok (.aload_n 0, 1) := by decide +kernel
theorem dX11_note_40 : decode cX11_note 40 = .ok (.dup, 1) := by decide +kernel
theorem dX11_note_41 : decode cX11_note 41 = .ok (.getfield 130, 3) := by decide +kernel
theorem dX11_note_44 : decode cX11_note 44 = .ok (.iconst 1, 1) := by decide +kernel
theorem dX11_note_45 : decode cX11_note 45 = .ok (.isub, 1) := by decide +kernel
theorem dX11_note_46 : decode cX11_note 46 = .ok (.putfield 130, 3) := by decide +kernel
theorem dX11_note_49 : decode cX11_note 49 = .ok (.iconst 0, 1) := by decide +kernel
theorem dX11_note_50 : decode cX11_note 50 = .ok (.istore_n 1, 1) := by decide +kernel
theorem dX11_note_51 : decode cX11_note 51 = .ok (.iload_n 1, 1) := by decide +kernel
theorem dX11_note_52 : decode cX11_note 52 = .ok (.bipush 35, 2) := by decide +kernel
theorem dX11_note_54 : decode cX11_note 54 = .ok (.if_icmp .ge 29, 3) := by decide +kernel
theorem dX11_note_57 : decode cX11_note 57 = .ok (.aload_n 0, 1) := by decide +kernel
theorem dX11_note_58 : decode cX11_note 58 = .ok (.getfield 22, 3) := by decide +kernel
theorem dX11_note_61 : decode cX11_note 61 = .ok (.bipush 35, 2) := by decide +kernel
theorem dX11_note_63 : decode cX11_note 63 = .ok (.aload_n 0, 1) := by decide +kernel
theorem dX11_note_64 : decode cX11_note 64 = .ok (.getfield 130, 3) := by decide +kernel
theorem dX11_note_67 : decode cX11_note 67 = .ok (.imul, 1) := by decide +kernel
theorem dX11_note_68 : decode cX11_note 68 = .ok (.iload_n 1, 1) := by decide +kernel
theorem dX11_note_69 : decode cX11_note 69 = .ok (.iadd, 1) := by decide +kernel
theorem dX11_note_70 : decode cX11_note 70 = .ok (.aload_n 0, 1) := by decide +kernel
theorem dX11_note_71 : decode cX11_note 71 = .ok (.getfield 13, 3) := by decide +kernel
theorem dX11_note_74 : decode cX11_note 74 = .ok (.iload_n 1, 1) := by decide +kernel
theorem dX11_note_75 : decode cX11_note 75 = .ok (.iaload, 1) := by decide +kernel
theorem dX11_note_76 : decode cX11_note 76 = .ok (.iastore, 1) := by decide +kernel
theorem dX11_note_77 : decode cX11_note 77 = .ok (.iinc 1 1, 3) := by decide +kernel
theorem dX11_note_80 : decode cX11_note 80 = .ok (.goto (-29), 3) := by decide +kernel
theorem dX11_note_83 : decode cX11_note 83 = .ok (.aload_n 0, 1) := by decide +kernel
theorem dX11_note_84 : decode cX11_note 84 = .ok (.dup, 1) := by decide +kernel
theorem dX11_note_85 : decode cX11_note 85 = .ok (.getfield 130, 3) := by decide +kernel
theorem dX11_note_88 : decode cX11_note 88 = .ok (.iconst 1, 1) := by decide +kernel
theorem dX11_note_89 : decode cX11_note 89 = .ok (.iadd, 1) := by decide +kernel
theorem dX11_note_90 : decode cX11_note 90 = .ok (.putfield 130, 3) := by decide +kernel
theorem dX11_note_93 : decode cX11_note 93 = .ok (.return_, 1) := by decide +kernel
theorem dX11_begin_0 : decode cX11_begin 0 = .ok (.aload_n 0, 1) := by decide +kernel
theorem dX11_begin_1 : decode cX11_begin 1 = .ok (.iload_n 1, 1) := by decide +kernel
theorem dX11_begin_2 : decode cX11_begin 2 = .ok (.invokevirtual 139, 3) := by decide +kernel
theorem dX11_begin_5 : decode cX11_begin 5 = .ok (.ifCond .ne 6, 3) := by decide +kernel
theorem dX11_begin_8 : decode cX11_begin 8 = .ok (.bipush (-2), 2) := by decide +kernel
theorem dX11_begin_10 : decode cX11_begin 10 = .ok (.ireturn, 1) := by decide +kernel
theorem dX11_begin_11 : decode cX11_begin 11 = .ok (.aload_n 0, 1) := by decide +kernel
theorem dX11_begin_12 : decode cX11_begin 12 = .ok (.getfield 13, 3) := by decide +kernel
theorem dX11_begin_15 : decode cX11_begin 15 = .ok (.iconst 0, 1) := by decide +kernel
theorem dX11_begin_16 : decode cX11_begin 16 = .ok (.iload_n 1, 1) := by decide +kernel
theorem dX11_begin_17 : decode cX11_begin 17 = .ok (.iadd, 1) := by decide +kernel
theorem dX11_begin_18 : decode cX11_begin 18 = .ok (.iaload, 1) := by decide +kernel
theorem dX11_begin_19 : decode cX11_begin 19 = .ok (.ifCond .eq 6, 3) := by decide +kernel
theorem dX11_begin_22 : decode cX11_begin 22 = .ok (.bipush (-4), 2) := by decide +kernel
theorem dX11_begin_24 : decode cX11_begin 24 = .ok (.ireturn, 1) := by decide +kernel
theorem dX11_begin_25 : decode cX11_begin 25 = .ok (.aload_n 0, 1) := by decide +kernel
theorem dX11_begin_26 : decode cX11_begin 26 = .ok (.invokevirtual 162, 3) := by decide +kernel
theorem dX11_begin_29 : decode cX11_begin 29 = .ok (.aload_n 0, 1) := by decide +kernel
theorem dX11_begin_30 : decode cX11_begin 30 = .ok (.iload_n 1, 1) := by decide +kernel
theorem dX11_begin_31 : decode cX11_begin 31 = .ok (.invokevirtual 155, 3) := by decide +kernel
theorem dX11_begin_34 : decode cX11_begin 34 = .ok (.aload_n 0, 1) := by decide +kernel
theorem dX11_begin_35 : decode cX11_begin 35 = .ok (.getfield 13, 3) := by decide +kernel
theorem dX11_begin_38 : decode cX11_begin 38 = .ok (.iconst 5, 1) := by decide +kernel
theorem dX11_begin_39 : decode cX11_begin 39 = .ok (.iload_n 1, 1) := by decide +kernel
theorem dX11_begin_40 : decode cX11_begin 40 = .ok (.iadd, 1) := by decide +kernel
theorem dX11_begin_41 : decode cX11_begin 41 = .ok (.iaload, 1) := by decide +kernel
theorem dX11_begin_42 : decode cX11_begin 42 = .ok (.ireturn, 1) := by decide +kernel
theorem dX11_rest_0 : decode cX11_rest 0 = .ok (.aload_n 0, 1) := by decide +kernel
theorem dX11_rest_1 : decode cX11_rest 1 = .ok (.iload_n 1, 1) := by decide +kernel
theorem dX11_rest_2 : decode cX11_rest 2 = .ok (.invokevirtual 139, 3) := by decide +kernel
theorem dX11_rest_5 : decode cX11_rest 5 = .ok (.ifCond .ne 6, 3) := by decide +kernel
theorem dX11_rest_8 : decode cX11_rest 8 = .ok (.bipush (-2), 2) := by decide +kernel
theorem dX11_rest_10 : decode cX11_rest 10 = .ok (.ireturn, 1) := by decide +kernel
theorem dX11_rest_11 : decode cX11_rest 11 = .ok (.aload_n 0, 1) := by decide +kernel
theorem dX11_rest_12 : decode cX11_rest 12 = .ok (.getfield 13, 3) := by decide +kernel
theorem dX11_rest_15 : decode cX11_rest 15 = .ok (.iconst 0, 1) := by decide +kernel
theorem dX11_rest_16 : decode cX11_rest 16 = .ok (.iload_n 1, 1) := by decide +kernel
theorem dX11_rest_17 : decode cX11_rest 17 = .ok (.iadd, 1) := by decide +kernel
theorem dX11_rest_18 : decode cX11_rest 18 = .ok (.iaload, 1) := by decide +kernel
theorem dX11_rest_19 : decode cX11_rest 19 = .ok (.ifCond .ne 6, 3) := by decide +kernel
theorem dX11_rest_22 : decode cX11_rest 22 = .ok (.bipush (-4), 2) := by decide +kernel
theorem dX11_rest_24 : decode cX11_rest 24 = .ok (.ireturn, 1) := by decide +kernel
theorem dX11_rest_25 : decode cX11_rest 25 = .ok (.aload_n 0, 1) := by decide +kernel
theorem dX11_rest_26 : decode cX11_rest 26 = .ok (.invokevirtual 162, 3) := by decide +kernel
theorem dX11_rest_29 : decode cX11_rest 29 = .ok (.aload_n 0, 1) := by decide +kernel
theorem dX11_rest_30 : decode cX11_rest 30 = .ok (.getfield 13, 3) := by decide +kernel
theorem dX11_rest_33 : decode cX11_rest 33 = .ok (.bipush 15, 2) := by decide +kernel
theorem dX11_rest_35 : decode cX11_rest 35 = .ok (.iload_n 1, 1) := by decide +kernel
theorem dX11_rest_36 : decode cX11_rest 36 = .ok (.iadd, 1) := by decide +kernel
theorem dX11_rest_37 : decode cX11_rest 37 = .ok (.iaload, 1) := by decide +kernel
theorem dX11_rest_38 : decode cX11_rest 38 = .ok (.istore_n 2, 1) := by decide +kernel
theorem dX11_rest_39 : decode cX11_rest 39 = .ok (.aload_n 0, 1) := by decide +kernel
theorem dX11_rest_40 : decode cX11_rest 40 = .ok (.iload_n 1, 1) := by decide +kernel
theorem dX11_rest_41 : decode cX11_rest 41 = .ok (.invokevirtual 165, 3) := by decide +kernel
theorem dX11_rest_44 : decode cX11_rest 44 = .ok (.iload_n 2, 1) := by decide +kernel
theorem dX11_rest_45 : decode cX11_rest 45 = .ok (.ireturn, 1) := by decide +kernel
theorem dX11_moss_0 : decode cX11_moss 0 = .ok (.aload_n 0, 1) := by decide +kernel
theorem dX11_moss_1 : decode cX11_moss 1 = .ok (.iload_n 1, 1) := by decide +kernel
theorem dX11_moss_2 : decode cX11_moss 2 = .ok (.invokevirtual 139, 3) := by decide +kernel
theorem dX11_moss_5 : decode cX11_moss 5 = .ok (.ifCond .ne 6, 3) := by decide +kernel
theorem dX11_moss_8 : decode cX11_moss 8 = .ok (.bipush (-2), 2) := by decide +kernel
theorem dX11_moss_10 : decode cX11_moss 10 = .ok (.ireturn, 1) := by decide +kernel
theorem dX11_moss_11 : decode cX11_moss 11 = .ok (.aload_n 0, 1) := by decide +kernel
theorem dX11_moss_12 : decode cX11_moss 12 = .ok (.iload_n 1, 1) := by decide +kernel
theorem dX11_moss_13 : decode cX11_moss 13 = .ok (.invokevirtual 142, 3) := by decide +kernel
theorem dX11_moss_16 : decode cX11_moss 16 = .ok (.ifCond .le 6, 3) := by decide +kernel
theorem dX11_moss_19 : decode cX11_moss 19 = .ok (.bipush (-4), 2) := by decide +kernel
theorem dX11_moss_21 : decode cX11_moss 21 = .ok (.ireturn, 1) := by decide +kernel
theorem dX11_moss_22 : decode cX11_moss 22 = .ok (.aload_n 0, 1) := by decide +kernel
theorem dX11_moss_23 : decode cX11_moss 23 = .ok (.invokevirtual 162, 3) := by decide +kernel
theorem dX11_moss_26 : decode cX11_moss 26 = .ok (.aload_n 0, 1) := by decide +kernel
theorem dX11_moss_27 : decode cX11_moss 27 = .ok (.getfield 13, 3) := by decide +kernel
theorem dX11_moss_30 : decode cX11_moss 30 = .ok (.bipush 25, 2) := by decide +kernel
theorem dX11_moss_32 : decode cX11_moss 32 = .ok (.iload_n 1, 1) := by decide +kernel
theorem dX11_moss_33 : decode cX11_moss 33 = .ok (.iadd, 1) := by decide +kernel
theorem dX11_moss_34 : decode cX11_moss 34 = .ok (.aload_n 0, 1) := by decide +kernel
theorem dX11_moss_35 : decode cX11_moss 35 = .ok (.getfield 13, 3) := by decide +kernel
theorem dX11_moss_38 : decode cX11_moss 38 = .ok (.bipush 30, 2) := by decide +kernel
theorem dX11_moss_40 : decode cX11_moss 40 = .ok (.iaload, 1) := by decide +kernel
theorem dX11_moss_41 : decode cX11_moss 41 = .ok (.bipush 30, 2) := by decide +kernel
theorem dX11_moss_43 : decode cX11_moss 43 = .ok (.iadd, 1) := by decide +kernel
theorem dX11_moss_44 : decode cX11_moss 44 = .ok (.iastore, 1) := by decide +kernel
theorem dX11_moss_45 : decode cX11_moss 45 = .ok (.bipush 30, 2) := by decide +kernel
theorem dX11_moss_47 : decode cX11_moss 47 = .ok (.ireturn, 1) := by decide +kernel
theorem dX11_less_0 : decode cX11_less 0 = .ok (.iload_n 0, 1) := by decide +kernel
theorem dX11_less_1 : decode cX11_less 1 = .ok (.iload_n 1, 1) := by decide +kernel
theorem dX11_less_2 : decode cX11_less 2 = .ok (.if_icmp .ge 7, 3) := by decide +kernel
theorem dX11_less_5 : decode cX11_less 5 = .ok (.iconst 0, 1) := by decide +kernel
theorem dX11_less_6 : decode cX11_less 6 = .ok (.goto 6, 3) := by decide +kernel
theorem dX11_less_9 : decode cX11_less 9 = .ok (.iload_n 0, 1) := by decide +kernel
theorem dX11_less_10 : decode cX11_less 10 = .ok (.iload_n 1, 1) := by decide +kernel
theorem dX11_less_11 : decode cX11_less 11 = .ok (.isub, 1) := by decide +kernel
theorem dX11_less_12 : decode cX11_less 12 = .ok (.ireturn, 1) := by decide +kernel
theorem dX11_smear_0 : decode cX11_smear 0 = .ok (.iload_n 1, 1) := by decide +kernel
theorem dX11_smear_1 : decode cX11_smear 1 = .ok (.i2l, 1) := by decide +kernel
theorem dX11_smear_2 : decode cX11_smear 2 = .ok (.lconst 1, 1) := by decide +kernel
theorem dX11_smear_3 : decode cX11_smear 3 = .ok (.ldc2_w 168, 3) := by decide +kernel
theorem dX11_smear_6 : decode cX11_smear 6 = .ok (.invokestatic 49, 3) := by decide +kernel
theorem dX11_smear_9 : decode cX11_smear 9 = .ok (.ifCond .ne 6, 3) := by decide +kernel
theorem dX11_smear_12 : decode cX11_smear 12 = .ok (.bipush (-3), 2) := by decide +kernel
theorem dX11_smear_14 : decode cX11_smear 14 = .ok (.ireturn, 1) := by decide +kernel
theorem dX11_smear_15 : decode cX11_smear 15 = .ok (.aload_n 0, 1) := by decide +kernel
theorem dX11_smear_16 : decode cX11_smear 16 = .ok (.getfield 13, 3) := by decide +kernel
theorem dX11_smear_19 : decode cX11_smear 19 = .ok (.bipush 32, 2) := by decide +kernel
theorem dX11_smear_21 : decode cX11_smear 21 = .ok (.iaload, 1) := by decide +kernel
theorem dX11_smear_22 : decode cX11_smear 22 = .ok (.ifCond .ne 6, 3) := by decide +kernel
theorem dX11_smear_25 : decode cX11_smear 25 = .ok (.bipush (-4), 2) := by decide +kernel
theorem dX11_smear_27 : decode cX11_smear 27 = .ok (.ireturn, 1) := by decide +kernel
theorem dX11_smear_28 : decode cX11_smear 28 = .ok (.aload_n 0, 1) := by decide +kernel
theorem dX11_smear_29 : decode cX11_smear 29 = .ok (.invokevirtual 162, 3) := by decide +kernel
theorem dX11_smear_32 : decode cX11_smear 32 = .ok (.aload_n 0, 1) := by decide +kernel
theorem dX11_smear_33 : decode cX11_smear 33 = .ok (.getfield 13, 3) := by decide +kernel
theorem dX11_smear_36 : decode cX11_smear 36 = .ok (.bipush 32, 2) := by decide +kernel
theorem dX11_smear_38 : decode cX11_smear 38 = .ok (.aload_n 0, 1) := by decide +kernel
theorem dX11_smear_39 : decode cX11_smear 39 = .ok (.getfield 13, 3) := by decide +kernel
theorem dX11_smear_42 : decode cX11_smear 42 = .ok (.bipush 32, 2) := by decide +kernel
theorem dX11_smear_44 : decode cX11_smear 44 = .ok (.iaload, 1) := by decide +kernel
theorem dX11_smear_45 : decode cX11_smear 45 = .ok (.iload_n 1, 1) := by decide +kernel
theorem dX11_smear_46 : decode cX11_smear 46 = .ok (.invokestatic 170, 3) := by decide +kernel
theorem dX11_smear_49 : decode cX11_smear 49 = .ok (.iastore, 1) := by decide +kernel
theorem dX11_smear_50 : decode cX11_smear 50 = .ok (.aload_n 0, 1) := by decide +kernel
theorem dX11_smear_51 : decode cX11_smear 51 = .ok (.getfield 13, 3) := by decide +kernel
theorem dX11_smear_54 : decode cX11_smear 54 = .ok (.bipush 32, 2) := by decide +kernel
theorem dX11_smear_56 : decode cX11_smear 56 = .ok (.iaload, 1) := by decide +kernel
theorem dX11_smear_57 : decode cX11_smear 57 = .ok (.ireturn, 1) := by decide +kernel
theorem dX11_go_0 : decode cX11_go 0 = .ok (.iload_n 1, 1) := by decide +kernel
theorem dX11_go_1 : decode cX11_go 1 = .ok (.i2l, 1) := by decide +kernel
theorem dX11_go_2 : decode cX11_go 2 = .ok (.lconst 1, 1) := by decide +kernel
theorem dX11_go_3 : decode cX11_go 3 = .ok (.ldc2_w 173, 3) := by decide +kernel
theorem dX11_go_6 : decode cX11_go 6 = .ok (.invokestatic 49, 3) := by decide +kernel
theorem dX11_go_9 : decode cX11_go 9 = .ok (.ifCond .ne 6, 3) := by decide +kernel
theorem dX11_go_12 : decode cX11_go 12 = .ok (.bipush (-3), 2) := by decide +kernel
theorem dX11_go_14 : decode cX11_go 14 = .ok (.ireturn, 1) := by decide +kernel
theorem dX11_go_15 : decode cX11_go 15 = .ok (.aload_n 0, 1) := by decide +kernel
theorem dX11_go_16 : decode cX11_go 16 = .ok (.getfield 13, 3) := by decide +kernel
theorem dX11_go_19 : decode cX11_go 19 = .ok (.bipush 30, 2) := by decide +kernel
theorem dX11_go_21 : decode cX11_go 21 = .ok (.iaload, 1) := by decide +kernel
theorem dX11_go_22 : decode cX11_go 22 = .ok (.iload_n 1, 1) := by decide +kernel
theorem dX11_go_23 : decode cX11_go 23 = .ok (.iadd, 1) := by decide +kernel
theorem dX11_go_24 : decode cX11_go 24 = .ok (.sipush 999, 3) := by decide +kernel
theorem dX11_go_27 : decode cX11_go 27 = .ok (.if_icmp .le 6, 3) := by decide +kernel
theorem dX11_go_30 : decode cX11_go 30 = .ok (.bipush (-5), 2) := by decide +kernel
theorem dX11_go_32 : decode cX11_go 32 = .ok (.ireturn, 1) := by decide +kernel
theorem dX11_go_33 : decode cX11_go 33 = .ok (.aload_n 0, 1) := by decide +kernel
theorem dX11_go_34 : decode cX11_go 34 = .ok (.invokevirtual 162, 3) := by decide +kernel
theorem dX11_go_37 : decode cX11_go 37 = .ok (.iconst 0, 1) := by decide +kernel
theorem dX11_go_38 : decode cX11_go 38 = .ok (.istore_n 2, 1) := by decide +kernel
theorem dX11_go_39 : decode cX11_go 39 = .ok (.iload_n 2, 1) := by decide +kernel
theorem dX11_go_40 : decode cX11_go 40 = .ok (.iload_n 1, 1) := by decide +kernel
theorem dX11_go_41 : decode cX11_go 41 = .ok (.if_icmp .ge 14, 3) := by decide +kernel
theorem dX11_go_44 : decode cX11_go 44 = .ok (.aload_n 0, 1) := by decide +kernel
theorem dX11_go_45 : decode cX11_go 45 = .ok (.invokevirtual 175, 3) := by decide +kernel
theorem dX11_go_48 : decode cX11_go 48 = .ok (.pop, 1) := by decide +kernel
theorem dX11_go_49 : decode cX11_go 49 = .ok (.iinc 2 1, 3) := by decide +kernel
theorem dX11_go_52 : decode cX11_go 52 = .ok (.goto (-13), 3) := by decide +kernel
theorem dX11_go_55 : decode cX11_go 55 = .ok (.aload_n 0, 1) := by decide +kernel
theorem dX11_go_56 : decode cX11_go 56 = .ok (.getfield 13, 3) := by decide +kernel
theorem dX11_go_59 : decode cX11_go 59 = .ok (.bipush 31, 2) := by decide +kernel
theorem dX11_go_61 : decode cX11_go 61 = .ok (.iaload, 1) := by decide +kernel
theorem dX11_go_62 : decode cX11_go 62 = .ok (.ireturn, 1) := by decide +kernel
theorem dX11_undo_0 : decode cX11_undo 0 = .ok (.aload_n 0, 1) := by decide +kernel
theorem dX11_undo_1 : decode cX11_undo 1 = .ok (.getfield 130, 3) := by decide +kernel
theorem dX11_undo_4 : decode cX11_undo 4 = .ok (.ifCond .ne 6, 3) := by decide +kernel
theorem dX11_undo_7 : decode cX11_undo 7 = .ok (.bipush (-4), 2) := by decide +kernel
theorem dX11_undo_9 : decode cX11_undo 9 = .ok (.ireturn, 1) := by decide +kernel
theorem dX11_undo_10 : decode cX11_undo 10 = .ok (.aload_n 0, 1) := by decide +kernel
theorem dX11_undo_11 : decode cX11_undo 11 = .ok (.dup, 1) := by decide +kernel
theorem dX11_undo_12 : decode cX11_undo 12 = .ok (.getfield 130, 3) := by decide +kernel
theorem dX11_undo_15 : decode cX11_undo 15 = .ok (.iconst 1, 1) := by decide +kernel
theorem dX11_undo_16 : decode cX11_undo 16 = .ok (.isub, 1) := by decide +kernel
theorem dX11_undo_17 : decode cX11_undo 17 = .ok (.putfield 130, 3) := by decide +kernel
theorem dX11_undo_20 : decode cX11_undo 20 = .ok (.iconst 0, 1) := by decide +kernel
theorem dX11_undo_21 : decode cX11_undo 21 = .ok (.istore_n 1, 1) := by decide +kernel
theorem dX11_undo_22 : decode cX11_undo 22 = .ok (.iload_n 1, 1) := by decide +kernel
theorem dX11_undo_23 : decode cX11_undo 23 = .ok (.bipush 35, 2) := by decide +kernel
theorem dX11_undo_25 : decode cX11_undo 25 = .ok (.if_icmp .ge 29, 3) := by decide +kernel
theorem dX11_undo_28 : decode cX11_undo 28 = .ok (.aload_n 0, 1) := by decide +kernel
theorem dX11_undo_29 : decode cX11_undo 29 = .ok (.getfield 13, 3) := by decide +kernel
theorem dX11_undo_32 : decode cX11_undo 32 = .ok (.iload_n 1, 1) := by decide +kernel
theorem dX11_undo_33 : decode cX11_undo 33 = .ok (.aload_n 0, 1) := by decide +kernel
theorem dX11_undo_34 : decode cX11_undo 34 = .ok (.getfield 22, 3) := by decide +kernel
theorem dX11_undo_37 : decode cX11_undo 37 = .ok (.bipush 35, 2) := by decide +kernel
theorem dX11_undo_39 : decode cX11_undo 39 = .ok (.aload_n 0, 1) := by decide +kernel
theorem dX11_undo_40 : decode cX11_undo 40 = .ok (.getfield 130, 3) := by decide +kernel
theorem dX11_undo_43 : decode cX11_undo 43 = .ok (.imul, 1) := by decide +kernel
theorem dX11_undo_44 : decode cX11_undo 44 = .ok (.iload_n 1, 1) := by decide +kernel
theorem dX11_undo_45 : decode cX11_undo 45 = .ok (.iadd, 1) := by decide +kernel
theorem dX11_undo_46 : decode cX11_undo 46 = .ok (.iaload, 1) := by decide +kernel
theorem dX11_undo_47 : decode cX11_undo 47 = .ok (.iastore, 1) := by decide +kernel
theorem dX11_undo_48 : decode cX11_undo 48 = .ok (.iinc 1 1, 3) := by decide +kernel
theorem dX11_undo_51 : decode cX11_undo 51 = .ok (.goto (-29), 3) := by decide +kernel
theorem dX11_undo_54 : decode cX11_undo 54 = .ok (.aload_n 0, 1) := by decide +kernel
theorem dX11_undo_55 : decode cX11_undo 55 = .ok (.getfield 130, 3) := by decide +kernel
theorem dX11_undo_58 : decode cX11_undo 58 = .ok (.ireturn, 1) := by decide +kernel
theorem dX11_keep_0 : decode cX11_keep 0 = .ok (.iload_n 1, 1) := by decide +kernel
theorem dX11_keep_1 : decode cX11_keep 1 = .ok (.i2l, 1) := by decide +kernel
theorem dX11_keep_2 : decode cX11_keep 2 = .ok (.lconst 0, 1) := by decide +kernel
theorem dX11_keep_3 : decode cX11_keep 3 = .ok (.lconst 1, 1) := by decide +kernel
theorem dX11_keep_4 : decode cX11_keep 4 = .ok (.invokestatic 49, 3) := by decide +kernel
theorem dX11_keep_7 : decode cX11_keep 7 = .ok (.ifCond .ne 6, 3) := by decide +kernel
theorem dX11_keep_10 : decode cX11_keep 10 = .ok (.bipush (-2), 2) := by decide +kernel
theorem dX11_keep_12 : decode cX11_keep 12 = .ok (.ireturn, 1) := by decide +kernel
theorem dX11_keep_13 : decode cX11_keep 13 = .ok (.iconst 0, 1) := by decide +kernel
theorem dX11_keep_14 : decode cX11_keep 14 = .ok (.istore_n 2, 1) := by decide +kernel
theorem dX11_keep_15 : decode cX11_keep 15 = .ok (.iload_n 2, 1) := by decide +kernel
theorem dX11_keep_16 : decode cX11_keep 16 = .ok (.bipush 35, 2) := by decide +kernel
theorem dX11_keep_18 : decode cX11_keep 18 = .ok (.if_icmp .ge 26, 3) := by decide +kernel
theorem dX11_keep_21 : decode cX11_keep 21 = .ok (.aload_n 0, 1) := by decide +kernel
theorem dX11_keep_22 : decode cX11_keep 22 = .ok (.getfield 29, 3) := by decide +kernel
theorem dX11_keep_25 : decode cX11_keep 25 = .ok (.bipush 35, 2) := by decide +kernel
theorem dX11_keep_27 : decode cX11_keep 27 = .ok (.iload_n 1, 1) := by decide +kernel
theorem dX11_keep_28 : decode cX11_keep 28 = .ok (.imul, 1) := by decide +kernel
theorem dX11_keep_29 : decode cX11_keep 29 = .ok (.iload_n 2, 1) := by decide +kernel
theorem dX11_keep_30 : decode cX11_keep 30 = .ok (.iadd, 1) := by decide +kernel
theorem dX11_keep_31 : decode cX11_keep 31 = .ok (.aload_n 0, 1) := by decide +kernel
theorem dX11_keep_32 : decode cX11_keep 32 = .ok (.getfield 13, 3) := by decide +kernel
theorem dX11_keep_35 : decode cX11_keep 35 = .ok (.iload_n 2, 1) := by decide +kernel
theorem dX11_keep_36 : decode cX11_keep 36 = .ok (.iaload, 1) := by decide +kernel
theorem dX11_keep_37 : decode cX11_keep 37 = .ok (.iastore, 1) := by decide +kernel
theorem dX11_keep_38 : decode cX11_keep 38 = .ok (.iinc 2 1, 3) := by decide +kernel
theorem dX11_keep_41 : decode cX11_keep 41 = .ok (.goto (-26), 3) := by decide +kernel
theorem dX11_keep_44 : decode cX11_keep 44 = .ok (.aload_n 0, 1) := by decide +kernel
theorem dX11_keep_45 : decode cX11_keep 45 = .ok (.getfield 25, 3) := by decide +kernel
theorem dX11_keep_48 : decode cX11_keep 48 = .ok (.iload_n 1, 1) := by decide +kernel
theorem dX11_keep_49 : decode cX11_keep 49 = .ok (.iconst 1, 1) := by decide +kernel
theorem dX11_keep_50 : decode cX11_keep 50 = .ok (.bastore, 1) := by decide +kernel
theorem dX11_keep_51 : decode cX11_keep 51 = .ok (.aload_n 0, 1) := by decide +kernel
theorem dX11_keep_52 : decode cX11_keep 52 = .ok (.getfield 13, 3) := by decide +kernel
theorem dX11_keep_55 : decode cX11_keep 55 = .ok (.bipush 30, 2) := by decide +kernel
theorem dX11_keep_57 : decode cX11_keep 57 = .ok (.iaload, 1) := by decide +kernel
theorem dX11_keep_58 : decode cX11_keep 58 = .ok (.ireturn, 1) := by decide +kernel
theorem dX11_back_0 : decode cX11_back 0 = .ok (.iload_n 1, 1) := by decide +kernel
theorem dX11_back_1 : decode cX11_back 1 = .ok (.i2l, 1) := by decide +kernel
theorem dX11_back_2 : decode cX11_back 2 = .ok (.lconst 0, 1) := by decide +kernel
theorem dX11_back_3 : decode cX11_back 3 = .ok (.lconst 1, 1) := by decide +kernel
theorem dX11_back_4 : decode cX11_back 4 = .ok (.invokestatic 49, 3) := by decide +kernel
theorem dX11_back_7 : decode cX11_back 7 = .ok (.ifCond .ne 6, 3) := by decide +kernel
theorem dX11_back_10 : decode cX11_back 10 = .ok (.bipush (-2), 2) := by decide +kernel
theorem dX11_back_12 : decode cX11_back 12 = .ok (.ireturn, 1) := by decide +kernel
theorem dX11_back_13 : decode cX11_back 13 = .ok (.aload_n 0, 1) := by decide +kernel
theorem dX11_back_14 : decode cX11_back 14 = .ok (.getfield 25, 3) := by decide +kernel
