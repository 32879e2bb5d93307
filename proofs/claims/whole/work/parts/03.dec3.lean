theorem dX11_closes_15 : decode cX11_closes 15 = .ok (.iconst 1, 1) := by decide +kernel
theorem dX11_closes_16 : decode cX11_closes 16 = .ok (.isub, 1) := by decide +kernel
theorem dX11_closes_17 : decode cX11_closes 17 = .ok (.iaload, 1) := by decide +kernel
theorem dX11_closes_18 : decode cX11_closes 18 = .ok (.ifCond .ne 5, 3) := by decide +kernel
theorem dX11_closes_21 : decode cX11_closes 21 = .ok (.iconst 0, 1) := by decide +kernel
theorem dX11_closes_22 : decode cX11_closes 22 = .ok (.ireturn, 1) := by decide +kernel
theorem dX11_closes_23 : decode cX11_closes 23 = .ok (.iload_n 1, 1) := by decide +kernel
theorem dX11_closes_24 : decode cX11_closes 24 = .ok (.bipush 41, 2) := by decide +kernel
theorem dX11_closes_26 : decode cX11_closes 26 = .ok (.if_icmp .ne 19, 3) := by decide +kernel
theorem dX11_closes_29 : decode cX11_closes 29 = .ok (.aload_n 0, 1) := by decide +kernel
theorem dX11_closes_30 : decode cX11_closes 30 = .ok (.getfield 29, 3) := by decide +kernel
theorem dX11_closes_33 : decode cX11_closes 33 = .ok (.aload_n 0, 1) := by decide +kernel
theorem dX11_closes_34 : decode cX11_closes 34 = .ok (.getfield 87, 3) := by decide +kernel
theorem dX11_closes_37 : decode cX11_closes 37 = .ok (.iconst 1, 1) := by decide +kernel
theorem dX11_closes_38 : decode cX11_closes 38 = .ok (.isub, 1) := by decide +kernel
theorem dX11_closes_39 : decode cX11_closes 39 = .ok (.iaload, 1) := by decide +kernel
theorem dX11_closes_40 : decode cX11_closes 40 = .ok (.bipush 40, 2) := by decide +kernel
theorem dX11_closes_42 : decode cX11_closes 42 = .ok (.if_icmp .eq 25, 3) := by decide +kernel
theorem dX11_closes_45 : decode cX11_closes 45 = .ok (.iload_n 1, 1) := by decide +kernel
theorem dX11_closes_46 : decode cX11_closes 46 = .ok (.bipush 93, 2) := by decide +kernel
theorem dX11_closes_48 : decode cX11_closes 48 = .ok (.if_icmp .ne 23, 3) := by decide +kernel
theorem dX11_closes_51 : decode cX11_closes 51 = .ok (.aload_n 0, 1) := by decide +kernel
theorem dX11_closes_52 : decode cX11_closes 52 = .ok (.getfield 29, 3) := by decide +kernel
theorem dX11_closes_55 : decode cX11_closes 55 = .ok (.aload_n 0, 1) := by decide +kernel
theorem dX11_closes_56 : decode cX11_closes 56 = .ok (.getfield 87, 3) := by decide +kernel
theorem dX11_closes_59 : decode cX11_closes 59 = .ok (.iconst 1, 1) := by decide +kernel
theorem dX11_closes_60 : decode cX11_closes 60 = .ok (.isub, 1) := by decide +kernel
theorem dX11_closes_61 : decode cX11_closes 61 = .ok (.iaload, 1) := by decide +kernel
theorem dX11_closes_62 : decode cX11_closes 62 = .ok (.bipush 91, 2) := by decide +kernel
theorem dX11_closes_64 : decode cX11_closes 64 = .ok (.if_icmp .ne 7, 3) := by decide +kernel
theorem dX11_closes_67 : decode cX11_closes 67 = .ok (.iconst 1, 1) := by decide +kernel
theorem dX11_closes_68 : decode cX11_closes 68 = .ok (.goto 4, 3) := by decide +kernel
theorem dX11_closes_71 : decode cX11_closes 71 = .ok (.iconst 0, 1) := by decide +kernel
theorem dX11_closes_72 : decode cX11_closes 72 = .ok (.ireturn, 1) := by decide +kernel
theorem dX11_reads_0 : decode cX11_reads 0 = .ok (.aload_n 0, 1) := by decide +kernel
theorem dX11_reads_1 : decode cX11_reads 1 = .ok (.iconst 0, 1) := by decide +kernel
theorem dX11_reads_2 : decode cX11_reads 2 = .ok (.putfield 87, 3) := by decide +kernel
theorem dX11_reads_5 : decode cX11_reads 5 = .ok (.aload_n 0, 1) := by decide +kernel
theorem dX11_reads_6 : decode cX11_reads 6 = .ok (.iconst (-1), 1) := by decide +kernel
theorem dX11_reads_7 : decode cX11_reads 7 = .ok (.putfield 104, 3) := by decide +kernel
theorem dX11_reads_10 : decode cX11_reads 10 = .ok (.aload_n 0, 1) := by decide +kernel
theorem dX11_reads_11 : decode cX11_reads 11 = .ok (.iconst 0, 1) := by decide +kernel
theorem dX11_reads_12 : decode cX11_reads 12 = .ok (.putfield 113, 3) := by decide +kernel
theorem dX11_reads_15 : decode cX11_reads 15 = .ok (.iconst 0, 1) := by decide +kernel
theorem dX11_reads_16 : decode cX11_reads 16 = .ok (.istore_n 1, 1) := by decide +kernel
theorem dX11_reads_17 : decode cX11_reads 17 = .ok (.aload_n 0, 1) := by decide +kernel
theorem dX11_reads_18 : decode cX11_reads 18 = .ok (.getfield 104, 3) := by decide +kernel
theorem dX11_reads_21 : decode cX11_reads 21 = .ok (.ifCond .ge 235, 3) := by decide +kernel
theorem dX11_reads_24 : decode cX11_reads 24 = .ok (.aload_n 0, 1) := by decide +kernel
theorem dX11_reads_25 : decode cX11_reads 25 = .ok (.getfield 113, 3) := by decide +kernel
theorem dX11_reads_28 : decode cX11_reads 28 = .ok (.ifCond .ne 228, 3) := by decide +kernel
theorem dX11_reads_31 : decode cX11_reads 31 = .ok (.iload_n 1, 1) := by decide +kernel
theorem dX11_reads_32 : decode cX11_reads 32 = .ok (.aload_n 0, 1) := by decide +kernel
theorem dX11_reads_33 : decode cX11_reads 33 = .ok (.getfield 84, 3) := by decide +kernel
theorem dX11_reads_36 : decode cX11_reads 36 = .ok (.if_icmp .ge 220, 3) := by decide +kernel
theorem dX11_reads_39 : decode cX11_reads 39 = .ok (.aload_n 0, 1) := by decide +kernel
theorem dX11_reads_40 : decode cX11_reads 40 = .ok (.getfield 26, 3) := by decide +kernel
theorem dX11_reads_43 : decode cX11_reads 43 = .ok (.iload_n 1, 1) := by decide +kernel
theorem dX11_reads_44 : decode cX11_reads 44 = .ok (.iaload, 1) := by decide +kernel
theorem dX11_reads_45 : decode cX11_reads 45 = .ok (.istore_n 2, 1) := by decide +kernel
theorem dX11_reads_46 : decode cX11_reads 46 = .ok (.iload_n 2, 1) := by decide +kernel
theorem dX11_reads_47 : decode cX11_reads 47 = .ok (.i2l, 1) := by decide +kernel
theorem dX11_reads_48 : decode cX11_reads 48 = .ok (.ldc2_w 121, 3) := by decide +kernel
theorem dX11_reads_51 : decode cX11_reads 51 = .ok (.ldc2_w 123, 3) := by decide +kernel
theorem dX11_reads_54 : decode cX11_reads 54 = .ok (.invokestatic 63, 3) := by decide +kernel
theorem dX11_reads_57 : decode cX11_reads 57 = .ok (.ifCond .eq 35, 3) := by decide +kernel
theorem dX11_reads_60 : decode cX11_reads 60 = .ok (.aload_n 0, 1) := by decide +kernel
theorem dX11_reads_61 : decode cX11_reads 61 = .ok (.iload_n 1, 1) := by decide +kernel
theorem dX11_reads_62 : decode cX11_reads 62 = .ok (.putfield 107, 3) := by decide +kernel
theorem dX11_reads_65 : decode cX11_reads 65 = .ok (.aload_n 0, 1) := by decide +kernel
theorem dX11_reads_66 : decode cX11_reads 66 = .ok (.iconst 1, 1) := by decide +kernel
theorem dX11_reads_67 : decode cX11_reads 67 = .ok (.putfield 90, 3) := by decide +kernel
theorem dX11_reads_70 : decode cX11_reads 70 = .ok (.aload_n 0, 1) := by decide +kernel
theorem dX11_reads_71 : decode cX11_reads 71 = .ok (.iconst 1, 1) := by decide +kernel
theorem dX11_reads_72 : decode cX11_reads 72 = .ok (.putfield 93, 3) := by decide +kernel
theorem dX11_reads_75 : decode cX11_reads 75 = .ok (.aload_n 0, 1) := by decide +kernel
theorem dX11_reads_76 : decode cX11_reads 76 = .ok (.getfield 44, 3) := by decide +kernel
theorem dX11_reads_79 : decode cX11_reads 79 = .ok (.iconst 0, 1) := by decide +kernel
theorem dX11_reads_80 : decode cX11_reads 80 = .ok (.iload_n 2, 1) := by decide +kernel
theorem dX11_reads_81 : decode cX11_reads 81 = .ok (.bipush 97, 2) := by decide +kernel
theorem dX11_reads_83 : decode cX11_reads 83 = .ok (.isub, 1) := by decide +kernel
theorem dX11_reads_84 : decode cX11_reads 84 = .ok (.iastore, 1) := by decide +kernel
theorem dX11_reads_85 : decode cX11_reads 85 = .ok (.aload_n 0, 1) := by decide +kernel
theorem dX11_reads_86 : decode cX11_reads 86 = .ok (.invokevirtual 125, 3) := by decide +kernel
theorem dX11_reads_89 : decode cX11_reads 89 = .ok (.goto 161, 3) := by decide +kernel
theorem dX11_reads_92 : decode cX11_reads 92 = .ok (.iload_n 2, 1) := by decide +kernel
theorem dX11_reads_93 : decode cX11_reads 93 = .ok (.bipush 40, 2) := by decide +kernel
theorem dX11_reads_95 : decode cX11_reads 95 = .ok (.if_icmp .eq 35, 3) := by decide +kernel
theorem dX11_reads_98 : decode cX11_reads 98 = .ok (.iload_n 2, 1) := by decide +kernel
theorem dX11_reads_99 : decode cX11_reads 99 = .ok (.bipush 91, 2) := by decide +kernel
theorem dX11_reads_101 : decode cX11_reads 101 = .ok (.if_icmp .eq 29, 3) := by decide +kernel
theorem dX11_reads_104 : decode cX11_reads 104 = .ok (.iload_n 2, 1) := by decide +kernel
theorem dX11_reads_105 : decode cX11_reads 105 = .ok (.bipush 60, 2) := by decide +kernel
theorem dX11_reads_107 : decode cX11_reads 107 = .ok (.if_icmp .eq 23, 3) := by decide +kernel
theorem dX11_reads_110 : decode cX11_reads 110 = .ok (.iload_n 2, 1) := by decide +kernel
theorem dX11_reads_111 : decode cX11_reads 111 = .ok (.bipush 94, 2) := by decide +kernel
theorem dX11_reads_113 : decode cX11_reads 113 = .ok (.if_icmp .eq 17, 3) := by decide +kernel
theorem dX11_reads_116 : decode cX11_reads 116 = .ok (.iload_n 2, 1) := by decide +kernel
theorem dX11_reads_117 : decode cX11_reads 117 = .ok (.i2l, 1) := by decide +kernel
theorem dX11_reads_118 : decode cX11_reads 118 = .ok (.ldc2_w 128, 3) := by decide +kernel
theorem dX11_reads_121 : decode cX11_reads 121 = .ok (.ldc2_w 130, 3) := by decide +kernel
theorem dX11_reads_124 : decode cX11_reads 124 = .ok (.invokestatic 63, 3) := by decide +kernel
theorem dX11_reads_127 : decode cX11_reads 127 = .ok (.ifCond .eq 12, 3) := by decide +kernel
theorem dX11_reads_130 : decode cX11_reads 130 = .ok (.aload_n 0, 1) := by decide +kernel
theorem dX11_reads_131 : decode cX11_reads 131 = .ok (.iload_n 2, 1) := by decide +kernel
theorem dX11_reads_132 : decode cX11_reads 132 = .ok (.iload_n 1, 1) := by decide +kernel
theorem dX11_reads_133 : decode cX11_reads 133 = .ok (.invokevirtual 132, 3) := by decide +kernel
theorem dX11_reads_136 : decode cX11_reads 136 = .ok (.goto 114, 3) := by decide +kernel
theorem dX11_reads_139 : decode cX11_reads 139 = .ok (.aload_n 0, 1) := by decide +kernel
theorem dX11_reads_140 : decode cX11_reads 140 = .ok (.iload_n 2, 1) := by decide +kernel
theorem dX11_reads_141 : decode cX11_reads 141 = .ok (.invokevirtual 135, 3) := by decide +kernel
theorem dX11_reads_144 : decode cX11_reads 144 = .ok (.ifCond .eq 101, 3) := by decide +kernel
theorem dX11_reads_147 : decode cX11_reads 147 = .ok (.aload_n 0, 1) := by decide +kernel
theorem dX11_reads_148 : decode cX11_reads 148 = .ok (.dup, 1) := by decide +kernel
theorem dX11_reads_149 : decode cX11_reads 149 = .ok (.getfield 87, 3) := by decide +kernel
theorem dX11_reads_152 : decode cX11_reads 152 = .ok (.iconst 1, 1) := by decide +kernel
theorem dX11_reads_153 : decode cX11_reads 153 = .ok (.isub, 1) := by decide +kernel
theorem dX11_reads_154 : decode cX11_reads 154 = .ok (.putfield 87, 3) := by decide +kernel
theorem dX11_reads_157 : decode cX11_reads 157 = .ok (.aload_n 0, 1) := by decide +kernel
theorem dX11_reads_158 : decode cX11_reads 158 = .ok (.aload_n 0, 1) := by decide +kernel
theorem dX11_reads_159 : decode cX11_reads 159 = .ok (.getfield 32, 3) := by decide +kernel
theorem dX11_reads_162 : decode cX11_reads 162 = .ok (.aload_n 0, 1) := by decide +kernel
theorem dX11_reads_163 : decode cX11_reads 163 = .ok (.getfield 87, 3) := by decide +kernel
theorem dX11_reads_166 : decode cX11_reads 166 = .ok (.iaload, 1) := by decide +kernel
theorem dX11_reads_167 : decode cX11_reads 167 = .ok (.putfield 107, 3) := by decide +kernel
theorem dX11_reads_170 : decode cX11_reads 170 = .ok (.aload_n 0, 1) := by decide +kernel
theorem dX11_reads_171 : decode cX11_reads 171 = .ok (.aload_n 0, 1) := by decide +kernel
theorem dX11_reads_172 : decode cX11_reads 172 = .ok (.getfield 35, 3) := by decide +kernel
theorem dX11_reads_175 : decode cX11_reads 175 = .ok (.aload_n 0, 1) := by decide +kernel
theorem dX11_reads_176 : decode cX11_reads 176 = .ok (.getfield 87, 3) := by decide +kernel
theorem dX11_reads_179 : decode cX11_reads 179 = .ok (.iaload, 1) := by decide +kernel
theorem dX11_reads_180 : decode cX11_reads 180 = .ok (.putfield 90, 3) := by decide +kernel
theorem dX11_reads_183 : decode cX11_reads 183 = .ok (.aload_n 0, 1) := by decide +kernel
theorem dX11_reads_184 : decode cX11_reads 184 = .ok (.aload_n 0, 1) := by decide +kernel
theorem dX11_reads_185 : decode cX11_reads 185 = .ok (.getfield 38, 3) := by decide +kernel
theorem dX11_reads_188 : decode cX11_reads 188 = .ok (.aload_n 0, 1) := by decide +kernel
theorem dX11_reads_189 : decode cX11_reads 189 = .ok (.getfield 87, 3) := by decide +kernel
theorem dX11_reads_192 : decode cX11_reads 192 = .ok (.iaload, 1) := by decide +kernel
theorem dX11_reads_193 : decode cX11_reads 193 = .ok (.putfield 93, 3) := by decide +kernel
theorem dX11_reads_196 : decode cX11_reads 196 = .ok (.iconst 0, 1) := by decide +kernel
theorem dX11_reads_197 : decode cX11_reads 197 = .ok (.istore_n 3, 1) := by decide +kernel
theorem dX11_reads_198 : decode cX11_reads 198 = .ok (.iload_n 3, 1) := by decide +kernel
theorem dX11_reads_199 : decode cX11_reads 199 = .ok (.aload_n 0, 1) := by decide +kernel
theorem dX11_reads_200 : decode cX11_reads 200 = .ok (.getfield 90, 3) := by decide +kernel
theorem dX11_reads_203 : decode cX11_reads 203 = .ok (.aload_n 0, 1) := by decide +kernel
theorem dX11_reads_204 : decode cX11_reads 204 = .ok (.getfield 93, 3) := by decide +kernel
theorem dX11_reads_207 : decode cX11_reads 207 = .ok (.imul, 1) := by decide +kernel
theorem dX11_reads_208 : decode cX11_reads 208 = .ok (.if_icmp .ge 30, 3) := by decide +kernel
theorem dX11_reads_211 : decode cX11_reads 211 = .ok (.aload_n 0, 1) := by decide +kernel
theorem dX11_reads_212 : decode cX11_reads 212 = .ok (.getfield 44, 3) := by decide +kernel
theorem dX11_reads_215 : decode cX11_reads 215 = .ok (.iload_n 3, 1) := by decide +kernel
theorem dX11_reads_216 : decode cX11_reads 216 = .ok (.aload_n 0, 1) := by decide +kernel
theorem dX11_reads_217 : decode cX11_reads 217 = .ok (.getfield 41, 3) := by decide +kernel
theorem dX11_reads_220 : decode cX11_reads 220 = .ok (.sipush 256, 3) := by decide +kernel
theorem dX11_reads_223 : decode cX11_reads 223 = .ok (.aload_n 0, 1) := by decide +kernel
theorem dX11_reads_224 : decode cX11_reads 224 = .ok (.getfield 87, 3) := by decide +kernel
theorem dX11_reads_227 : decode cX11_reads 227 = .ok (.imul, 1) := by decide +kernel
theorem dX11_reads_228 : decode cX11_reads 228 = .ok (.iload_n 3, 1) := by decide +kernel
theorem dX11_reads_229 : decode cX11_reads 229 = .ok (.iadd, 1) := by decide +kernel
theorem dX11_reads_230 : decode cX11_reads 230 = .ok (.iaload, 1) := by decide +kernel
theorem dX11_reads_231 : decode cX11_reads 231 = .ok (.iastore, 1) := by decide +kernel
theorem dX11_reads_232 : decode cX11_reads 232 = .ok (.iinc 3 1, 3) := by decide +kernel
theorem dX11_reads_235 : decode cX11_reads 235 = .ok (.goto (-37), 3) := by decide +kernel
theorem dX11_reads_238 : decode cX11_reads 238 = .ok (.aload_n 0, 1) := by decide +kernel
theorem dX11_reads_239 : decode cX11_reads 239 = .ok (.invokevirtual 125, 3) := by decide +kernel
theorem dX11_reads_242 : decode cX11_reads 242 = .ok (.goto 8, 3) := by decide +kernel
theorem dX11_reads_245 : decode cX11_reads 245 = .ok (.aload_n 0, 1) := by decide +kernel
theorem dX11_reads_246 : decode cX11_reads 246 = .ok (.iload_n 1, 1) := by decide +kernel
theorem dX11_reads_247 : decode cX11_reads 247 = .ok (.putfield 104, 3) := by decide +kernel
theorem dX11_reads_250 : decode cX11_reads 250 = .ok (.iinc 1 1, 3) := by decide +kernel
theorem dX11_reads_253 : decode cX11_reads 253 = .ok (.goto (-236), 3) := by decide +kernel
theorem dX11_reads_256 : decode cX11_reads 256 = .ok (.aload_n 0, 1) := by decide +kernel
theorem dX11_reads_257 : decode cX11_reads 257 = .ok (.getfield 104, 3) := by decide +kernel
theorem dX11_reads_260 : decode cX11_reads 260 = .ok (.ifCond .ge 23, 3) := by decide +kernel
theorem dX11_reads_263 : decode cX11_reads 263 = .ok (.aload_n 0, 1) := by decide +kernel
theorem dX11_reads_264 : decode cX11_reads 264 = .ok (.getfield 113, 3) := by decide +kernel
theorem dX11_reads_267 : decode cX11_reads 267 = .ok (.ifCond .eq 11, 3) := by decide +kernel
theorem dX11_reads_270 : decode cX11_reads 270 = .ok (.iload_n 1, 1) := by decide +kernel
theorem dX11_reads_271 : decode cX11_reads 271 = .ok (.aload_n 0, 1) := by decide +kernel
theorem dX11_reads_272 : decode cX11_reads 272 = .ok (.getfield 84, 3) := by decide +kernel
theorem dX11_reads_275 : decode cX11_reads 275 = .ok (.if_icmp .ge 8, 3) := by decide +kernel
theorem dX11_reads_278 : decode cX11_reads 278 = .ok (.aload_n 0, 1) := by decide +kernel
theorem dX11_reads_279 : decode cX11_reads 279 = .ok (.iload_n 1, 1) := by decide +kernel
theorem dX11_reads_280 : decode cX11_reads 280 = .ok (.putfield 104, 3) := by decide +kernel
theorem dX11_reads_283 : decode cX11_reads 283 = .ok (.aload_n 0, 1) := by decide +kernel
theorem dX11_reads_284 : decode cX11_reads 284 = .ok (.getfield 104, 3) := by decide +kernel
theorem dX11_reads_287 : decode cX11_reads 287 = .ok (.ireturn, 1) := by decide +kernel
theorem dX11_errorPosition_0 : decode cX11_errorPosition 0 = .ok (.aload_n 0, 1) := by decide +kernel
theorem dX11_errorPosition_1 : decode cX11_errorPosition 1 = .ok (.iconst 0, 1) := by decide +kernel
theorem dX11_errorPosition_2 : decode cX11_errorPosition 2 = .ok (.putfield 56, 3) := by decide +kernel
theorem dX11_errorPosition_5 : decode cX11_errorPosition 5 = .ok (.aload_n 0, 1) := by decide +kernel
theorem dX11_errorPosition_6 : decode cX11_errorPosition 6 = .ok (.invokevirtual 138, 3) := by decide +kernel
theorem dX11_errorPosition_9 : decode cX11_errorPosition 9 = .ok (.istore_n 1, 1) := by decide +kernel
theorem dX11_errorPosition_10 : decode cX11_errorPosition 10 = .ok (.iload_n 1, 1) := by decide +kernel
theorem dX11_errorPosition_11 : decode cX11_errorPosition 11 = .ok (.ifCond .ge 8, 3) := by decide +kernel
theorem dX11_errorPosition_14 : decode cX11_errorPosition 14 = .ok (.bipush (-9), 2) := by decide +kernel
theorem dX11_errorPosition_16 : decode cX11_errorPosition 16 = .ok (.goto 4, 3) := by decide +kernel
theorem dX11_errorPosition_19 : decode cX11_errorPosition 19 = .ok (.iload_n 1, 1) := by decide +kernel
theorem dX11_errorPosition_20 : decode cX11_errorPosition 20 = .ok (.ireturn, 1) := by decide +kernel
theorem dX11_sum_0 : decode cX11_sum 0 = .ok (.iconst 0, 1) := by decide +kernel
theorem dX11_sum_1 : decode cX11_sum 1 = .ok (.istore_n 3, 1) := by decide +kernel
theorem dX11_sum_2 : decode cX11_sum 2 = .ok (.iconst 0, 1) := by decide +kernel
theorem dX11_sum_3 : decode cX11_sum 3 = .ok (.istore 4, 2) := by decide +kernel
theorem dX11_sum_5 : decode cX11_sum 5 = .ok (.iload 4, 2) := by decide +kernel
theorem dX11_sum_7 : decode cX11_sum 7 = .ok (.iload_n 2, 1) := by decide +kernel
theorem dX11_sum_8 : decode cX11_sum 8 = .ok (.if_icmp .ge 21, 3) := by decide +kernel
theorem dX11_sum_11 : decode cX11_sum 11 = .ok (.iload_n 3, 1) := by decide +kernel
theorem dX11_sum_12 : decode cX11_sum 12 = .ok (.aload_n 0, 1) := by decide +kernel
theorem dX11_sum_13 : decode cX11_sum 13 = .ok (.getfield 7, 3) := by decide +kernel
theorem dX11_sum_16 : decode cX11_sum 16 = .ok (.iload_n 1, 1) := by decide +kernel
theorem dX11_sum_17 : decode cX11_sum 17 = .ok (.iload 4, 2) := by decide +kernel
theorem dX11_sum_19 : decode cX11_sum 19 = .ok (.iadd, 1) := by decide +kernel
theorem dX11_sum_20 : decode cX11_sum 20 = .ok (.iaload, 1) := by decide +kernel
theorem dX11_sum_21 : decode cX11_sum 21 = .ok (.iadd, 1) := by decide +kernel
theorem dX11_sum_22 : decode cX11_sum 22 = .ok (.istore_n 3, 1) := by decide +kernel
theorem dX11_sum_23 : decode cX11_sum 23 = .ok (.iinc 4 1, 3) := by decide +kernel
theorem dX11_sum_26 : decode cX11_sum 26 = .ok (.goto (-21), 3) := by decide +kernel
theorem dX11_sum_29 : decode cX11_sum 29 = .ok (.iload_n 3, 1) := by decide +kernel
theorem dX11_sum_30 : decode cX11_sum 30 = .ok (.ireturn, 1) := by decide +kernel
theorem dX11_about_0 : decode cX11_about 0 = .ok (.aload_n 0, 1) := by decide +kernel
theorem dX11_about_1 : decode cX11_about 1 = .ok (.iconst 0, 1) := by decide +kernel
theorem dX11_about_2 : decode cX11_about 2 = .ok (.putfield 56, 3) := by decide +kernel
theorem dX11_about_5 : decode cX11_about 5 = .ok (.iconst 0, 1) := by decide +kernel
theorem dX11_about_6 : decode cX11_about 6 = .ok (.istore_n 2, 1) := by decide +kernel
theorem dX11_about_7 : decode cX11_about 7 = .ok (.iconst 0, 1) := by decide +kernel
theorem dX11_about_8 : decode cX11_about 8 = .ok (.istore_n 3, 1) := by decide +kernel
theorem dX11_about_9 : decode cX11_about 9 = .ok (.iload_n 3, 1) := by decide +kernel
theorem dX11_about_10 : decode cX11_about 10 = .ok (.iconst 3, 1) := by decide +kernel
theorem dX11_about_11 : decode cX11_about 11 = .ok (.if_icmp .ge 25, 3) := by decide +kernel
theorem dX11_about_14 : decode cX11_about 14 = .ok (.iload_n 2, 1) := by decide +kernel
theorem dX11_about_15 : decode cX11_about 15 = .ok (.aload_n 0, 1) := by decide +kernel
theorem dX11_about_16 : decode cX11_about 16 = .ok (.iload_n 3, 1) := by decide +kernel
theorem dX11_about_17 : decode cX11_about 17 = .ok (.invokevirtual 75, 3) := by decide +kernel
theorem dX11_about_20 : decode cX11_about 20 = .ok (.ifCond .le 7, 3) := by decide +kernel
theorem dX11_about_23 : decode cX11_about 23 = .ok (.iconst 1, 1) := by decide +kernel
theorem dX11_about_24 : decode cX11_about 24 = .ok (.goto 4, 3) := by decide +kernel
theorem dX11_about_27 : decode cX11_about 27 = .ok (.iconst 0, 1) := by decide +kernel
theorem dX11_about_28 : decode cX11_about 28 = .ok (.iadd, 1) := by decide +kernel
theorem dX11_about_29 : decode cX11_about 29 = .ok (.istore_n 2, 1) := by decide +kernel
theorem dX11_about_30 : decode cX11_about 30 = .ok (.iinc 3 1, 3) := by decide +kernel
theorem dX11_about_33 : decode cX11_about 33 = .ok (.goto (-24), 3) := by decide +kernel
theorem dX11_about_36 : decode cX11_about 36 = .ok (.iload_n 1, 1) := by decide +kernel
theorem dX11_about_37 : decode cX11_about 37 = .ok (.tableswitch 129 0 8 #[51, 58, 79, 81, 88, 95, 102, 111, 120], 51) := by decide +kernel
theorem dX11_about_88 : decode cX11_about 88 = .ok (.aload_n 0, 1) := by decide +kernel
theorem dX11_about_89 : decode cX11_about 89 = .ok (.getfield 7, 3) := by decide +kernel
theorem dX11_about_92 : decode cX11_about 92 = .ok (.iconst 0, 1) := by decide +kernel
theorem dX11_about_93 : decode cX11_about 93 = .ok (.iaload, 1) := by decide +kernel
theorem dX11_about_94 : decode cX11_about 94 = .ok (.ireturn, 1) := by decide +kernel
theorem dX11_about_95 : decode cX11_about 95 = .ok (.aload_n 0, 1) := by decide +kernel
theorem dX11_about_96 : decode cX11_about 96 = .ok (.getfield 7, 3) := by decide +kernel
theorem dX11_about_99 : decode cX11_about 99 = .ok (.iconst 0, 1) := by decide +kernel
theorem dX11_about_100 : decode cX11_about 100 = .ok (.iaload, 1) := by decide +kernel
theorem dX11_about_101 : decode cX11_about 101 = .ok (.ifCond .ne 8, 3) := by decide +kernel
theorem dX11_about_104 : decode cX11_about 104 = .ok (.bipush (-9), 2) := by decide +kernel
theorem dX11_about_106 : decode cX11_about 106 = .ok (.goto 9, 3) := by decide +kernel
theorem dX11_about_109 : decode cX11_about 109 = .ok (.aload_n 0, 1) := by decide +kernel
theorem dX11_about_110 : decode cX11_about 110 = .ok (.getfield 7, 3) := by decide +kernel
theorem dX11_about_113 : decode cX11_about 113 = .ok (.iconst 1, 1) := by decide +kernel
theorem dX11_about_114 : decode cX11_about 114 = .ok (.iaload, 1) := by decide +kernel
theorem dX11_about_115 : decode cX11_about 115 = .ok (.ireturn, 1) := by decide +kernel
theorem dX11_about_116 : decode cX11_about 116 = .ok (.iload_n 2, 1) := by decide +kernel
theorem dX11_about_117 : decode cX11_about 117 = .ok (.ireturn, 1) := by decide +kernel
theorem dX11_about_118 : decode cX11_about 118 = .ok (.aload_n 0, 1) := by decide +kernel
theorem dX11_about_119 : decode cX11_about 119 = .ok (.getfield 7, 3) := by decide +kernel
theorem dX11_about_122 : decode cX11_about 122 = .ok (.iconst 2, 1) := by decide +kernel
theorem dX11_about_123 : decode cX11_about 123 = .ok (.iaload, 1) := by decide +kernel
theorem dX11_about_124 : decode cX11_about 124 = .ok (.ireturn, 1) := by decide +kernel
theorem dX11_about_125 : decode cX11_about 125 = .ok (.aload_n 0, 1) := by decide +kernel
theorem dX11_about_126 : decode cX11_about 126 = .ok (.getfield 7, 3) := by decide +kernel
theorem dX11_about_129 : decode cX11_about 129 = .ok (.iconst 3, 1) := by decide +kernel
theorem dX11_about_130 : decode cX11_about 130 = .ok (.iaload, 1) := by decide +kernel
theorem dX11_about_131 : decode cX11_about 131 = .ok (.ireturn, 1) := by decide +kernel
theorem dX11_about_132 : decode cX11_about 132 = .ok (.aload_n 0, 1) := by decide +kernel
theorem dX11_about_133 : decode cX11_about 133 = .ok (.getfield 7, 3) := by decide +kernel
theorem dX11_about_136 : decode cX11_about 136 = .ok (.iconst 4, 1) := by decide +kernel
theorem dX11_about_137 : decode cX11_about 137 = .ok (.iaload, 1) := by decide +kernel
theorem dX11_about_138 : decode cX11_about 138 = .ok (.ireturn, 1) := by decide +kernel
theorem dX11_about_139 : decode cX11_about 139 = .ok (.aload_n 0, 1) := by decide +kernel
theorem dX11_about_140 : decode cX11_about 140 = .ok (.bipush 50, 2) := by decide +kernel
theorem dX11_about_142 : decode cX11_about 142 = .ok (.bipush 6, 2) := by decide +kernel
theorem dX11_about_144 : decode cX11_about 144 = .ok (.invokevirtual 142, 3) := by decide +kernel
theorem dX11_about_147 : decode cX11_about 147 = .ok (.ireturn, 1) := by decide +kernel
theorem dX11_about_148 : decode cX11_about 148 = .ok (.aload_n 0, 1) := by decide +kernel
theorem dX11_about_149 : decode cX11_about 149 = .ok (.bipush 56, 2) := by decide +kernel
theorem dX11_about_151 : decode cX11_about 151 = .ok (.bipush 6, 2) := by decide +kernel
theorem dX11_about_153 : decode cX11_about 153 = .ok (.invokevirtual 142, 3) := by decide +kernel
theorem dX11_about_156 : decode cX11_about 156 = .ok (.ireturn, 1) := by decide +kernel
theorem dX11_about_157 : decode cX11_about 157 = .ok (.aload_n 0, 1) := by decide +kernel
theorem dX11_about_158 : decode cX11_about 158 = .ok (.bipush 62, 2) := by decide +kernel
theorem dX11_about_160 : decode cX11_about 160 = .ok (.bipush 6, 2) := by decide +kernel
theorem dX11_about_162 : decode cX11_about 162 = .ok (.invokevirtual 142, 3) := by decide +kernel
theorem dX11_about_165 : decode cX11_about 165 = .ok (.ireturn, 1) := by decide +kernel
theorem dX11_about_166 : decode cX11_about 166 = .ok (.aload_n 0, 1) := by decide +kernel
theorem dX11_about_167 : decode cX11_about 167 = .ok (.iconst 1, 1) := by decide +kernel
theorem dX11_about_168 : decode cX11_about 168 = .ok (.invokevirtual 81, 3) := by decide +kernel
theorem dX11_about_171 : decode cX11_about 171 = .ok (.ireturn, 1) := by decide +kernel
theorem dX11_member_0 : decode cX11_member 0 = .ok (.aload_n 0, 1) := by decide +kernel
theorem dX11_member_1 : decode cX11_member 1 = .ok (.iconst 0, 1) := by decide +kernel
theorem dX11_member_2 : decode cX11_member 2 = .ok (.putfield 56, 3) := by decide +kernel
theorem dX11_member_5 : decode cX11_member 5 = .ok (.aload_n 0, 1) := by decide +kernel
theorem dX11_member_6 : decode cX11_member 6 = .ok (.iload_n 1, 1) := by decide +kernel
theorem dX11_member_7 : decode cX11_member 7 = .ok (.invokevirtual 145, 3) := by decide +kernel
theorem dX11_member_10 : decode cX11_member 10 = .ok (.ifCond .ne 9, 3) := by decide +kernel
theorem dX11_member_13 : decode cX11_member 13 = .ok (.aload_n 0, 1) := by decide +kernel
theorem dX11_member_14 : decode cX11_member 14 = .ok (.iconst 1, 1) := by decide +kernel
theorem dX11_member_15 : decode cX11_member 15 = .ok (.invokevirtual 81, 3) := by decide +kernel
theorem dX11_member_18 : decode cX11_member 18 = .ok (.ireturn, 1) := by decide +kernel
theorem dX11_member_19 : decode cX11_member 19 = .ok (.iload_n 2, 1) := by decide +kernel
theorem dX11_member_20 : decode cX11_member 20 = .ok (.i2l, 1) := by decide +kernel
theorem dX11_member_21 : decode cX11_member 21 = .ok (.lconst 0, 1) := by decide +kernel
theorem dX11_member_22 : decode cX11_member 22 = .ok (.ldc2_w 148, 3) := by decide +kernel
theorem dX11_member_25 : decode cX11_member 25 = .ok (.invokestatic 63, 3) := by decide +kernel
theorem dX11_member_28 : decode cX11_member 28 = .ok (.ifCond .ne 9, 3) := by decide +kernel
theorem dX11_member_31 : decode cX11_member 31 = .ok (.aload_n 0, 1) := by decide +kernel
theorem dX11_member_32 : decode cX11_member 32 = .ok (.iconst 2, 1) := by decide +kernel
theorem dX11_member_33 : decode cX11_member 33 = .ok (.invokevirtual 81, 3) := by decide +kernel
theorem dX11_member_36 : decode cX11_member 36 = .ok (.ireturn, 1) := by decide +kernel
theorem dX11_member_37 : decode cX11_member 37 = .ok (.iload_n 2, 1) := by decide +kernel
theorem dX11_member_38 : decode cX11_member 38 = .ok (.ifCond .ne 14, 3) := by decide +kernel
theorem dX11_member_41 : decode cX11_member 41 = .ok (.aload_n 0, 1) := by decide +kernel
theorem dX11_member_42 : decode cX11_member 42 = .ok (.getfield 7, 3) := by decide +kernel
theorem dX11_member_45 : decode cX11_member 45 = .ok (.iconst 5, 1) := by decide +kernel
theorem dX11_member_46 : decode cX11_member 46 = .ok (.iload_n 1, 1) := by decide +kernel
theorem dX11_member_47 : decode cX11_member 47 = .ok (.iadd, 1) := by decide +kernel
theorem dX11_member_48 : decode cX11_member 48 = .ok (.iaload, 1) := by decide +kernel
theorem dX11_member_49 : decode cX11_member 49 = .ok (.goto 50, 3) := by decide +kernel
theorem dX11_member_52 : decode cX11_member 52 = .ok (.iload_n 2, 1) := by decide +kernel
theorem dX11_member_53 : decode cX11_member 53 = .ok (.iconst 1, 1) := by decide +kernel
theorem dX11_member_54 : decode cX11_member 54 = .ok (.if_icmp .ne 15, 3) := by decide +kernel
theorem dX11_member_57 : decode cX11_member 57 = .ok (.aload_n 0, 1) := by decide +kernel
theorem dX11_member_58 : decode cX11_member 58 = .ok (.getfield 7, 3) := by decide +kernel
theorem dX11_member_61 : decode cX11_member 61 = .ok (.bipush 10, 2) := by decide +kernel
theorem dX11_member_63 : decode cX11_member 63 = .ok (.iload_n 1, 1) := by decide +kernel
theorem dX11_member_64 : decode cX11_member 64 = .ok (.iadd, 1) := by decide +kernel
theorem dX11_member_65 : decode cX11_member 65 = .ok (.iaload, 1) := by decide +kernel
theorem dX11_member_66 : decode cX11_member 66 = .ok (.goto 33, 3) := by decide +kernel
theorem dX11_member_69 : decode cX11_member 69 = .ok (.iload_n 2, 1) := by decide +kernel
theorem dX11_member_70 : decode cX11_member 70 = .ok (.iconst 2, 1) := by decide +kernel
theorem dX11_member_71 : decode cX11_member 71 = .ok (.if_icmp .ne 19, 3) := by decide +kernel
theorem dX11_member_74 : decode cX11_member 74 = .ok (.aload_n 0, 1) := by decide +kernel
theorem dX11_member_75 : decode cX11_member 75 = .ok (.bipush 15, 2) := by decide +kernel
theorem dX11_member_77 : decode cX11_member 77 = .ok (.bipush 6, 2) := by decide +kernel
theorem dX11_member_79 : decode cX11_member 79 = .ok (.iload_n 1, 1) := by decide +kernel
theorem dX11_member_80 : decode cX11_member 80 = .ok (.imul, 1) := by decide +kernel
theorem dX11_member_81 : decode cX11_member 81 = .ok (.iadd, 1) := by decide +kernel
theorem dX11_member_82 : decode cX11_member 82 = .ok (.bipush 6, 2) := by decide +kernel
theorem dX11_member_84 : decode cX11_member 84 = .ok (.invokevirtual 142, 3) := by decide +kernel
theorem dX11_member_87 : decode cX11_member 87 = .ok (.goto 12, 3) := by decide +kernel
theorem dX11_member_90 : decode cX11_member 90 = .ok (.aload_n 0, 1) := by decide +kernel
theorem dX11_member_91 : decode cX11_member 91 = .ok (.getfield 7, 3) := by decide +kernel
theorem dX11_member_94 : decode cX11_member 94 = .ok (.bipush 45, 2) := by decide +kernel
theorem dX11_member_96 : decode cX11_member 96 = .ok (.iload_n 1, 1) := by decide +kernel
theorem dX11_member_97 : decode cX11_member 97 = .ok (.iadd, 1) := by decide +kernel
theorem dX11_member_98 : decode cX11_member 98 = .ok (.iaload, 1) := by decide +kernel
theorem dX11_member_99 : decode cX11_member 99 = .ok (.ireturn, 1) := by decide +kernel
theorem dX11_givenOf_0 : decode cX11_givenOf 0 = .ok (.iconst 0, 1) := by decide +kernel
theorem dX11_givenOf_1 : decode cX11_givenOf 1 = .ok (.istore_n 2, 1) := by decide +kernel
theorem dX11_givenOf_2 : decode cX11_givenOf 2 = .ok (.iconst 0, 1) := by decide +kernel
theorem dX11_givenOf_3 : decode cX11_givenOf 3 = .ok (.istore_n 3, 1) := by decide +kernel
theorem dX11_givenOf_4 : decode cX11_givenOf 4 = .ok (.iload_n 3, 1) := by decide +kernel
theorem dX11_givenOf_5 : decode cX11_givenOf 5 = .ok (.iconst 5, 1) := by decide +kernel
theorem dX11_givenOf_6 : decode cX11_givenOf 6 = .ok (.if_icmp .ge 26, 3) := by decide +kernel
theorem dX11_givenOf_9 : decode cX11_givenOf 9 = .ok (.iload_n 2, 1) := by decide +kernel
theorem dX11_givenOf_10 : decode cX11_givenOf 10 = .ok (.aload_n 0, 1) := by decide +kernel
theorem dX11_givenOf_11 : decode cX11_givenOf 11 = .ok (.getfield 7, 3) := by decide +kernel
theorem dX11_givenOf_14 : decode cX11_givenOf 14 = .ok (.bipush 15, 2) := by decide +kernel
theorem dX11_givenOf_16 : decode cX11_givenOf 16 = .ok (.bipush 6, 2) := by decide +kernel
theorem dX11_givenOf_18 : decode cX11_givenOf 18 = .ok (.iload_n 3, 1) := by decide +kernel
theorem dX11_givenOf_19 : decode cX11_givenOf 19 = .ok (.imul, 1) := by decide +kernel
theorem dX11_givenOf_20 : decode cX11_givenOf 20 = .ok (.iadd, 1) := by decide +kernel
theorem dX11_givenOf_21 : decode cX11_givenOf 21 = .ok (.iload_n 1, 1) := by decide +kernel
theorem dX11_givenOf_22 : decode cX11_givenOf 22 = .ok (.iadd, 1) := by decide +kernel
theorem dX11_givenOf_23 : decode cX11_givenOf 23 = .ok (.iaload, 1) := by decide +kernel
theorem dX11_givenOf_24 : decode cX11_givenOf 24 = .ok (.iadd, 1) := by decide +kernel
theorem dX11_givenOf_25 : decode cX11_givenOf 25 = .ok (.istore_n 2, 1) := by decide +kernel
theorem dX11_givenOf_26 : decode cX11_givenOf 26 = .ok (.iinc 3 1, 3) := by decide +kernel
theorem dX11_givenOf_29 : decode cX11_givenOf 29 = .ok (.goto (-25), 3) := by decide +kernel
theorem dX11_givenOf_32 : decode cX11_givenOf 32 = .ok (.iload_n 2, 1) := by decide +kernel
theorem dX11_givenOf_33 : decode cX11_givenOf 33 = .ok (.ireturn, 1) := by decide +kernel
theorem dX11_colourIn_0 : decode cX11_colourIn 0 = .ok (.iconst 0, 1) := by decide +kernel
theorem dX11_colourIn_1 : decode cX11_colourIn 1 = .ok (.istore 5, 2) := by decide +kernel
theorem dX11_colourIn_3 : decode cX11_colourIn 3 = .ok (.iload_n 3, 1) := by decide +kernel
theorem dX11_colourIn_4 : decode cX11_colourIn 4 = .ok (.istore 6, 2) := by decide +kernel
theorem dX11_colourIn_6 : decode cX11_colourIn 6 = .ok (.iload 6, 2) := by decide +kernel
theorem dX11_colourIn_8 : decode cX11_colourIn 8 = .ok (.iload 4, 2) := by decide +kernel
theorem dX11_colourIn_10 : decode cX11_colourIn 10 = .ok (.if_icmp .ge 30, 3) := by decide +kernel
theorem dX11_colourIn_13 : decode cX11_colourIn 13 = .ok (.iload 5, 2) := by decide +kernel
theorem dX11_colourIn_15 : decode cX11_colourIn 15 = .ok (.aload_n 0, 1) := by decide +kernel
theorem dX11_colourIn_16 : decode cX11_colourIn 16 = .ok (.iload_n 1, 1) := by decide +kernel
theorem dX11_colourIn_17 : decode cX11_colourIn 17 = .ok (.iload 6, 2) := by decide +kernel
theorem dX11_colourIn_19 : decode cX11_colourIn 19 = .ok (.invokevirtual 150, 3) := by decide +kernel
theorem dX11_colourIn_22 : decode cX11_colourIn 22 = .ok (.iload_n 2, 1) := by decide +kernel
theorem dX11_colourIn_23 : decode cX11_colourIn 23 = .ok (.if_icmp .ne 7, 3) := by decide +kernel
theorem dX11_colourIn_26 : decode cX11_colourIn 26 = .ok (.iconst 1, 1) := by decide +kernel
theorem dX11_colourIn_27 : decode cX11_colourIn 27 = .ok (.goto 4, 3) := by decide +kernel
theorem dX11_colourIn_30 : decode cX11_colourIn 30 = .ok (.iconst 0, 1) := by decide +kernel
theorem dX11_colourIn_31 : decode cX11_colourIn 31 = .ok (.iadd, 1) := by decide +kernel
theorem dX11_colourIn_32 : decode cX11_colourIn 32 = .ok (.istore 5, 2) := by decide +kernel
theorem dX11_colourIn_34 : decode cX11_colourIn 34 = .ok (.iinc 6 1, 3) := by decide +kernel
theorem dX11_colourIn_37 : decode cX11_colourIn 37 = .ok (.goto (-31), 3) := by decide +kernel
theorem dX11_colourIn_40 : decode cX11_colourIn 40 = .ok (.iload 5, 2) := by decide +kernel
theorem dX11_colourIn_42 : decode cX11_colourIn 42 = .ok (.ireturn, 1) := by decide +kernel
theorem dX11_cloth_0 : decode cX11_cloth 0 = .ok (.aload_n 0, 1) := by decide +kernel
theorem dX11_cloth_1 : decode cX11_cloth 1 = .ok (.iconst 0, 1) := by decide +kernel
theorem dX11_cloth_2 : decode cX11_cloth 2 = .ok (.putfield 56, 3) := by decide +kernel
theorem dX11_cloth_5 : decode cX11_cloth 5 = .ok (.iload_n 1, 1) := by decide +kernel
theorem dX11_cloth_6 : decode cX11_cloth 6 = .ok (.invokestatic 153, 3) := by decide +kernel
theorem dX11_cloth_9 : decode cX11_cloth 9 = .ok (.ifCond .ne 9, 3) := by decide +kernel
theorem dX11_cloth_12 : decode cX11_cloth 12 = .ok (.aload_n 0, 1) := by decide +kernel
theorem dX11_cloth_13 : decode cX11_cloth 13 = .ok (.iconst 1, 1) := by decide +kernel
theorem dX11_cloth_14 : decode cX11_cloth 14 = .ok (.invokevirtual 81, 3) := by decide +kernel
theorem dX11_cloth_17 : decode cX11_cloth 17 = .ok (.ireturn, 1) := by decide +kernel
theorem dX11_cloth_18 : decode cX11_cloth 18 = .ok (.iload_n 2, 1) := by decide +kernel
theorem dX11_cloth_19 : decode cX11_cloth 19 = .ok (.i2l, 1) := by decide +kernel
theorem dX11_cloth_20 : decode cX11_cloth 20 = .ok (.lconst 0, 1) := by decide +kernel
theorem dX11_cloth_21 : decode cX11_cloth 21 = .ok (.ldc2_w 156, 3) := by decide +kernel
theorem dX11_cloth_24 : decode cX11_cloth 24 = .ok (.invokestatic 63, 3) := by decide +kernel
theorem dX11_cloth_27 : decode cX11_cloth 27 = .ok (.ifCond .ne 9, 3) := by decide +kernel
theorem dX11_cloth_30 : decode cX11_cloth 30 = .ok (.aload_n 0, 1) := by decide +kernel
theorem dX11_cloth_31 : decode cX11_cloth 31 = .ok (.iconst 2, 1) := by decide +kernel
theorem dX11_cloth_32 : decode cX11_cloth 32 = .ok (.invokevirtual 81, 3) := by decide +kernel
theorem dX11_cloth_35 : decode cX11_cloth 35 = .ok (.ireturn, 1) := by decide +kernel
theorem dX11_cloth_36 : decode cX11_cloth 36 = .ok (.aload_n 0, 1) := by decide +kernel
theorem dX11_cloth_37 : decode cX11_cloth 37 = .ok (.getfield 7, 3) := by decide +kernel
theorem dX11_cloth_40 : decode cX11_cloth 40 = .ok (.bipush 68, 2) := by decide +kernel
theorem dX11_cloth_42 : decode cX11_cloth 42 = .ok (.iload_n 1, 1) := by decide +kernel
theorem dX11_cloth_43 : decode cX11_cloth 43 = .ok (.iadd, 1) := by decide +kernel
theorem dX11_cloth_44 : decode cX11_cloth 44 = .ok (.iaload, 1) := by decide +kernel
theorem dX11_cloth_45 : decode cX11_cloth 45 = .ok (.istore_n 3, 1) := by decide +kernel
theorem dX11_cloth_46 : decode cX11_cloth 46 = .ok (.iconst 0, 1) := by decide +kernel
theorem dX11_cloth_47 : decode cX11_cloth 47 = .ok (.istore 4, 2) := by decide +kernel
theorem dX11_cloth_49 : decode cX11_cloth 49 = .ok (.iload 4, 2) := by decide +kernel
theorem dX11_cloth_51 : decode cX11_cloth 51 = .ok (.iconst 3, 1) := by decide +kernel
theorem dX11_cloth_52 : decode cX11_cloth 52 = .ok (.if_icmp .ge 31, 3) := by decide +kernel
theorem dX11_cloth_55 : decode cX11_cloth 55 = .ok (.iload_n 3, 1) := by decide +kernel
theorem dX11_cloth_56 : decode cX11_cloth 56 = .ok (.aload_n 0, 1) := by decide +kernel
theorem dX11_cloth_57 : decode cX11_cloth 57 = .ok (.iload 4, 2) := by decide +kernel
theorem dX11_cloth_59 : decode cX11_cloth 59 = .ok (.iload_n 1, 1) := by decide +kernel
theorem dX11_cloth_60 : decode cX11_cloth 60 = .ok (.iconst 0, 1) := by decide +kernel
theorem dX11_cloth_61 : decode cX11_cloth 61 = .ok (.aload_n 0, 1) := by decide +kernel
theorem dX11_cloth_62 : decode cX11_cloth 62 = .ok (.getfield 7, 3) := by decide +kernel
theorem dX11_cloth_65 : decode cX11_cloth 65 = .ok (.iload 4, 2) := by decide +kernel
theorem dX11_cloth_67 : decode cX11_cloth 67 = .ok (.iconst 2, 1) := by decide +kernel
theorem dX11_cloth_68 : decode cX11_cloth 68 = .ok (.invokestatic 71, 3) := by decide +kernel
theorem dX11_cloth_71 : decode cX11_cloth 71 = .ok (.iaload, 1) := by decide +kernel
theorem dX11_cloth_72 : decode cX11_cloth 72 = .ok (.invokevirtual 158, 3) := by decide +kernel
theorem dX11_cloth_75 : decode cX11_cloth 75 = .ok (.iadd, 1) := by decide +kernel
theorem dX11_cloth_76 : decode cX11_cloth 76 = .ok (.istore_n 3, 1) := by decide +kernel
theorem dX11_cloth_77 : decode cX11_cloth 77 = .ok (.iinc 4 1, 3) := by decide +kernel
theorem dX11_cloth_80 : decode cX11_cloth 80 = .ok (.goto (-31), 3) := by decide +kernel
theorem dX11_cloth_83 : decode cX11_cloth 83 = .ok (.iload_n 2, 1) := by decide +kernel
theorem dX11_cloth_84 : decode cX11_cloth 84 = .ok (.ifCond .ne 15, 3) := by decide +kernel
theorem dX11_cloth_87 : decode cX11_cloth 87 = .ok (.aload_n 0, 1) := by decide +kernel
theorem dX11_cloth_88 : decode cX11_cloth 88 = .ok (.getfield 7, 3) := by decide +kernel
theorem dX11_cloth_91 : decode cX11_cloth 91 = .ok (.bipush 50, 2) := by decide +kernel
theorem dX11_cloth_93 : decode cX11_cloth 93 = .ok (.iload_n 1, 1) := by decide +kernel
theorem dX11_cloth_94 : decode cX11_cloth 94 = .ok (.iadd, 1) := by decide +kernel
theorem dX11_cloth_95 : decode cX11_cloth 95 = .ok (.iaload, 1) := by decide +kernel
theorem dX11_cloth_96 : decode cX11_cloth 96 = .ok (.goto 51, 3) := by decide +kernel
theorem dX11_cloth_99 : decode cX11_cloth 99 = .ok (.iload_n 2, 1) := by decide +kernel
theorem dX11_cloth_100 : decode cX11_cloth 100 = .ok (.iconst 1, 1) := by decide +kernel
theorem dX11_cloth_101 : decode cX11_cloth 101 = .ok (.if_icmp .ne 11, 3) := by decide +kernel
theorem dX11_cloth_104 : decode cX11_cloth 104 = .ok (.aload_n 0, 1) := by decide +kernel
theorem dX11_cloth_105 : decode cX11_cloth 105 = .ok (.iload_n 1, 1) := by decide +kernel
theorem dX11_cloth_106 : decode cX11_cloth 106 = .ok (.invokevirtual 162, 3) := by decide +kernel
theorem dX11_cloth_109 : decode cX11_cloth 109 = .ok (.goto 38, 3) := by decide +kernel
theorem dX11_cloth_112 : decode cX11_cloth 112 = .ok (.iload_n 2, 1) := by decide +kernel
theorem dX11_cloth_113 : decode cX11_cloth 113 = .ok (.iconst 2, 1) := by decide +kernel
theorem dX11_cloth_114 : decode cX11_cloth 114 = .ok (.if_icmp .ne 7, 3) := by decide +kernel
theorem dX11_cloth_117 : decode cX11_cloth 117 = .ok (.iload_n 3, 1) := by decide +kernel
theorem dX11_cloth_118 : decode cX11_cloth 118 = .ok (.goto 29, 3) := by decide +kernel
theorem dX11_cloth_121 : decode cX11_cloth 121 = .ok (.iload_n 2, 1) := by decide +kernel
theorem dX11_cloth_122 : decode cX11_cloth 122 = .ok (.iconst 3, 1) := by decide +kernel
theorem dX11_cloth_123 : decode cX11_cloth 123 = .ok (.if_icmp .ne 15, 3) := by decide +kernel
theorem dX11_cloth_126 : decode cX11_cloth 126 = .ok (.aload_n 0, 1) := by decide +kernel
theorem dX11_cloth_127 : decode cX11_cloth 127 = .ok (.getfield 7, 3) := by decide +kernel
theorem dX11_cloth_130 : decode cX11_cloth 130 = .ok (.bipush 56, 2) := by decide +kernel
theorem dX11_cloth_132 : decode cX11_cloth 132 = .ok (.iload_n 1, 1) := by decide +kernel
theorem dX11_cloth_133 : decode cX11_cloth 133 = .ok (.iadd, 1) := by decide +kernel
theorem dX11_cloth_134 : decode cX11_cloth 134 = .ok (.iaload, 1) := by decide +kernel
theorem dX11_cloth_135 : decode cX11_cloth 135 = .ok (.goto 12, 3) := by decide +kernel
theorem dX11_cloth_138 : decode cX11_cloth 138 = .ok (.aload_n 0, 1) := by decide +kernel
theorem dX11_cloth_139 : decode cX11_cloth 139 = .ok (.getfield 7, 3) := by decide +kernel
theorem dX11_cloth_142 : decode cX11_cloth 142 = .ok (.bipush 62, 2) := by decide +kernel
theorem dX11_cloth_144 : decode cX11_cloth 144 = .ok (.iload_n 1, 1) := by decide +kernel
theorem dX11_cloth_145 : decode cX11_cloth 145 = .ok (.iadd, 1) := by decide +kernel
theorem dX11_cloth_146 : decode cX11_cloth 146 = .ok (.iaload, 1) := by decide +kernel
theorem dX11_cloth_147 : decode cX11_cloth 147 = .ok (.ireturn, 1) := by decide +kernel
theorem dX11_coloursOf_0 : decode cX11_coloursOf 0 = .ok (.iconst 0, 1) := by decide +kernel
theorem dX11_coloursOf_1 : decode cX11_coloursOf 1 = .ok (.istore_n 2, 1) := by decide +kernel
theorem dX11_coloursOf_2 : decode cX11_coloursOf 2 = .ok (.iconst 0, 1) := by decide +kernel
theorem dX11_coloursOf_3 : decode cX11_coloursOf 3 = .ok (.istore_n 3, 1) := by decide +kernel
theorem dX11_coloursOf_4 : decode cX11_coloursOf 4 = .ok (.iload_n 3, 1) := by decide +kernel
theorem dX11_coloursOf_5 : decode cX11_coloursOf 5 = .ok (.bipush 6, 2) := by decide +kernel
theorem dX11_coloursOf_7 : decode cX11_coloursOf 7 = .ok (.if_icmp .ge 32, 3) := by decide +kernel
theorem dX11_coloursOf_10 : decode cX11_coloursOf 10 = .ok (.iload_n 2, 1) := by decide +kernel
theorem dX11_coloursOf_11 : decode cX11_coloursOf 11 = .ok (.aload_n 0, 1) := by decide +kernel
theorem dX11_coloursOf_12 : decode cX11_coloursOf 12 = .ok (.iload_n 1, 1) := by decide +kernel
theorem dX11_coloursOf_13 : decode cX11_coloursOf 13 = .ok (.iload_n 3, 1) := by decide +kernel
theorem dX11_coloursOf_14 : decode cX11_coloursOf 14 = .ok (.iconst 0, 1) := by decide +kernel
theorem dX11_coloursOf_15 : decode cX11_coloursOf 15 = .ok (.aload_n 0, 1) := by decide +kernel
theorem dX11_coloursOf_16 : decode cX11_coloursOf 16 = .ok (.iload_n 1, 1) := by decide +kernel
theorem dX11_coloursOf_17 : decode cX11_coloursOf 17 = .ok (.invokevirtual 75, 3) := by decide +kernel
theorem dX11_coloursOf_20 : decode cX11_coloursOf 20 = .ok (.invokevirtual 158, 3) := by decide +kernel
theorem dX11_coloursOf_23 : decode cX11_coloursOf 23 = .ok (.ifCond .le 7, 3) := by decide +kernel
theorem dX11_coloursOf_26 : decode cX11_coloursOf 26 = .ok (.iconst 1, 1) := by decide +kernel
theorem dX11_coloursOf_27 : decode cX11_coloursOf 27 = .ok (.goto 4, 3) := by decide +kernel
theorem dX11_coloursOf_30 : decode cX11_coloursOf 30 = .ok (.iconst 0, 1) := by decide +kernel
theorem dX11_coloursOf_31 : decode cX11_coloursOf 31 = .ok (.iadd, 1) := by decide +kernel
theorem dX11_coloursOf_32 : decode cX11_coloursOf 32 = .ok (.istore_n 2, 1) := by decide +kernel
theorem dX11_coloursOf_33 : decode cX11_coloursOf 33 = .ok (.iinc 3 1, 3) := by decide +kernel
theorem dX11_coloursOf_36 : decode cX11_coloursOf 36 = .ok (.goto (-32), 3) := by decide +kernel
theorem dX11_coloursOf_39 : decode cX11_coloursOf 39 = .ok (.iload_n 2, 1) := by decide +kernel
theorem dX11_coloursOf_40 : decode cX11_coloursOf 40 = .ok (.ireturn, 1) := by decide +kernel
theorem dX11_seamsOf_0 : decode cX11_seamsOf 0 = .ok (.aload_n 0, 1) := by decide +kernel
theorem dX11_seamsOf_1 : decode cX11_seamsOf 1 = .ok (.getfield 7, 3) := by decide +kernel
theorem dX11_seamsOf_4 : decode cX11_seamsOf 4 = .ok (.iload_n 1, 1) := by decide +kernel
theorem dX11_seamsOf_5 : decode cX11_seamsOf 5 = .ok (.iconst 0, 1) := by decide +kernel
theorem dX11_seamsOf_6 : decode cX11_seamsOf 6 = .ok (.invokestatic 71, 3) := by decide +kernel
theorem dX11_seamsOf_9 : decode cX11_seamsOf 9 = .ok (.iaload, 1) := by decide +kernel
theorem dX11_seamsOf_10 : decode cX11_seamsOf 10 = .ok (.istore_n 2, 1) := by decide +kernel
theorem dX11_seamsOf_11 : decode cX11_seamsOf 11 = .ok (.iconst 0, 1) := by decide +kernel
theorem dX11_seamsOf_12 : decode cX11_seamsOf 12 = .ok (.istore_n 3, 1) := by decide +kernel
theorem dX11_seamsOf_13 : decode cX11_seamsOf 13 = .ok (.iconst 0, 1) := by decide +kernel
theorem dX11_seamsOf_14 : decode cX11_seamsOf 14 = .ok (.istore 4, 2) := by decide +kernel
theorem dX11_seamsOf_16 : decode cX11_seamsOf 16 = .ok (.iload 4, 2) := by decide +kernel
theorem dX11_seamsOf_18 : decode cX11_seamsOf 18 = .ok (.aload_n 0, 1) := by decide +kernel
theorem dX11_seamsOf_19 : decode cX11_seamsOf 19 = .ok (.iload_n 1, 1) := by decide +kernel
theorem dX11_seamsOf_20 : decode cX11_seamsOf 20 = .ok (.invokevirtual 75, 3) := by decide +kernel
theorem dX11_seamsOf_23 : decode cX11_seamsOf 23 = .ok (.if_icmp .ge 85, 3) := by decide +kernel
theorem dX11_seamsOf_26 : decode cX11_seamsOf 26 = .ok (.iload_n 3, 1) := by decide +kernel
theorem dX11_seamsOf_27 : decode cX11_seamsOf 27 = .ok (.iload 4, 2) := by decide +kernel
theorem dX11_seamsOf_29 : decode cX11_seamsOf 29 = .ok (.iload_n 2, 1) := by decide +kernel
theorem dX11_seamsOf_30 : decode cX11_seamsOf 30 = .ok (.irem, 1) := by decide +kernel
theorem dX11_seamsOf_31 : decode cX11_seamsOf 31 = .ok (.iload_n 2, 1) := by decide +kernel
theorem dX11_seamsOf_32 : decode cX11_seamsOf 32 = .ok (.iconst 1, 1) := by decide +kernel
theorem dX11_seamsOf_33 : decode cX11_seamsOf 33 = .ok (.isub, 1) := by decide +kernel
theorem dX11_seamsOf_34 : decode cX11_seamsOf 34 = .ok (.if_icmp .ge 26, 3) := by decide +kernel
theorem dX11_seamsOf_37 : decode cX11_seamsOf 37 = .ok (.aload_n 0, 1) := by decide +kernel
theorem dX11_seamsOf_38 : decode cX11_seamsOf 38 = .ok (.iload_n 1, 1) := by decide +kernel
theorem dX11_seamsOf_39 : decode cX11_seamsOf 39 = .ok (.iload 4, 2) := by decide +kernel
theorem dX11_seamsOf_41 : decode cX11_seamsOf 41 = .ok (.invokevirtual 150, 3) := by decide +kernel
theorem dX11_seamsOf_44 : decode cX11_seamsOf 44 = .ok (.aload_n 0, 1) := by decide +kernel
theorem dX11_seamsOf_45 : decode cX11_seamsOf 45 = .ok (.iload_n 1, 1) := by decide +kernel
theorem dX11_seamsOf_46 : decode cX11_seamsOf 46 = .ok (.iload 4, 2) := by decide +kernel
theorem dX11_seamsOf_48 : decode cX11_seamsOf 48 = .ok (.iconst 1, 1) := by decide +kernel
theorem dX11_seamsOf_49 : decode cX11_seamsOf 49 = .ok (.iadd, 1) := by decide +kernel
theorem dX11_seamsOf_50 : decode cX11_seamsOf 50 = .ok (.invokevirtual 150, 3) := by decide +kernel
theorem dX11_seamsOf_53 : decode cX11_seamsOf 53 = .ok (.if_icmp .eq 7, 3) := by decide +kernel
theorem dX11_seamsOf_56 : decode cX11_seamsOf 56 = .ok (.iconst 1, 1) := by decide +kernel
theorem dX11_seamsOf_57 : decode cX11_seamsOf 57 = .ok (.goto 4, 3) := by decide +kernel
theorem dX11_seamsOf_60 : decode cX11_seamsOf 60 = .ok (.iconst 0, 1) := by decide +kernel
theorem dX11_seamsOf_61 : decode cX11_seamsOf 61 = .ok (.iadd, 1) := by decide +kernel
theorem dX11_seamsOf_62 : decode cX11_seamsOf 62 = .ok (.istore_n 3, 1) := by decide +kernel
theorem dX11_seamsOf_63 : decode cX11_seamsOf 63 = .ok (.iload_n 3, 1) := by decide +kernel
theorem dX11_seamsOf_64 : decode cX11_seamsOf 64 = .ok (.iload 4, 2) := by decide +kernel
theorem dX11_seamsOf_66 : decode cX11_seamsOf 66 = .ok (.iload_n 2, 1) := by decide +kernel
theorem dX11_seamsOf_67 : decode cX11_seamsOf 67 = .ok (.iadd, 1) := by decide +kernel
theorem dX11_seamsOf_68 : decode cX11_seamsOf 68 = .ok (.aload_n 0, 1) := by decide +kernel
theorem dX11_seamsOf_69 : decode cX11_seamsOf 69 = .ok (.iload_n 1, 1) := by decide +kernel
theorem dX11_seamsOf_70 : decode cX11_seamsOf 70 = .ok (.invokevirtual 75, 3) := by decide +kernel
theorem dX11_seamsOf_73 : decode cX11_seamsOf 73 = .ok (.if_icmp .ge 26, 3) := by decide +kernel
theorem dX11_seamsOf_76 : decode cX11_seamsOf 76 = .ok (.aload_n 0, 1) := by decide +kernel
theorem dX11_seamsOf_77 : decode cX11_seamsOf 77 = .ok (.iload_n 1, 1) := by decide +kernel
theorem dX11_seamsOf_78 : decode cX11_seamsOf 78 = .ok (.iload 4, 2) := by decide +kernel
theorem dX11_seamsOf_80 : decode cX11_seamsOf 80 = .ok (.invokevirtual 150, 3) := by decide +kernel
theorem dX11_seamsOf_83 : decode cX11_seamsOf 83 = .ok (.aload_n 0, 1) := by decide +kernel
theorem dX11_seamsOf_84 : decode cX11_seamsOf 84 = .ok (.iload_n 1, 1) := by decide +kernel
theorem dX11_seamsOf_85 : decode cX11_seamsOf 85 = .ok (.iload 4, 2) := by decide +kernel
theorem dX11_seamsOf_87 : decode cX11_seamsOf 87 = .ok (.iload_n 2, 1) := by decide +kernel
theorem dX11_seamsOf_88 : decode cX11_seamsOf 88 = .ok (.iadd, 1) := by decide +kernel
theorem dX11_seamsOf_89 : decode cX11_seamsOf 89 = .ok (.invokevirtual 150, 3) := by decide +kernel
theorem dX11_seamsOf_92 : decode cX11_seamsOf 92 = .ok (.if_icmp .eq 7, 3) := by decide +kernel
theorem dX11_seamsOf_95 : decode cX11_seamsOf 95 = .ok (.iconst 1, 1) := by decide +kernel
theorem dX11_seamsOf_96 : decode cX11_seamsOf 96 = .ok (.goto 4, 3) := by decide +kernel
theorem dX11_seamsOf_99 : decode cX11_seamsOf 99 = .ok (.iconst 0, 1) := by decide +kernel
theorem dX11_seamsOf_100 : decode cX11_seamsOf 100 = .ok (.iadd, 1) := by decide +kernel
theorem dX11_seamsOf_101 : decode cX11_seamsOf 101 = .ok (.istore_n 3, 1) := by decide +kernel
theorem dX11_seamsOf_102 : decode cX11_seamsOf 102 = .ok (.iinc 4 1, 3) := by decide +kernel
theorem dX11_seamsOf_105 : decode cX11_seamsOf 105 = .ok (.goto (-89), 3) := by decide +kernel
theorem dX11_seamsOf_108 : decode cX11_seamsOf 108 = .ok (.iload_n 3, 1) := by decide +kernel
theorem dX11_seamsOf_109 : decode cX11_seamsOf 109 = .ok (.ireturn, 1) := by decide +kernel
theorem dX11_findPieces_0 : decode cX11_findPieces 0 = .ok (.aload_n 0, 1) := by decide +kernel
theorem dX11_findPieces_1 : decode cX11_findPieces 1 = .ok (.getfield 7, 3) := by decide +kernel
theorem dX11_findPieces_4 : decode cX11_findPieces 4 = .ok (.iload_n 1, 1) := by decide +kernel
theorem dX11_findPieces_5 : decode cX11_findPieces 5 = .ok (.iconst 0, 1) := by decide +kernel
theorem dX11_findPieces_6 : decode cX11_findPieces 6 = .ok (.invokestatic 71, 3) := by decide +kernel
theorem dX11_findPieces_9 : decode cX11_findPieces 9 = .ok (.iaload, 1) := by decide +kernel
theorem dX11_findPieces_10 : decode cX11_findPieces 10 = .ok (.istore_n 2, 1) := by decide +kernel
theorem dX11_findPieces_11 : decode cX11_findPieces 11 = .ok (.aload_n 0, 1) := by decide +kernel
theorem dX11_findPieces_12 : decode cX11_findPieces 12 = .ok (.iload_n 1, 1) := by decide +kernel
theorem dX11_findPieces_13 : decode cX11_findPieces 13 = .ok (.invokevirtual 75, 3) := by decide +kernel
theorem dX11_findPieces_16 : decode cX11_findPieces 16 = .ok (.istore_n 3, 1) := by decide +kernel
theorem dX11_findPieces_17 : decode cX11_findPieces 17 = .ok (.iconst 0, 1) := by decide +kernel
theorem dX11_findPieces_18 : decode cX11_findPieces 18 = .ok (.istore 4, 2) := by decide +kernel
theorem dX11_findPieces_20 : decode cX11_findPieces 20 = .ok (.iload 4, 2) := by decide +kernel
theorem dX11_findPieces_22 : decode cX11_findPieces 22 = .ok (.iload_n 3, 1) := by decide +kernel
theorem dX11_findPieces_23 : decode cX11_findPieces 23 = .ok (.if_icmp .ge 18, 3) := by decide +kernel
theorem dX11_findPieces_26 : decode cX11_findPieces 26 = .ok (.aload_n 0, 1) := by decide +kernel
theorem dX11_findPieces_27 : decode cX11_findPieces 27 = .ok (.getfield 50, 3) := by decide +kernel
theorem dX11_findPieces_30 : decode cX11_findPieces 30 = .ok (.iload 4, 2) := by decide +kernel
theorem dX11_findPieces_32 : decode cX11_findPieces 32 = .ok (.iload 4, 2) := by decide +kernel
theorem dX11_findPieces_34 : decode cX11_findPieces 34 = .ok (.iastore, 1) := by decide +kernel
theorem dX11_findPieces_35 : decode cX11_findPieces 35 = .ok (.iinc 4 1, 3) := by decide +kernel
theorem dX11_findPieces_38 : decode cX11_findPieces 38 = .ok (.goto (-18), 3) := by decide +kernel
theorem dX11_findPieces_41 : decode cX11_findPieces 41 = .ok (.iconst 1, 1) := by decide +kernel
theorem dX11_findPieces_42 : decode cX11_findPieces 42 = .ok (.istore 4, 2) := by decide +kernel
theorem dX11_findPieces_44 : decode cX11_findPieces 44 = .ok (.iload 4, 2) := by decide +kernel
theorem dX11_findPieces_46 : decode cX11_findPieces 46 = .ok (.ifCond .eq 90, 3) := by decide +kernel
theorem dX11_findPieces_49 : decode cX11_findPieces 49 = .ok (.iconst 0, 1) := by decide +kernel
theorem dX11_findPieces_50 : decode cX11_findPieces 50 = .ok (.istore 4, 2) := by decide +kernel
theorem dX11_findPieces_52 : decode cX11_findPieces 52 = .ok (.iconst 0, 1) := by decide +kernel
theorem dX11_findPieces_53 : decode cX11_findPieces 53 = .ok (.istore 5, 2) := by decide +kernel
theorem dX11_findPieces_55 : decode cX11_findPieces 55 = .ok (.iload 5, 2) := by decide +kernel
theorem dX11_findPieces_57 : decode cX11_findPieces 57 = .ok (.iload_n 3, 1) := by decide +kernel
theorem dX11_findPieces_58 : decode cX11_findPieces 58 = .ok (.if_icmp .ge 75, 3) := by decide +kernel
theorem dX11_findPieces_61 : decode cX11_findPieces 61 = .ok (.iload 5, 2) := by decide +kernel
theorem dX11_findPieces_63 : decode cX11_findPieces 63 = .ok (.iload_n 2, 1) := by decide +kernel
theorem dX11_findPieces_64 : decode cX11_findPieces 64 = .ok (.irem, 1) := by decide +kernel
theorem dX11_findPieces_65 : decode cX11_findPieces 65 = .ok (.iload_n 2, 1) := by decide +kernel
theorem dX11_findPieces_66 : decode cX11_findPieces 66 = .ok (.iconst 1, 1) := by decide +kernel
theorem dX11_findPieces_67 : decode cX11_findPieces 67 = .ok (.isub, 1) := by decide +kernel
theorem dX11_findPieces_68 : decode cX11_findPieces 68 = .ok (.if_icmp .ge 21, 3) := by decide +kernel
theorem dX11_findPieces_71 : decode cX11_findPieces 71 = .ok (.aload_n 0, 1) := by decide +kernel
theorem dX11_findPieces_72 : decode cX11_findPieces 72 = .ok (.iload_n 1, 1) := by decide +kernel
theorem dX11_findPieces_73 : decode cX11_findPieces 73 = .ok (.iload 5, 2) := by decide +kernel
theorem dX11_findPieces_75 : decode cX11_findPieces 75 = .ok (.iload 5, 2) := by decide +kernel
theorem dX11_findPieces_77 : decode cX11_findPieces 77 = .ok (.iconst 1, 1) := by decide +kernel
theorem dX11_findPieces_78 : decode cX11_findPieces 78 = .ok (.iadd, 1) := by decide +kernel
theorem dX11_findPieces_79 : decode cX11_findPieces 79 = .ok (.invokevirtual 165, 3) := by decide +kernel
theorem dX11_findPieces_82 : decode cX11_findPieces 82 = .ok (.ifCond .eq 7, 3) := by decide +kernel
theorem dX11_findPieces_85 : decode cX11_findPieces 85 = .ok (.iconst 1, 1) := by decide +kernel
theorem dX11_findPieces_86 : decode cX11_findPieces 86 = .ok (.goto 4, 3) := by decide +kernel
theorem dX11_findPieces_89 : decode cX11_findPieces 89 = .ok (.iconst 0, 1) := by decide +kernel
theorem dX11_findPieces_90 : decode cX11_findPieces 90 = .ok (.iload 4, 2) := by decide +kernel
theorem dX11_findPieces_92 : decode cX11_findPieces 92 = .ok (.ior, 1) := by decide +kernel
theorem dX11_findPieces_93 : decode cX11_findPieces 93 = .ok (.istore 4, 2) := by decide +kernel
theorem dX11_findPieces_95 : decode cX11_findPieces 95 = .ok (.iload 5, 2) := by decide +kernel
theorem dX11_findPieces_97 : decode cX11_findPieces 97 = .ok (.iload_n 2, 1) := by decide +kernel
theorem dX11_findPieces_98 : decode cX11_findPieces 98 = .ok (.iadd, 1) := by decide +kernel
theorem dX11_findPieces_99 : decode cX11_findPieces 99 = .ok (.iload_n 3, 1) := by decide +kernel
theorem dX11_findPieces_100 : decode cX11_findPieces 100 = .ok (.if_icmp .ge 21, 3) := by decide +kernel
theorem dX11_findPieces_103 : decode cX11_findPieces 103 = .ok (.aload_n 0, 1) := by decide +kernel
theorem dX11_findPieces_104 : decode cX11_findPieces 104 = .ok (.iload_n 1, 1) := by decide +kernel
theorem dX11_findPieces_105 : decode cX11_findPieces 105 = .ok (.iload 5, 2) := by decide +kernel
theorem dX11_findPieces_107 : decode cX11_findPieces 107 = .ok (.iload 5, 2) := by decide +kernel
theorem dX11_findPieces_109 : decode cX11_findPieces 109 = .ok (.iload_n 2, 1) := by decide +kernel
theorem dX11_findPieces_110 : decode cX11_findPieces 110 = .ok (.iadd, 1) := by decide +kernel
theorem dX11_findPieces_111 : decode cX11_findPieces 111 = .ok (.invokevirtual 165, 3) := by decide +kernel
theorem dX11_findPieces_114 : decode cX11_findPieces 114 = .ok (.ifCond .eq 7, 3) := by decide +kernel
theorem dX11_findPieces_117 : decode cX11_findPieces 117 = .ok (.iconst 1, 1) := by decide +kernel
theorem dX11_findPieces_118 : decode cX11_findPieces 118 = .ok (.goto 4, 3) := by decide +kernel
theorem dX11_findPieces_121 : decode cX11_findPieces 121 = .ok (.iconst 0, 1) := by decide +kernel
theorem dX11_findPieces_122 : decode cX11_findPieces 122 = .ok (.iload 4, 2) := by decide +kernel
theorem dX11_findPieces_124 : decode cX11_findPieces 124 = .ok (.ior, 1) := by decide +kernel
theorem dX11_findPieces_125 : decode cX11_findPieces 125 = .ok (.istore 4, 2) := by decide +kernel
theorem dX11_findPieces_127 : decode cX11_findPieces 127 = .ok (.iinc 5 1, 3) := by decide +kernel
theorem dX11_findPieces_130 : decode cX11_findPieces 130 = .ok (.goto (-75), 3) := by decide +kernel
theorem dX11_findPieces_133 : decode cX11_findPieces 133 = .ok (.goto (-89), 3) := by decide +kernel
theorem dX11_findPieces_136 : decode cX11_findPieces 136 = .ok (.aload_n 0, 1) := by decide +kernel
theorem dX11_findPieces_137 : decode cX11_findPieces 137 = .ok (.iconst 0, 1) := by decide +kernel
theorem dX11_findPieces_138 : decode cX11_findPieces 138 = .ok (.putfield 169, 3) := by decide +kernel
theorem dX11_findPieces_141 : decode cX11_findPieces 141 = .ok (.aload_n 0, 1) := by decide +kernel
theorem dX11_findPieces_142 : decode cX11_findPieces 142 = .ok (.iconst 0, 1) := by decide +kernel
theorem dX11_findPieces_143 : decode cX11_findPieces 143 = .ok (.putfield 172, 3) := by decide +kernel
theorem dX11_findPieces_146 : decode cX11_findPieces 146 = .ok (.iconst 0, 1) := by decide +kernel
theorem dX11_findPieces_147 : decode cX11_findPieces 147 = .ok (.istore 5, 2) := by decide +kernel
theorem dX11_findPieces_149 : decode cX11_findPieces 149 = .ok (.iload 5, 2) := by decide +kernel
theorem dX11_findPieces_151 : decode cX11_findPieces 151 = .ok (.iload_n 3, 1) := by decide +kernel
theorem dX11_findPieces_152 : decode cX11_findPieces 152 = .ok (.if_icmp .ge 90, 3) := by decide +kernel
theorem dX11_findPieces_155 : decode cX11_findPieces 155 = .ok (.iconst 0, 1) := by decide +kernel
theorem dX11_findPieces_156 : decode cX11_findPieces 156 = .ok (.istore 6, 2) := by decide +kernel
theorem dX11_findPieces_158 : decode cX11_findPieces 158 = .ok (.iconst 0, 1) := by decide +kernel
theorem dX11_findPieces_159 : decode cX11_findPieces 159 = .ok (.istore 7, 2) := by decide +kernel
theorem dX11_findPieces_161 : decode cX11_findPieces 161 = .ok (.iload 7, 2) := by decide +kernel
theorem dX11_findPieces_163 : decode cX11_findPieces 163 = .ok (.iload_n 3, 1) := by decide +kernel
theorem dX11_findPieces_164 : decode cX11_findPieces 164 = .ok (.if_icmp .ge 31, 3) := by decide +kernel
theorem dX11_findPieces_167 : decode cX11_findPieces 167 = .ok (.iload 6, 2) := by decide +kernel
theorem dX11_findPieces_169 : decode cX11_findPieces 169 = .ok (.aload_n 0, 1) := by decide +kernel
theorem dX11_findPieces_170 : decode cX11_findPieces 170 = .ok (.getfield 50, 3) := by decide +kernel
theorem dX11_findPieces_173 : decode cX11_findPieces 173 = .ok (.iload 7, 2) := by decide +kernel
theorem dX11_findPieces_175 : decode cX11_findPieces 175 = .ok (.iaload, 1) := by decide +kernel
theorem dX11_findPieces_176 : decode cX11_findPieces 176 = .ok (.iload 5, 2) := by decide +kernel
theorem dX11_findPieces_178 : decode cX11_findPieces 178 = .ok (.if_icmp .ne 7, 3) := by decide +kernel
theorem dX11_findPieces_181 : decode cX11_findPieces 181 = .ok (.iconst 1, 1) := by decide +kernel
theorem dX11_findPieces_182 : decode cX11_findPieces 182 = .ok (.goto 4, 3) := by decide +kernel
theorem dX11_findPieces_185 : decode cX11_findPieces 185 = .ok (.iconst 0, 1) := by decide +kernel
theorem dX11_findPieces_186 : decode cX11_findPieces 186 = .ok (.iadd, 1) := by decide +kernel
theorem dX11_findPieces_187 : decode cX11_findPieces 187 = .ok (.istore 6, 2) := by decide +kernel
theorem dX11_findPieces_189 : decode cX11_findPieces 189 = .ok (.iinc 7 1, 3) := by decide +kernel
theorem dX11_findPieces_192 : decode cX11_findPieces 192 = .ok (.goto (-31), 3) := by decide +kernel
theorem dX11_findPieces_195 : decode cX11_findPieces 195 = .ok (.aload_n 0, 1) := by decide +kernel
theorem dX11_findPieces_196 : decode cX11_findPieces 196 = .ok (.dup, 1) := by decide +kernel
theorem dX11_findPieces_197 : decode cX11_findPieces 197 = .ok (.getfield 169, 3) := by decide +kernel
theorem dX11_findPieces_200 : decode cX11_findPieces 200 = .ok (.iload 6, 2) := by decide +kernel
theorem dX11_findPieces_202 : decode cX11_findPieces 202 = .ok (.ifCond .le 7, 3) := by decide +kernel
theorem dX11_findPieces_205 : decode cX11_findPieces 205 = .ok (.iconst 1, 1) := by decide +kernel
theorem dX11_findPieces_206 : decode cX11_findPieces 206 = .ok (.goto 4, 3) := by decide +kernel
theorem dX11_findPieces_209 : decode cX11_findPieces 209 = .ok (.iconst 0, 1) := by decide +kernel
theorem dX11_findPieces_210 : decode cX11_findPieces 210 = .ok (.iadd, 1) := by decide +kernel
theorem dX11_findPieces_211 : decode cX11_findPieces 211 = .ok (.putfield 169, 3) := by decide +kernel
theorem dX11_findPieces_214 : decode cX11_findPieces 214 = .ok (.aload_n 0, 1) := by decide +kernel
theorem dX11_findPieces_215 : decode cX11_findPieces 215 = .ok (.iload 6, 2) := by decide +kernel
theorem dX11_findPieces_217 : decode cX11_findPieces 217 = .ok (.aload_n 0, 1) := by decide +kernel
theorem dX11_findPieces_218 : decode cX11_findPieces 218 = .ok (.getfield 172, 3) := by decide +kernel
theorem dX11_findPieces_221 : decode cX11_findPieces 221 = .ok (.if_icmp .le 8, 3) := by decide +kernel
theorem dX11_findPieces_224 : decode cX11_findPieces 224 = .ok (.iload 6, 2) := by decide +kernel
theorem dX11_findPieces_226 : decode cX11_findPieces 226 = .ok (.goto 7, 3) := by decide +kernel
theorem dX11_findPieces_229 : decode cX11_findPieces 229 = .ok (.aload_n 0, 1) := by decide +kernel
theorem dX11_findPieces_230 : decode cX11_findPieces 230 = .ok (.getfield 172, 3) := by decide +kernel
theorem dX11_findPieces_233 : decode cX11_findPieces 233 = .ok (.putfield 172, 3) := by decide +kernel
theorem dX11_findPieces_236 : decode cX11_findPieces 236 = .ok (.iinc 5 1, 3) := by decide +kernel
theorem dX11_findPieces_239 : decode cX11_findPieces 239 = .ok (.goto (-90), 3) := by decide +kernel
theorem dX11_findPieces_242 : decode cX11_findPieces 242 = .ok (.return_, 1) := by decide +kernel
theorem dX11_isLinked_0 : decode cX11_isLinked 0 = .ok (.aload_n 0, 1) := by decide +kernel
theorem dX11_isLinked_1 : decode cX11_isLinked 1 = .ok (.iload_n 1, 1) := by decide +kernel
theorem dX11_isLinked_2 : decode cX11_isLinked 2 = .ok (.iload_n 2, 1) := by decide +kernel
theorem dX11_isLinked_3 : decode cX11_isLinked 3 = .ok (.invokevirtual 150, 3) := by decide +kernel
theorem dX11_isLinked_6 : decode cX11_isLinked 6 = .ok (.aload_n 0, 1) := by decide +kernel
theorem dX11_isLinked_7 : decode cX11_isLinked 7 = .ok (.iload_n 1, 1) := by decide +kernel
theorem dX11_isLinked_8 : decode cX11_isLinked 8 = .ok (.iload_n 3, 1) := by decide +kernel
theorem dX11_isLinked_9 : decode cX11_isLinked 9 = .ok (.invokevirtual 150, 3) := by decide +kernel
theorem dX11_isLinked_12 : decode cX11_isLinked 12 = .ok (.if_icmp .ne 18, 3) := by decide +kernel
theorem dX11_isLinked_15 : decode cX11_isLinked 15 = .ok (.aload_n 0, 1) := by decide +kernel
theorem dX11_isLinked_16 : decode cX11_isLinked 16 = .ok (.getfield 50, 3) := by decide +kernel
theorem dX11_isLinked_19 : decode cX11_isLinked 19 = .ok (.iload_n 2, 1) := by decide +kernel
theorem dX11_isLinked_20 : decode cX11_isLinked 20 = .ok (.iaload, 1) := by decide +kernel
theorem dX11_isLinked_21 : decode cX11_isLinked 21 = .ok (.aload_n 0, 1) := by decide +kernel
theorem dX11_isLinked_22 : decode cX11_isLinked 22 = .ok (.getfield 50, 3) := by decide +kernel
theorem dX11_isLinked_25 : decode cX11_isLinked 25 = .ok (.iload_n 3, 1) := by decide +kernel
theorem dX11_isLinked_26 : decode cX11_isLinked 26 = .ok (.iaload, 1) := by decide +kernel
theorem dX11_isLinked_27 : decode cX11_isLinked 27 = .ok (.if_icmp .ne 5, 3) := by decide +kernel
theorem dX11_isLinked_30 : decode cX11_isLinked 30 = .ok (.iconst 0, 1) := by decide +kernel
theorem dX11_isLinked_31 : decode cX11_isLinked 31 = .ok (.ireturn, 1) := by decide +kernel
theorem dX11_isLinked_32 : decode cX11_isLinked 32 = .ok (.aload_n 0, 1) := by decide +kernel
theorem dX11_isLinked_33 : decode cX11_isLinked 33 = .ok (.getfield 50, 3) := by decide +kernel
theorem dX11_isLinked_36 : decode cX11_isLinked 36 = .ok (.iload_n 2, 1) := by decide +kernel
theorem dX11_isLinked_37 : decode cX11_isLinked 37 = .ok (.iaload, 1) := by decide +kernel
theorem dX11_isLinked_38 : decode cX11_isLinked 38 = .ok (.aload_n 0, 1) := by decide +kernel
theorem dX11_isLinked_39 : decode cX11_isLinked 39 = .ok (.getfield 50, 3) := by decide +kernel
theorem dX11_isLinked_42 : decode cX11_isLinked 42 = .ok (.iload_n 3, 1) := by decide +kernel
theorem dX11_isLinked_43 : decode cX11_isLinked 43 = .ok (.iaload, 1) := by decide +kernel
theorem dX11_isLinked_44 : decode cX11_isLinked 44 = .ok (.if_icmp .ge 12, 3) := by decide +kernel
theorem dX11_isLinked_47 : decode cX11_isLinked 47 = .ok (.aload_n 0, 1) := by decide +kernel
theorem dX11_isLinked_48 : decode cX11_isLinked 48 = .ok (.getfield 50, 3) := by decide +kernel
theorem dX11_isLinked_51 : decode cX11_isLinked 51 = .ok (.iload_n 2, 1) := by decide +kernel
theorem dX11_isLinked_52 : decode cX11_isLinked 52 = .ok (.iaload, 1) := by decide +kernel
theorem dX11_isLinked_53 : decode cX11_isLinked 53 = .ok (.goto 9, 3) := by decide +kernel
theorem dX11_isLinked_56 : decode cX11_isLinked 56 = .ok (.aload_n 0, 1) := by decide +kernel
theorem dX11_isLinked_57 : decode cX11_isLinked 57 = .ok (.getfield 50, 3) := by decide +kernel
theorem dX11_isLinked_60 : decode cX11_isLinked 60 = .ok (.iload_n 3, 1) := by decide +kernel
theorem dX11_isLinked_61 : decode cX11_isLinked 61 = .ok (.iaload, 1) := by decide +kernel
theorem dX11_isLinked_62 : decode cX11_isLinked 62 = .ok (.istore 4, 2) := by decide +kernel
theorem dX11_isLinked_64 : decode cX11_isLinked 64 = .ok (.aload_n 0, 1) := by decide +kernel
theorem dX11_isLinked_65 : decode cX11_isLinked 65 = .ok (.getfield 50, 3) := by decide +kernel
theorem dX11_isLinked_68 : decode cX11_isLinked 68 = .ok (.iload_n 2, 1) := by decide +kernel
theorem dX11_isLinked_69 : decode cX11_isLinked 69 = .ok (.iload 4, 2) := by decide +kernel
theorem dX11_isLinked_71 : decode cX11_isLinked 71 = .ok (.iastore, 1) := by decide +kernel
theorem dX11_isLinked_72 : decode cX11_isLinked 72 = .ok (.aload_n 0, 1) := by decide +kernel
theorem dX11_isLinked_73 : decode cX11_isLinked 73 = .ok (.getfield 50, 3) := by decide +kernel
theorem dX11_isLinked_76 : decode cX11_isLinked 76 = .ok (.iload_n 3, 1) := by decide +kernel
theorem dX11_isLinked_77 : decode cX11_isLinked 77 = .ok (.iload 4, 2) := by decide +kernel
theorem dX11_isLinked_79 : decode cX11_isLinked 79 = .ok (.iastore, 1) := by decide +kernel
theorem dX11_isLinked_80 : decode cX11_isLinked 80 = .ok (.iconst 1, 1) := by decide +kernel
theorem dX11_isLinked_81 : decode cX11_isLinked 81 = .ok (.ireturn, 1) := by decide +kernel
theorem dX11_frame_0 : decode cX11_frame 0 = .ok (.aload_n 0, 1) := by decide +kernel
theorem dX11_frame_1 : decode cX11_frame 1 = .ok (.iconst 0, 1) := by decide +kernel
theorem dX11_frame_2 : decode cX11_frame 2 = .ok (.putfield 56, 3) := by decide +kernel
theorem dX11_frame_5 : decode cX11_frame 5 = .ok (.iload_n 1, 1) := by decide +kernel
theorem dX11_frame_6 : decode cX11_frame 6 = .ok (.invokestatic 175, 3) := by decide +kernel
theorem dX11_frame_9 : decode cX11_frame 9 = .ok (.ifCond .ne 9, 3) := by decide +kernel
theorem dX11_frame_12 : decode cX11_frame 12 = .ok (.aload_n 0, 1) := by decide +kernel
theorem dX11_frame_13 : decode cX11_frame 13 = .ok (.iconst 1, 1) := by decide +kernel
theorem dX11_frame_14 : decode cX11_frame 14 = .ok (.invokevirtual 81, 3) := by decide +kernel
theorem dX11_frame_17 : decode cX11_frame 17 = .ok (.ireturn, 1) := by decide +kernel
theorem dX11_frame_18 : decode cX11_frame 18 = .ok (.iload_n 2, 1) := by decide +kernel
theorem dX11_frame_19 : decode cX11_frame 19 = .ok (.i2l, 1) := by decide +kernel
theorem dX11_frame_20 : decode cX11_frame 20 = .ok (.lconst 0, 1) := by decide +kernel
theorem dX11_frame_21 : decode cX11_frame 21 = .ok (.ldc2_w 178, 3) := by decide +kernel
theorem dX11_frame_24 : decode cX11_frame 24 = .ok (.invokestatic 63, 3) := by decide +kernel
theorem dX11_frame_27 : decode cX11_frame 27 = .ok (.ifCond .ne 9, 3) := by decide +kernel
theorem dX11_frame_30 : decode cX11_frame 30 = .ok (.aload_n 0, 1) := by decide +kernel
theorem dX11_frame_31 : decode cX11_frame 31 = .ok (.iconst 2, 1) := by decide +kernel
theorem dX11_frame_32 : decode cX11_frame 32 = .ok (.invokevirtual 81, 3) := by decide +kernel
theorem dX11_frame_35 : decode cX11_frame 35 = .ok (.ireturn, 1) := by decide +kernel
theorem dX11_frame_36 : decode cX11_frame 36 = .ok (.iload_n 2, 1) := by decide +kernel
theorem dX11_frame_37 : decode cX11_frame 37 = .ok (.iconst 3, 1) := by decide +kernel
theorem dX11_frame_38 : decode cX11_frame 38 = .ok (.if_icmp .ge 14, 3) := by decide +kernel
theorem dX11_frame_41 : decode cX11_frame 41 = .ok (.aload_n 0, 1) := by decide +kernel
theorem dX11_frame_42 : decode cX11_frame 42 = .ok (.getfield 7, 3) := by decide +kernel
theorem dX11_frame_45 : decode cX11_frame 45 = .ok (.iload_n 1, 1) := by decide +kernel
theorem dX11_frame_46 : decode cX11_frame 46 = .ok (.iload_n 2, 1) := by decide +kernel
theorem dX11_frame_47 : decode cX11_frame 47 = .ok (.invokestatic 71, 3) := by decide +kernel
theorem dX11_frame_50 : decode cX11_frame 50 = .ok (.iaload, 1) := by decide +kernel
theorem dX11_frame_51 : decode cX11_frame 51 = .ok (.ireturn, 1) := by decide +kernel
theorem dX11_frame_52 : decode cX11_frame 52 = .ok (.iload_n 2, 1) := by decide +kernel
theorem dX11_frame_53 : decode cX11_frame 53 = .ok (.iconst 4, 1) := by decide +kernel
theorem dX11_frame_54 : decode cX11_frame 54 = .ok (.if_icmp .le 8, 3) := by decide +kernel
theorem dX11_frame_57 : decode cX11_frame 57 = .ok (.aload_n 0, 1) := by decide +kernel
theorem dX11_frame_58 : decode cX11_frame 58 = .ok (.iload_n 1, 1) := by decide +kernel
theorem dX11_frame_59 : decode cX11_frame 59 = .ok (.invokevirtual 180, 3) := by decide +kernel
theorem dX11_frame_62 : decode cX11_frame 62 = .ok (.iload_n 2, 1) := by decide +kernel
theorem dX11_frame_63 : decode cX11_frame 63 = .ok (.iconst 3, 1) := by decide +kernel
theorem dX11_frame_64 : decode cX11_frame 64 = .ok (.if_icmp .ne 11, 3) := by decide +kernel
theorem dX11_frame_67 : decode cX11_frame 67 = .ok (.aload_n 0, 1) := by decide +kernel
theorem dX11_frame_68 : decode cX11_frame 68 = .ok (.iload_n 1, 1) := by decide +kernel
theorem dX11_frame_69 : decode cX11_frame 69 = .ok (.invokevirtual 184, 3) := by decide +kernel
theorem dX11_frame_72 : decode cX11_frame 72 = .ok (.goto 32, 3) := by decide +kernel
theorem dX11_frame_75 : decode cX11_frame 75 = .ok (.iload_n 2, 1) := by decide +kernel
theorem dX11_frame_76 : decode cX11_frame 76 = .ok (.iconst 4, 1) := by decide +kernel
theorem dX11_frame_77 : decode cX11_frame 77 = .ok (.if_icmp .ne 11, 3) := by decide +kernel
theorem dX11_frame_80 : decode cX11_frame 80 = .ok (.aload_n 0, 1) := by decide +kernel
theorem dX11_frame_81 : decode cX11_frame 81 = .ok (.iload_n 1, 1) := by decide +kernel
theorem dX11_frame_82 : decode cX11_frame 82 = .ok (.invokevirtual 187, 3) := by decide +kernel
theorem dX11_frame_85 : decode cX11_frame 85 = .ok (.goto 19, 3) := by decide +kernel
theorem dX11_frame_88 : decode cX11_frame 88 = .ok (.iload_n 2, 1) := by decide +kernel
theorem dX11_frame_89 : decode cX11_frame 89 = .ok (.iconst 5, 1) := by decide +kernel
theorem dX11_frame_90 : decode cX11_frame 90 = .ok (.if_icmp .ne 10, 3) := by decide +kernel
theorem dX11_frame_93 : decode cX11_frame 93 = .ok (.aload_n 0, 1) := by decide +kernel
theorem dX11_frame_94 : decode cX11_frame 94 = .ok (.getfield 169, 3) := by decide +kernel
theorem dX11_frame_97 : decode cX11_frame 97 = .ok (.goto 7, 3) := by decide +kernel
theorem dX11_frame_100 : decode cX11_frame 100 = .ok (.aload_n 0, 1) := by decide +kernel
theorem dX11_frame_101 : decode cX11_frame 101 = .ok (.getfield 172, 3) := by decide +kernel
theorem dX11_frame_104 : decode cX11_frame 104 = .ok (.ireturn, 1) := by decide +kernel
theorem dX11_patch_0 : decode cX11_patch 0 = .ok (.aload_n 0, 1) := by decide +kernel
theorem dX11_patch_1 : decode cX11_patch 1 = .ok (.iconst 0, 1) := by decide +kernel
theorem dX11_patch_2 : decode cX11_patch 2 = .ok (.putfield 56, 3) := by decide +kernel
theorem dX11_patch_5 : decode cX11_patch 5 = .ok (.iload_n 1, 1) := by decide +kernel
theorem dX11_patch_6 : decode cX11_patch 6 = .ok (.invokestatic 175, 3) := by decide +kernel
theorem dX11_patch_9 : decode cX11_patch 9 = .ok (.ifCond .ne 9, 3) := by decide +kernel
theorem dX11_patch_12 : decode cX11_patch 12 = .ok (.aload_n 0, 1) := by decide +kernel
theorem dX11_patch_13 : decode cX11_patch 13 = .ok (.iconst 1, 1) := by decide +kernel
theorem dX11_patch_14 : decode cX11_patch 14 = .ok (.invokevirtual 81, 3) := by decide +kernel
theorem dX11_patch_17 : decode cX11_patch 17 = .ok (.ireturn, 1) := by decide +kernel
theorem dX11_patch_18 : decode cX11_patch 18 = .ok (.iload_n 2, 1) := by decide +kernel
theorem dX11_patch_19 : decode cX11_patch 19 = .ok (.ifCond .lt 7, 3) := by decide +kernel
theorem dX11_patch_22 : decode cX11_patch 22 = .ok (.iload_n 3, 1) := by decide +kernel
theorem dX11_patch_23 : decode cX11_patch 23 = .ok (.ifCond .ge 9, 3) := by decide +kernel
theorem dX11_patch_26 : decode cX11_patch 26 = .ok (.aload_n 0, 1) := by decide +kernel
theorem dX11_patch_27 : decode cX11_patch 27 = .ok (.iconst 2, 1) := by decide +kernel
theorem dX11_patch_28 : decode cX11_patch 28 = .ok (.invokevirtual 81, 3) := by decide +kernel
theorem dX11_patch_31 : decode cX11_patch 31 = .ok (.ireturn, 1) := by decide +kernel
theorem dX11_patch_32 : decode cX11_patch 32 = .ok (.aload_n 0, 1) := by decide +kernel
theorem dX11_patch_33 : decode cX11_patch 33 = .ok (.getfield 7, 3) := by decide +kernel
theorem dX11_patch_36 : decode cX11_patch 36 = .ok (.iload_n 1, 1) := by decide +kernel
theorem dX11_patch_37 : decode cX11_patch 37 = .ok (.iconst 0, 1) := by decide +kernel
theorem dX11_patch_38 : decode cX11_patch 38 = .ok (.invokestatic 71, 3) := by decide +kernel
theorem dX11_patch_41 : decode cX11_patch 41 = .ok (.iaload, 1) := by decide +kernel
theorem dX11_patch_42 : decode cX11_patch 42 = .ok (.istore 4, 2) := by decide +kernel
theorem dX11_patch_44 : decode cX11_patch 44 = .ok (.iload_n 2, 1) := by decide +kernel
theorem dX11_patch_45 : decode cX11_patch 45 = .ok (.iload 4, 2) := by decide +kernel
theorem dX11_patch_47 : decode cX11_patch 47 = .ok (.if_icmp .ge 31, 3) := by decide +kernel
theorem dX11_patch_50 : decode cX11_patch 50 = .ok (.iload_n 3, 1) := by decide +kernel
theorem dX11_patch_51 : decode cX11_patch 51 = .ok (.aload_n 0, 1) := by decide +kernel
theorem dX11_patch_52 : decode cX11_patch 52 = .ok (.getfield 7, 3) := by decide +kernel
theorem dX11_patch_55 : decode cX11_patch 55 = .ok (.iload_n 1, 1) := by decide +kernel
theorem dX11_patch_56 : decode cX11_patch 56 = .ok (.iconst 1, 1) := by decide +kernel
theorem dX11_patch_57 : decode cX11_patch 57 = .ok (.invokestatic 71, 3) := by decide +kernel
theorem dX11_patch_60 : decode cX11_patch 60 = .ok (.iaload, 1) := by decide +kernel
theorem dX11_patch_61 : decode cX11_patch 61 = .ok (.if_icmp .ge 17, 3) := by decide +kernel
theorem dX11_patch_64 : decode cX11_patch 64 = .ok (.aload_n 0, 1) := by decide +kernel
theorem dX11_patch_65 : decode cX11_patch 65 = .ok (.iload_n 1, 1) := by decide +kernel
theorem dX11_patch_66 : decode cX11_patch 66 = .ok (.iload_n 3, 1) := by decide +kernel
theorem dX11_patch_67 : decode cX11_patch 67 = .ok (.iload 4, 2) := by decide +kernel
theorem dX11_patch_69 : decode cX11_patch 69 = .ok (.imul, 1) := by decide +kernel
theorem dX11_patch_70 : decode cX11_patch 70 = .ok (.iload_n 2, 1) := by decide +kernel
theorem dX11_patch_71 : decode cX11_patch 71 = .ok (.iadd, 1) := by decide +kernel
theorem dX11_patch_72 : decode cX11_patch 72 = .ok (.invokevirtual 150, 3) := by decide +kernel
theorem dX11_patch_75 : decode cX11_patch 75 = .ok (.goto 5, 3) := by decide +kernel
theorem dX11_patch_78 : decode cX11_patch 78 = .ok (.bipush (-9), 2) := by decide +kernel
theorem dX11_patch_80 : decode cX11_patch 80 = .ok (.ireturn, 1) := by decide +kernel
theorem dX11_count_0 : decode cX11_count 0 = .ok (.aload_n 0, 1) := by decide +kernel
theorem dX11_count_1 : decode cX11_count 1 = .ok (.iconst 0, 1) := by decide +kernel
theorem dX11_count_2 : decode cX11_count 2 = .ok (.putfield 56, 3) := by decide +kernel
theorem dX11_count_5 : decode cX11_count 5 = .ok (.iload_n 1, 1) := by decide +kernel
theorem dX11_count_6 : decode cX11_count 6 = .ok (.invokestatic 175, 3) := by decide +kernel
theorem dX11_count_9 : decode cX11_count 9 = .ok (.ifCond .eq 42, 3) := by decide +kernel
theorem dX11_count_12 : decode cX11_count 12 = .ok (.iload_n 2, 1) := by decide +kernel
theorem dX11_count_13 : decode cX11_count 13 = .ok (.invokestatic 153, 3) := by decide +kernel
theorem dX11_count_16 : decode cX11_count 16 = .ok (.ifCond .eq 35, 3) := by decide +kernel
theorem dX11_count_19 : decode cX11_count 19 = .ok (.aload_n 0, 1) := by decide +kernel
theorem dX11_count_20 : decode cX11_count 20 = .ok (.iload_n 1, 1) := by decide +kernel
theorem dX11_count_21 : decode cX11_count 21 = .ok (.iload_n 2, 1) := by decide +kernel
theorem dX11_count_22 : decode cX11_count 22 = .ok (.iconst 0, 1) := by decide +kernel
theorem dX11_count_23 : decode cX11_count 23 = .ok (.iload_n 3, 1) := by decide +kernel
theorem dX11_count_24 : decode cX11_count 24 = .ok (.ifCond .eq 16, 3) := by decide +kernel
theorem dX11_count_27 : decode cX11_count 27 = .ok (.aload_n 0, 1) := by decide +kernel
theorem dX11_count_28 : decode cX11_count 28 = .ok (.getfield 7, 3) := by decide +kernel
theorem dX11_count_31 : decode cX11_count 31 = .ok (.iload_n 1, 1) := by decide +kernel
theorem dX11_count_32 : decode cX11_count 32 = .ok (.iconst 2, 1) := by decide +kernel
theorem dX11_count_33 : decode cX11_count 33 = .ok (.invokestatic 71, 3) := by decide +kernel
theorem dX11_count_36 : decode cX11_count 36 = .ok (.iaload, 1) := by decide +kernel
theorem dX11_count_37 : decode cX11_count 37 = .ok (.goto 8, 3) := by decide +kernel
theorem dX11_count_40 : decode cX11_count 40 = .ok (.aload_n 0, 1) := by decide +kernel
theorem dX11_count_41 : decode cX11_count 41 = .ok (.iload_n 1, 1) := by decide +kernel
theorem dX11_count_42 : decode cX11_count 42 = .ok (.invokevirtual 75, 3) := by decide +kernel
theorem dX11_count_45 : decode cX11_count 45 = .ok (.invokevirtual 158, 3) := by decide +kernel
theorem dX11_count_48 : decode cX11_count 48 = .ok (.goto 8, 3) := by decide +kernel
theorem dX11_count_51 : decode cX11_count 51 = .ok (.aload_n 0, 1) := by decide +kernel
theorem dX11_count_52 : decode cX11_count 52 = .ok (.iconst 1, 1) := by decide +kernel
theorem dX11_count_53 : decode cX11_count 53 = .ok (.invokevirtual 81, 3) := by decide +kernel
theorem dX11_count_56 : decode cX11_count 56 = .ok (.ireturn, 1) := by decide +kernel
theorem dX11_takes_0 : decode cX11_takes 0 = .ok (.aload_n 0, 1) := by decide +kernel
theorem dX11_takes_1 : decode cX11_takes 1 = .ok (.aload_n 0, 1) := by decide +kernel
theorem dX11_takes_2 : decode cX11_takes 2 = .ok (.getfield 7, 3) := by decide +kernel
theorem dX11_takes_5 : decode cX11_takes 5 = .ok (.iload_n 1, 1) := by decide +kernel
theorem dX11_takes_6 : decode cX11_takes 6 = .ok (.iconst 0, 1) := by decide +kernel
theorem dX11_takes_7 : decode cX11_takes 7 = .ok (.invokestatic 71, 3) := by decide +kernel
theorem dX11_takes_10 : decode cX11_takes 10 = .ok (.iaload, 1) := by decide +kernel
theorem dX11_takes_11 : decode cX11_takes 11 = .ok (.putfield 90, 3) := by decide +kernel
theorem dX11_takes_14 : decode cX11_takes 14 = .ok (.aload_n 0, 1) := by decide +kernel
theorem dX11_takes_15 : decode cX11_takes 15 = .ok (.aload_n 0, 1) := by decide +kernel
theorem dX11_takes_16 : decode cX11_takes 16 = .ok (.getfield 7, 3) := by decide +kernel
theorem dX11_takes_19 : decode cX11_takes 19 = .ok (.iload_n 1, 1) := by decide +kernel
theorem dX11_takes_20 : decode cX11_takes 20 = .ok (.iconst 1, 1) := by decide +kernel
theorem dX11_takes_21 : decode cX11_takes 21 = .ok (.invokestatic 71, 3) := by decide +kernel
theorem dX11_takes_24 : decode cX11_takes 24 = .ok (.iaload, 1) := by decide +kernel
theorem dX11_takes_25 : decode cX11_takes 25 = .ok (.putfield 93, 3) := by decide +kernel
theorem dX11_takes_28 : decode cX11_takes 28 = .ok (.iconst 0, 1) := by decide +kernel
theorem dX11_takes_29 : decode cX11_takes 29 = .ok (.istore_n 2, 1) := by decide +kernel
theorem dX11_takes_30 : decode cX11_takes 30 = .ok (.iload_n 2, 1) := by decide +kernel
theorem dX11_takes_31 : decode cX11_takes 31 = .ok (.aload_n 0, 1) := by decide +kernel
theorem dX11_takes_32 : decode cX11_takes 32 = .ok (.getfield 90, 3) := by decide +kernel
theorem dX11_takes_35 : decode cX11_takes 35 = .ok (.aload_n 0, 1) := by decide +kernel
theorem dX11_takes_36 : decode cX11_takes 36 = .ok (.getfield 93, 3) := by decide +kernel
theorem dX11_takes_39 : decode cX11_takes 39 = .ok (.imul, 1) := by decide +kernel
theorem dX11_takes_40 : decode cX11_takes 40 = .ok (.if_icmp .ge 21, 3) := by decide +kernel
theorem dX11_takes_43 : decode cX11_takes 43 = .ok (.aload_n 0, 1) := by decide +kernel
theorem dX11_takes_44 : decode cX11_takes 44 = .ok (.getfield 44, 3) := by decide +kernel
theorem dX11_takes_47 : decode cX11_takes 47 = .ok (.iload_n 2, 1) := by decide +kernel
theorem dX11_takes_48 : decode cX11_takes 48 = .ok (.aload_n 0, 1) := by decide +kernel
theorem dX11_takes_49 : decode cX11_takes 49 = .ok (.iload_n 1, 1) := by decide +kernel
theorem dX11_takes_50 : decode cX11_takes 50 = .ok (.iload_n 2, 1) := by decide +kernel
theorem dX11_takes_51 : decode cX11_takes 51 = .ok (.invokevirtual 150, 3) := by decide +kernel
theorem dX11_takes_54 : decode cX11_takes 54 = .ok (.iastore, 1) := by decide +kernel
theorem dX11_takes_55 : decode cX11_takes 55 = .ok (.iinc 2 1, 3) := by decide +kernel
theorem dX11_takes_58 : decode cX11_takes 58 = .ok (.goto (-28), 3) := by decide +kernel
theorem dX11_takes_61 : decode cX11_takes 61 = .ok (.return_, 1) := by decide +kernel
theorem dX11_isBlock_0 : decode cX11_isBlock 0 = .ok (.aload_n 0, 1) := by decide +kernel
theorem dX11_isBlock_1 : decode cX11_isBlock 1 = .ok (.getfield 90, 3) := by decide +kernel
theorem dX11_isBlock_4 : decode cX11_isBlock 4 = .ok (.aload_n 0, 1) := by decide +kernel
theorem dX11_isBlock_5 : decode cX11_isBlock 5 = .ok (.getfield 7, 3) := by decide +kernel
theorem dX11_isBlock_8 : decode cX11_isBlock 8 = .ok (.iload_n 1, 1) := by decide +kernel
theorem dX11_isBlock_9 : decode cX11_isBlock 9 = .ok (.iconst 0, 1) := by decide +kernel
theorem dX11_isBlock_10 : decode cX11_isBlock 10 = .ok (.invokestatic 71, 3) := by decide +kernel
theorem dX11_isBlock_13 : decode cX11_isBlock 13 = .ok (.iaload, 1) := by decide +kernel
theorem dX11_isBlock_14 : decode cX11_isBlock 14 = .ok (.if_icmp .ne 24, 3) := by decide +kernel
theorem dX11_isBlock_17 : decode cX11_isBlock 17 = .ok (.aload_n 0, 1) := by decide +kernel
theorem dX11_isBlock_18 : decode cX11_isBlock 18 = .ok (.getfield 93, 3) := by decide +kernel
theorem dX11_isBlock_21 : decode cX11_isBlock 21 = .ok (.aload_n 0, 1) := by decide +kernel
theorem dX11_isBlock_22 : decode cX11_isBlock 22 = .ok (.getfield 7, 3) := by decide +kernel
theorem dX11_isBlock_25 : decode cX11_isBlock 25 = .ok (.iload_n 1, 1) := by decide +kernel
theorem dX11_isBlock_26 : decode cX11_isBlock 26 = .ok (.iconst 1, 1) := by decide +kernel
theorem dX11_isBlock_27 : decode cX11_isBlock 27 = .ok (.invokestatic 71, 3) := by decide +kernel
theorem dX11_isBlock_30 : decode cX11_isBlock 30 = .ok (.iaload, 1) := by decide +kernel
theorem dX11_isBlock_31 : decode cX11_isBlock 31 = .ok (.if_icmp .ne 7, 3) := by decide +kernel
theorem dX11_isBlock_34 : decode cX11_isBlock 34 = .ok (.iconst 1, 1) := by decide +kernel
theorem dX11_isBlock_35 : decode cX11_isBlock 35 = .ok (.goto 4, 3) := by decide +kernel
theorem dX11_isBlock_38 : decode cX11_isBlock 38 = .ok (.iconst 0, 1) := by decide +kernel
theorem dX11_isBlock_39 : decode cX11_isBlock 39 = .ok (.istore_n 2, 1) := by decide +kernel
theorem dX11_isBlock_40 : decode cX11_isBlock 40 = .ok (.iconst 0, 1) := by decide +kernel
theorem dX11_isBlock_41 : decode cX11_isBlock 41 = .ok (.istore_n 3, 1) := by decide +kernel
theorem dX11_isBlock_42 : decode cX11_isBlock 42 = .ok (.iload_n 3, 1) := by decide +kernel
theorem dX11_isBlock_43 : decode cX11_isBlock 43 = .ok (.aload_n 0, 1) := by decide +kernel
theorem dX11_isBlock_44 : decode cX11_isBlock 44 = .ok (.getfield 90, 3) := by decide +kernel
theorem dX11_isBlock_47 : decode cX11_isBlock 47 = .ok (.aload_n 0, 1) := by decide +kernel
theorem dX11_isBlock_48 : decode cX11_isBlock 48 = .ok (.getfield 93, 3) := by decide +kernel
theorem dX11_isBlock_51 : decode cX11_isBlock 51 = .ok (.imul, 1) := by decide +kernel
theorem dX11_isBlock_52 : decode cX11_isBlock 52 = .ok (.if_icmp .ge 34, 3) := by decide +kernel
theorem dX11_isBlock_55 : decode cX11_isBlock 55 = .ok (.iload_n 2, 1) := by decide +kernel
theorem dX11_isBlock_56 : decode cX11_isBlock 56 = .ok (.ifCond .eq 30, 3) := by decide +kernel
theorem dX11_isBlock_59 : decode cX11_isBlock 59 = .ok (.aload_n 0, 1) := by decide +kernel
theorem dX11_isBlock_60 : decode cX11_isBlock 60 = .ok (.getfield 44, 3) := by decide +kernel
theorem dX11_isBlock_63 : decode cX11_isBlock 63 = .ok (.iload_n 3, 1) := by decide +kernel
theorem dX11_isBlock_64 : decode cX11_isBlock 64 = .ok (.iaload, 1) := by decide +kernel
theorem dX11_isBlock_65 : decode cX11_isBlock 65 = .ok (.aload_n 0, 1) := by decide +kernel
theorem dX11_isBlock_66 : decode cX11_isBlock 66 = .ok (.iload_n 1, 1) := by decide +kernel
theorem dX11_isBlock_67 : decode cX11_isBlock 67 = .ok (.iload_n 3, 1) := by decide +kernel
theorem dX11_isBlock_68 : decode cX11_isBlock 68 = .ok (.invokevirtual 150, 3) := by decide +kernel
theorem dX11_isBlock_71 : decode cX11_isBlock 71 = .ok (.if_icmp .ne 7, 3) := by decide +kernel
theorem dX11_isBlock_74 : decode cX11_isBlock 74 = .ok (.iconst 1, 1) := by decide +kernel
theorem dX11_isBlock_75 : decode cX11_isBlock 75 = .ok (.goto 4, 3) := by decide +kernel
theorem dX11_isBlock_78 : decode cX11_isBlock 78 = .ok (.iconst 0, 1) := by decide +kernel
theorem dX11_isBlock_79 : decode cX11_isBlock 79 = .ok (.istore_n 2, 1) := by decide +kernel
theorem dX11_isBlock_80 : decode cX11_isBlock 80 = .ok (.iinc 3 1, 3) := by decide +kernel
theorem dX11_isBlock_83 : decode cX11_isBlock 83 = .ok (.goto (-41), 3) := by decide +kernel
theorem dX11_isBlock_86 : decode cX11_isBlock 86 = .ok (.iload_n 2, 1) := by decide +kernel
theorem dX11_isBlock_87 : decode cX11_isBlock 87 = .ok (.ireturn, 1) := by decide +kernel
theorem dX11_isAfter_0 : decode cX11_isAfter 0 = .ok (.aload_n 0, 1) := by decide +kernel
theorem dX11_isAfter_1 : decode cX11_isAfter 1 = .ok (.iload_n 1, 1) := by decide +kernel
theorem dX11_isAfter_2 : decode cX11_isAfter 2 = .ok (.invokevirtual 190, 3) := by decide +kernel
theorem dX11_isAfter_5 : decode cX11_isAfter 5 = .ok (.iload_n 3, 1) := by decide +kernel
theorem dX11_isAfter_6 : decode cX11_isAfter 6 = .ok (.ifCond .eq 10, 3) := by decide +kernel
theorem dX11_isAfter_9 : decode cX11_isAfter 9 = .ok (.aload_n 0, 1) := by decide +kernel
theorem dX11_isAfter_10 : decode cX11_isAfter 10 = .ok (.bipush 60, 2) := by decide +kernel
theorem dX11_isAfter_12 : decode cX11_isAfter 12 = .ok (.invokevirtual 110, 3) := by decide +kernel
theorem dX11_isAfter_15 : decode cX11_isAfter 15 = .ok (.pop, 1) := by decide +kernel
theorem dX11_isAfter_16 : decode cX11_isAfter 16 = .ok (.iconst 0, 1) := by decide +kernel
theorem dX11_isAfter_17 : decode cX11_isAfter 17 = .ok (.istore 5, 2) := by decide +kernel
theorem dX11_isAfter_19 : decode cX11_isAfter 19 = .ok (.iload 5, 2) := by decide +kernel
theorem dX11_isAfter_21 : decode cX11_isAfter 21 = .ok (.iload 4, 2) := by decide +kernel
theorem dX11_isAfter_23 : decode cX11_isAfter 23 = .ok (.if_icmp .ge 16, 3) := by decide +kernel
theorem dX11_isAfter_26 : decode cX11_isAfter 26 = .ok (.aload_n 0, 1) := by decide +kernel
theorem dX11_isAfter_27 : decode cX11_isAfter 27 = .ok (.bipush 94, 2) := by decide +kernel
theorem dX11_isAfter_29 : decode cX11_isAfter 29 = .ok (.invokevirtual 110, 3) := by decide +kernel
theorem dX11_isAfter_32 : decode cX11_isAfter 32 = .ok (.pop, 1) := by decide +kernel
theorem dX11_isAfter_33 : decode cX11_isAfter 33 = .ok (.iinc 5 1, 3) := by decide +kernel
theorem dX11_isAfter_36 : decode cX11_isAfter 36 = .ok (.goto (-17), 3) := by decide +kernel
theorem dX11_isAfter_39 : decode cX11_isAfter 39 = .ok (.aload_n 0, 1) := by decide +kernel
theorem dX11_isAfter_40 : decode cX11_isAfter 40 = .ok (.iload_n 2, 1) := by decide +kernel
theorem dX11_isAfter_41 : decode cX11_isAfter 41 = .ok (.invokevirtual 193, 3) := by decide +kernel
theorem dX11_isAfter_44 : decode cX11_isAfter 44 = .ok (.ireturn, 1) := by decide +kernel
theorem dX11_same_0 : decode cX11_same 0 = .ok (.aload_n 0, 1) := by decide +kernel
theorem dX11_same_1 : decode cX11_same 1 = .ok (.iconst 0, 1) := by decide +kernel
theorem dX11_same_2 : decode cX11_same 2 = .ok (.putfield 56, 3) := by decide +kernel
theorem dX11_same_5 : decode cX11_same 5 = .ok (.iload_n 1, 1) := by decide +kernel
theorem dX11_same_6 : decode cX11_same 6 = .ok (.invokestatic 175, 3) := by decide +kernel
theorem dX11_same_9 : decode cX11_same 9 = .ok (.ifCond .ne 17, 3) := by decide +kernel
theorem dX11_same_12 : decode cX11_same 12 = .ok (.aload_n 0, 1) := by decide +kernel
theorem dX11_same_13 : decode cX11_same 13 = .ok (.iconst 1, 1) := by decide +kernel
theorem dX11_same_14 : decode cX11_same 14 = .ok (.invokevirtual 81, 3) := by decide +kernel
theorem dX11_same_17 : decode cX11_same 17 = .ok (.ifCond .le 7, 3) := by decide +kernel
theorem dX11_same_20 : decode cX11_same 20 = .ok (.iconst 1, 1) := by decide +kernel
theorem dX11_same_21 : decode cX11_same 21 = .ok (.goto 4, 3) := by decide +kernel
theorem dX11_same_24 : decode cX11_same 24 = .ok (.iconst 0, 1) := by decide +kernel
theorem dX11_same_25 : decode cX11_same 25 = .ok (.ireturn, 1) := by decide +kernel
theorem dX11_same_26 : decode cX11_same 26 = .ok (.iload_n 2, 1) := by decide +kernel
theorem dX11_same_27 : decode cX11_same 27 = .ok (.i2l, 1) := by decide +kernel
theorem dX11_same_28 : decode cX11_same 28 = .ok (.lconst 0, 1) := by decide +kernel
theorem dX11_same_29 : decode cX11_same 29 = .ok (.ldc2_w 69, 3) := by decide +kernel
theorem dX11_same_32 : decode cX11_same 32 = .ok (.invokestatic 63, 3) := by decide +kernel
theorem dX11_same_35 : decode cX11_same 35 = .ok (.ifCond .ne 17, 3) := by decide +kernel
theorem dX11_same_38 : decode cX11_same 38 = .ok (.aload_n 0, 1) := by decide +kernel
theorem dX11_same_39 : decode cX11_same 39 = .ok (.iconst 2, 1) := by decide +kernel
theorem dX11_same_40 : decode cX11_same 40 = .ok (.invokevirtual 81, 3) := by decide +kernel
theorem dX11_same_43 : decode cX11_same 43 = .ok (.ifCond .le 7, 3) := by decide +kernel
theorem dX11_same_46 : decode cX11_same 46 = .ok (.iconst 1, 1) := by decide +kernel
theorem dX11_same_47 : decode cX11_same 47 = .ok (.goto 4, 3) := by decide +kernel
theorem dX11_same_50 : decode cX11_same 50 = .ok (.iconst 0, 1) := by decide +kernel
theorem dX11_same_51 : decode cX11_same 51 = .ok (.ireturn, 1) := by decide +kernel
theorem dX11_same_52 : decode cX11_same 52 = .ok (.aload_n 0, 1) := by decide +kernel
theorem dX11_same_53 : decode cX11_same 53 = .ok (.iload_n 1, 1) := by decide +kernel
theorem dX11_same_54 : decode cX11_same 54 = .ok (.iload_n 1, 1) := by decide +kernel
theorem dX11_same_55 : decode cX11_same 55 = .ok (.iload_n 2, 1) := by decide +kernel
theorem dX11_same_56 : decode cX11_same 56 = .ok (.ifCond .ne 7, 3) := by decide +kernel
theorem dX11_same_59 : decode cX11_same 59 = .ok (.iconst 1, 1) := by decide +kernel
theorem dX11_same_60 : decode cX11_same 60 = .ok (.goto 4, 3) := by decide +kernel
theorem dX11_same_63 : decode cX11_same 63 = .ok (.iconst 0, 1) := by decide +kernel
theorem dX11_same_64 : decode cX11_same 64 = .ok (.iload_n 2, 1) := by decide +kernel
theorem dX11_same_65 : decode cX11_same 65 = .ok (.ifCond .ne 7, 3) := by decide +kernel
theorem dX11_same_68 : decode cX11_same 68 = .ok (.iconst 0, 1) := by decide +kernel
theorem dX11_same_69 : decode cX11_same 69 = .ok (.goto 6, 3) := by decide +kernel
theorem dX11_same_72 : decode cX11_same 72 = .ok (.iconst 3, 1) := by decide +kernel
theorem dX11_same_73 : decode cX11_same 73 = .ok (.iload_n 2, 1) := by decide +kernel
theorem dX11_same_74 : decode cX11_same 74 = .ok (.isub, 1) := by decide +kernel
theorem dX11_same_75 : decode cX11_same 75 = .ok (.invokevirtual 196, 3) := by decide +kernel
theorem dX11_same_78 : decode cX11_same 78 = .ok (.ireturn, 1) := by decide +kernel
theorem dX11_addMember_0 : decode cX11_addMember 0 = .ok (.aload_n 0, 1) := by decide +kernel
theorem dX11_addMember_1 : decode cX11_addMember 1 = .ok (.iconst 0, 1) := by decide +kernel
theorem dX11_addMember_2 : decode cX11_addMember 2 = .ok (.putfield 56, 3) := by decide +kernel
theorem dX11_addMember_5 : decode cX11_addMember 5 = .ok (.aload_n 0, 1) := by decide +kernel
theorem dX11_addMember_6 : decode cX11_addMember 6 = .ok (.getfield 7, 3) := by decide +kernel
theorem dX11_addMember_9 : decode cX11_addMember 9 = .ok (.iconst 0, 1) := by decide +kernel
theorem dX11_addMember_10 : decode cX11_addMember 10 = .ok (.iaload, 1) := by decide +kernel
theorem dX11_addMember_11 : decode cX11_addMember 11 = .ok (.iconst 5, 1) := by decide +kernel
theorem dX11_addMember_12 : decode cX11_addMember 12 = .ok (.if_icmp .ne 9, 3) := by decide +kernel
theorem dX11_addMember_15 : decode cX11_addMember 15 = .ok (.aload_n 0, 1) := by decide +kernel
theorem dX11_addMember_16 : decode cX11_addMember 16 = .ok (.iconst 1, 1) := by decide +kernel
theorem dX11_addMember_17 : decode cX11_addMember 17 = .ok (.invokevirtual 81, 3) := by decide +kernel
theorem dX11_addMember_20 : decode cX11_addMember 20 = .ok (.ireturn, 1) := by decide +kernel
theorem dX11_addMember_21 : decode cX11_addMember 21 = .ok (.aload_n 0, 1) := by decide +kernel
theorem dX11_addMember_22 : decode cX11_addMember 22 = .ok (.invokevirtual 200, 3) := by decide +kernel
theorem dX11_addMember_25 : decode cX11_addMember 25 = .ok (.aload_n 0, 1) := by decide +kernel
theorem dX11_addMember_26 : decode cX11_addMember 26 = .ok (.getfield 7, 3) := by decide +kernel
theorem dX11_addMember_29 : decode cX11_addMember 29 = .ok (.iconst 0, 1) := by decide +kernel
theorem dX11_addMember_30 : decode cX11_addMember 30 = .ok (.dup2, 1) := by decide +kernel
theorem dX11_addMember_31 : decode cX11_addMember 31 = .ok (.iaload, 1) := by decide +kernel
theorem dX11_addMember_32 : decode cX11_addMember 32 = .ok (.iconst 1, 1) := by decide +kernel
theorem dX11_addMember_33 : decode cX11_addMember 33 = .ok (.iadd, 1) := by decide +kernel
theorem dX11_addMember_34 : decode cX11_addMember 34 = .ok (.iastore, 1) := by decide +kernel
theorem dX11_addMember_35 : decode cX11_addMember 35 = .ok (.aload_n 0, 1) := by decide +kernel
theorem dX11_addMember_36 : decode cX11_addMember 36 = .ok (.getfield 7, 3) := by decide +kernel
theorem dX11_addMember_39 : decode cX11_addMember 39 = .ok (.iconst 0, 1) := by decide +kernel
theorem dX11_addMember_40 : decode cX11_addMember 40 = .ok (.iaload, 1) := by decide +kernel
theorem dX11_addMember_41 : decode cX11_addMember 41 = .ok (.iconst 1, 1) := by decide +kernel
theorem dX11_addMember_42 : decode cX11_addMember 42 = .ok (.isub, 1) := by decide +kernel
theorem dX11_addMember_43 : decode cX11_addMember 43 = .ok (.ireturn, 1) := by decide +kernel
theorem dX11_gives_0 : decode cX11_gives 0 = .ok (.aload_n 0, 1) := by decide +kernel
theorem dX11_gives_1 : decode cX11_gives 1 = .ok (.getfield 7, 3) := by decide +kernel
theorem dX11_gives_4 : decode cX11_gives 4 = .ok (.bipush 15, 2) := by decide +kernel
theorem dX11_gives_6 : decode cX11_gives 6 = .ok (.bipush 6, 2) := by decide +kernel
theorem dX11_gives_8 : decode cX11_gives 8 = .ok (.iload_n 1, 1) := by decide +kernel
theorem dX11_gives_9 : decode cX11_gives 9 = .ok (.imul, 1) := by decide +kernel
theorem dX11_gives_10 : decode cX11_gives 10 = .ok (.iadd, 1) := by decide +kernel
theorem dX11_gives_11 : decode cX11_gives 11 = .ok (.iload_n 2, 1) := by decide +kernel
theorem dX11_gives_12 : decode cX11_gives 12 = .ok (.iadd, 1) := by decide +kernel
theorem dX11_gives_13 : decode cX11_gives 13 = .ok (.dup2, 1) := by decide +kernel
theorem dX11_gives_14 : decode cX11_gives 14 = .ok (.iaload, 1) := by decide +kernel
theorem dX11_gives_15 : decode cX11_gives 15 = .ok (.iload_n 3, 1) := by decide +kernel
theorem dX11_gives_16 : decode cX11_gives 16 = .ok (.iadd, 1) := by decide +kernel
theorem dX11_gives_17 : decode cX11_gives 17 = .ok (.iastore, 1) := by decide +kernel
theorem dX11_gives_18 : decode cX11_gives 18 = .ok (.aload_n 0, 1) := by decide +kernel
theorem dX11_gives_19 : decode cX11_gives 19 = .ok (.getfield 7, 3) := by decide +kernel
theorem dX11_gives_22 : decode cX11_gives 22 = .ok (.bipush 50, 2) := by decide +kernel
theorem dX11_gives_24 : decode cX11_gives 24 = .ok (.iload_n 2, 1) := by decide +kernel
theorem dX11_gives_25 : decode cX11_gives 25 = .ok (.iadd, 1) := by decide +kernel
theorem dX11_gives_26 : decode cX11_gives 26 = .ok (.dup2, 1) := by decide +kernel
theorem dX11_gives_27 : decode cX11_gives 27 = .ok (.iaload, 1) := by decide +kernel
theorem dX11_gives_28 : decode cX11_gives 28 = .ok (.iload_n 3, 1) := by decide +kernel
theorem dX11_gives_29 : decode cX11_gives 29 = .ok (.iadd, 1) := by decide +kernel
theorem dX11_gives_30 : decode cX11_gives 30 = .ok (.iastore, 1) := by decide +kernel
theorem dX11_gives_31 : decode cX11_gives 31 = .ok (.aload_n 0, 1) := by decide +kernel
theorem dX11_gives_32 : decode cX11_gives 32 = .ok (.getfield 7, 3) := by decide +kernel
theorem dX11_gives_35 : decode cX11_gives 35 = .ok (.bipush 50, 2) := by decide +kernel
theorem dX11_gives_37 : decode cX11_gives 37 = .ok (.iload_n 2, 1) := by decide +kernel
theorem dX11_gives_38 : decode cX11_gives 38 = .ok (.iadd, 1) := by decide +kernel
theorem dX11_gives_39 : decode cX11_gives 39 = .ok (.iaload, 1) := by decide +kernel
theorem dX11_gives_40 : decode cX11_gives 40 = .ok (.ireturn, 1) := by decide +kernel
theorem dX11_give_0 : decode cX11_give 0 = .ok (.aload_n 0, 1) := by decide +kernel
theorem dX11_give_1 : decode cX11_give 1 = .ok (.iconst 0, 1) := by decide +kernel
theorem dX11_give_2 : decode cX11_give 2 = .ok (.putfield 56, 3) := by decide +kernel
theorem dX11_give_5 : decode cX11_give 5 = .ok (.aload_n 0, 1) := by decide +kernel
theorem dX11_give_6 : decode cX11_give 6 = .ok (.iload_n 1, 1) := by decide +kernel
theorem dX11_give_7 : decode cX11_give 7 = .ok (.invokevirtual 145, 3) := by decide +kernel
theorem dX11_give_10 : decode cX11_give 10 = .ok (.ifCond .eq 10, 3) := by decide +kernel
theorem dX11_give_13 : decode cX11_give 13 = .ok (.iload_n 2, 1) := by decide +kernel
theorem dX11_give_14 : decode cX11_give 14 = .ok (.invokestatic 153, 3) := by decide +kernel
theorem dX11_give_17 : decode cX11_give 17 = .ok (.ifCond .ne 9, 3) := by decide +kernel
theorem dX11_give_20 : decode cX11_give 20 = .ok (.aload_n 0, 1) := by decide +kernel
theorem dX11_give_21 : decode cX11_give 21 = .ok (.iconst 1, 1) := by decide +kernel
theorem dX11_give_22 : decode cX11_give 22 = .ok (.invokevirtual 81, 3) := by decide +kernel
theorem dX11_give_25 : decode cX11_give 25 = .ok (.ireturn, 1) := by decide +kernel
theorem dX11_give_26 : decode cX11_give 26 = .ok (.iload_n 3, 1) := by decide +kernel
theorem dX11_give_27 : decode cX11_give 27 = .ok (.i2l, 1) := by decide +kernel
theorem dX11_give_28 : decode cX11_give 28 = .ok (.lconst 1, 1) := by decide +kernel
theorem dX11_give_29 : decode cX11_give 29 = .ok (.ldc2_w 203, 3) := by decide +kernel
theorem dX11_give_32 : decode cX11_give 32 = .ok (.invokestatic 63, 3) := by decide +kernel
theorem dX11_give_35 : decode cX11_give 35 = .ok (.ifCond .ne 9, 3) := by decide +kernel
theorem dX11_give_38 : decode cX11_give 38 = .ok (.aload_n 0, 1) := by decide +kernel
theorem dX11_give_39 : decode cX11_give 39 = .ok (.iconst 2, 1) := by decide +kernel
theorem dX11_give_40 : decode cX11_give 40 = .ok (.invokevirtual 81, 3) := by decide +kernel
theorem dX11_give_43 : decode cX11_give 43 = .ok (.ireturn, 1) := by decide +kernel
theorem dX11_give_44 : decode cX11_give 44 = .ok (.aload_n 0, 1) := by decide +kernel
theorem dX11_give_45 : decode cX11_give 45 = .ok (.invokevirtual 200, 3) := by decide +kernel
theorem dX11_give_48 : decode cX11_give 48 = .ok (.aload_n 0, 1) := by decide +kernel
theorem dX11_give_49 : decode cX11_give 49 = .ok (.iload_n 1, 1) := by decide +kernel
theorem dX11_give_50 : decode cX11_give 50 = .ok (.iload_n 2, 1) := by decide +kernel
theorem dX11_give_51 : decode cX11_give 51 = .ok (.iload_n 3, 1) := by decide +kernel
theorem dX11_give_52 : decode cX11_give 52 = .ok (.invokevirtual 205, 3) := by decide +kernel
theorem dX11_give_55 : decode cX11_give 55 = .ok (.ireturn, 1) := by decide +kernel
theorem dX11_start_0 : decode cX11_start 0 = .ok (.aload_n 0, 1) := by decide +kernel
theorem dX11_start_1 : decode cX11_start 1 = .ok (.iconst 0, 1) := by decide +kernel
theorem dX11_start_2 : decode cX11_start 2 = .ok (.putfield 56, 3) := by decide +kernel
theorem dX11_start_5 : decode cX11_start 5 = .ok (.iload_n 1, 1) := by decide +kernel
theorem dX11_start_6 : decode cX11_start 6 = .ok (.invokestatic 175, 3) := by decide +kernel
theorem dX11_start_9 : decode cX11_start 9 = .ok (.ifCond .ne 9, 3) := by decide +kernel
theorem dX11_start_12 : decode cX11_start 12 = .ok (.aload_n 0, 1) := by decide +kernel
theorem dX11_start_13 : decode cX11_start 13 = .ok (.iconst 1, 1) := by decide +kernel
theorem dX11_start_14 : decode cX11_start 14 = .ok (.invokevirtual 81, 3) := by decide +kernel
theorem dX11_start_17 : decode cX11_start 17 = .ok (.ireturn, 1) := by decide +kernel
theorem dX11_start_18 : decode cX11_start 18 = .ok (.aload_n 0, 1) := by decide +kernel
theorem dX11_start_19 : decode cX11_start 19 = .ok (.invokevirtual 138, 3) := by decide +kernel
theorem dX11_start_22 : decode cX11_start 22 = .ok (.ifCond .ge 11, 3) := by decide +kernel
theorem dX11_start_25 : decode cX11_start 25 = .ok (.aload_n 0, 1) := by decide +kernel
theorem dX11_start_26 : decode cX11_start 26 = .ok (.iload_n 1, 1) := by decide +kernel
theorem dX11_start_27 : decode cX11_start 27 = .ok (.invokevirtual 75, 3) := by decide +kernel
theorem dX11_start_30 : decode cX11_start 30 = .ok (.ifCond .le 9, 3) := by decide +kernel
theorem dX11_start_33 : decode cX11_start 33 = .ok (.aload_n 0, 1) := by decide +kernel
theorem dX11_start_34 : decode cX11_start 34 = .ok (.iconst 2, 1) := by decide +kernel
theorem dX11_start_35 : decode cX11_start 35 = .ok (.invokevirtual 81, 3) := by decide +kernel
theorem dX11_start_38 : decode cX11_start 38 = .ok (.ireturn, 1) := by decide +kernel
theorem dX11_start_39 : decode cX11_start 39 = .ok (.aload_n 0, 1) := by decide +kernel
theorem dX11_start_40 : decode cX11_start 40 = .ok (.invokevirtual 200, 3) := by decide +kernel
theorem dX11_start_43 : decode cX11_start 43 = .ok (.aload_n 0, 1) := by decide +kernel
theorem dX11_start_44 : decode cX11_start 44 = .ok (.getfield 7, 3) := by decide +kernel
theorem dX11_start_47 : decode cX11_start 47 = .ok (.iload_n 1, 1) := by decide +kernel
theorem dX11_start_48 : decode cX11_start 48 = .ok (.iconst 0, 1) := by decide +kernel
theorem dX11_start_49 : decode cX11_start 49 = .ok (.invokestatic 71, 3) := by decide +kernel
theorem dX11_start_52 : decode cX11_start 52 = .ok (.aload_n 0, 1) := by decide +kernel
theorem dX11_start_53 : decode cX11_start 53 = .ok (.getfield 90, 3) := by decide +kernel
theorem dX11_start_56 : decode cX11_start 56 = .ok (.iastore, 1) := by decide +kernel
theorem dX11_start_57 : decode cX11_start 57 = .ok (.aload_n 0, 1) := by decide +kernel
theorem dX11_start_58 : decode cX11_start 58 = .ok (.getfield 7, 3) := by decide +kernel
theorem dX11_start_61 : decode cX11_start 61 = .ok (.iload_n 1, 1) := by decide +kernel
theorem dX11_start_62 : decode cX11_start 62 = .ok (.iconst 1, 1) := by decide +kernel
theorem dX11_start_63 : decode cX11_start 63 = .ok (.invokestatic 71, 3) := by decide +kernel
theorem dX11_start_66 : decode cX11_start 66 = .ok (.aload_n 0, 1) := by decide +kernel
theorem dX11_start_67 : decode cX11_start 67 = .ok (.getfield 93, 3) := by decide +kernel
theorem dX11_start_70 : decode cX11_start 70 = .ok (.iastore, 1) := by decide +kernel
theorem dX11_start_71 : decode cX11_start 71 = .ok (.iconst 0, 1) := by decide +kernel
theorem dX11_start_72 : decode cX11_start 72 = .ok (.istore_n 2, 1) := by decide +kernel
theorem dX11_start_73 : decode cX11_start 73 = .ok (.iload_n 2, 1) := by decide +kernel
theorem dX11_start_74 : decode cX11_start 74 = .ok (.aload_n 0, 1) := by decide +kernel
theorem dX11_start_75 : decode cX11_start 75 = .ok (.getfield 90, 3) := by decide +kernel
theorem dX11_start_78 : decode cX11_start 78 = .ok (.aload_n 0, 1) := by decide +kernel
theorem dX11_start_79 : decode cX11_start 79 = .ok (.getfield 93, 3) := by decide +kernel
theorem dX11_start_82 : decode cX11_start 82 = .ok (.imul, 1) := by decide +kernel
theorem dX11_start_83 : decode cX11_start 83 = .ok (.if_icmp .ge 28, 3) := by decide +kernel
theorem dX11_start_86 : decode cX11_start 86 = .ok (.aload_n 0, 1) := by decide +kernel
theorem dX11_start_87 : decode cX11_start 87 = .ok (.getfield 7, 3) := by decide +kernel
theorem dX11_start_90 : decode cX11_start 90 = .ok (.iload_n 1, 1) := by decide +kernel
theorem dX11_start_91 : decode cX11_start 91 = .ok (.bipush 8, 2) := by decide +kernel
theorem dX11_start_93 : decode cX11_start 93 = .ok (.iload_n 2, 1) := by decide +kernel
theorem dX11_start_94 : decode cX11_start 94 = .ok (.iadd, 1) := by decide +kernel
theorem dX11_start_95 : decode cX11_start 95 = .ok (.invokestatic 71, 3) := by decide +kernel
theorem dX11_start_98 : decode cX11_start 98 = .ok (.aload_n 0, 1) := by decide +kernel
theorem dX11_start_99 : decode cX11_start 99 = .ok (.getfield 44, 3) := by decide +kernel
theorem dX11_start_102 : decode cX11_start 102 = .ok (.iload_n 2, 1) := by decide +kernel
theorem dX11_start_103 : decode cX11_start 103 = .ok (.iaload, 1) := by decide +kernel
theorem dX11_start_104 : decode cX11_start 104 = .ok (.iastore, 1) := by decide +kernel
theorem dX11_start_105 : decode cX11_start 105 = .ok (.iinc 2 1, 3) := by decide +kernel
theorem dX11_start_108 : decode cX11_start 108 = .ok (.goto (-35), 3) := by decide +kernel
theorem dX11_start_111 : decode cX11_start 111 = .ok (.aload_n 0, 1) := by decide +kernel
theorem dX11_start_112 : decode cX11_start 112 = .ok (.getfield 90, 3) := by decide +kernel
theorem dX11_start_115 : decode cX11_start 115 = .ok (.aload_n 0, 1) := by decide +kernel
theorem dX11_start_116 : decode cX11_start 116 = .ok (.getfield 93, 3) := by decide +kernel
theorem dX11_start_119 : decode cX11_start 119 = .ok (.imul, 1) := by decide +kernel
theorem dX11_start_120 : decode cX11_start 120 = .ok (.ireturn, 1) := by decide +kernel
theorem dX11_canRecolour_0 : decode cX11_canRecolour 0 = .ok (.aload_n 0, 1) := by decide +kernel
theorem dX11_canRecolour_1 : decode cX11_canRecolour 1 = .ok (.iload_n 1, 1) := by decide +kernel
theorem dX11_canRecolour_2 : decode cX11_canRecolour 2 = .ok (.invokevirtual 75, 3) := by decide +kernel
theorem dX11_canRecolour_5 : decode cX11_canRecolour 5 = .ok (.ifCond .le 20, 3) := by decide +kernel
theorem dX11_canRecolour_8 : decode cX11_canRecolour 8 = .ok (.aload_n 0, 1) := by decide +kernel
theorem dX11_canRecolour_9 : decode cX11_canRecolour 9 = .ok (.getfield 7, 3) := by decide +kernel
theorem dX11_canRecolour_12 : decode cX11_canRecolour 12 = .ok (.iload_n 1, 1) := by decide +kernel
theorem dX11_canRecolour_13 : decode cX11_canRecolour 13 = .ok (.iconst 2, 1) := by decide +kernel
theorem dX11_canRecolour_14 : decode cX11_canRecolour 14 = .ok (.invokestatic 71, 3) := by decide +kernel
theorem dX11_canRecolour_17 : decode cX11_canRecolour 17 = .ok (.iaload, 1) := by decide +kernel
theorem dX11_canRecolour_18 : decode cX11_canRecolour 18 = .ok (.ifCond .ne 7, 3) := by decide +kernel
theorem dX11_canRecolour_21 : decode cX11_canRecolour 21 = .ok (.iconst 1, 1) := by decide +kernel
theorem dX11_canRecolour_22 : decode cX11_canRecolour 22 = .ok (.goto 4, 3) := by decide +kernel
theorem dX11_canRecolour_25 : decode cX11_canRecolour 25 = .ok (.iconst 0, 1) := by decide +kernel
theorem dX11_canRecolour_26 : decode cX11_canRecolour 26 = .ok (.ireturn, 1) := by decide +kernel
theorem dX11_recolours_0 : decode cX11_recolours 0 = .ok (.iconst 0, 1) := by decide +kernel
theorem dX11_recolours_1 : decode cX11_recolours 1 = .ok (.istore 4, 2) := by decide +kernel
theorem dX11_recolours_3 : decode cX11_recolours 3 = .ok (.iconst 0, 1) := by decide +kernel
theorem dX11_recolours_4 : decode cX11_recolours 4 = .ok (.istore 5, 2) := by decide +kernel
theorem dX11_recolours_6 : decode cX11_recolours 6 = .ok (.iload 5, 2) := by decide +kernel
theorem dX11_recolours_8 : decode cX11_recolours 8 = .ok (.aload_n 0, 1) := by decide +kernel
theorem dX11_recolours_9 : decode cX11_recolours 9 = .ok (.iload_n 1, 1) := by decide +kernel
theorem dX11_recolours_10 : decode cX11_recolours 10 = .ok (.invokevirtual 75, 3) := by decide +kernel
theorem dX11_recolours_13 : decode cX11_recolours 13 = .ok (.if_icmp .ge 81, 3) := by decide +kernel
theorem dX11_recolours_16 : decode cX11_recolours 16 = .ok (.iload_n 2, 1) := by decide +kernel
theorem dX11_recolours_17 : decode cX11_recolours 17 = .ok (.iload_n 3, 1) := by decide +kernel
theorem dX11_recolours_18 : decode cX11_recolours 18 = .ok (.if_icmp .eq 76, 3) := by decide +kernel
theorem dX11_recolours_21 : decode cX11_recolours 21 = .ok (.aload_n 0, 1) := by decide +kernel
theorem dX11_recolours_22 : decode cX11_recolours 22 = .ok (.iload_n 1, 1) := by decide +kernel
theorem dX11_recolours_23 : decode cX11_recolours 23 = .ok (.iload 5, 2) := by decide +kernel
theorem dX11_recolours_25 : decode cX11_recolours 25 = .ok (.invokevirtual 150, 3) := by decide +kernel
theorem dX11_recolours_28 : decode cX11_recolours 28 = .ok (.istore 6, 2) := by decide +kernel
theorem dX11_recolours_30 : decode cX11_recolours 30 = .ok (.aload_n 0, 1) := by decide +kernel
theorem dX11_recolours_31 : decode cX11_recolours 31 = .ok (.getfield 7, 3) := by decide +kernel
theorem dX11_recolours_34 : decode cX11_recolours 34 = .ok (.iload_n 1, 1) := by decide +kernel
theorem dX11_recolours_35 : decode cX11_recolours 35 = .ok (.bipush 8, 2) := by decide +kernel
theorem dX11_recolours_37 : decode cX11_recolours 37 = .ok (.iload 5, 2) := by decide +kernel
theorem dX11_recolours_39 : decode cX11_recolours 39 = .ok (.iadd, 1) := by decide +kernel
theorem dX11_recolours_40 : decode cX11_recolours 40 = .ok (.invokestatic 71, 3) := by decide +kernel
theorem dX11_recolours_43 : decode cX11_recolours 43 = .ok (.iload 6, 2) := by decide +kernel
theorem dX11_recolours_45 : decode cX11_recolours 45 = .ok (.iload_n 2, 1) := by decide +kernel
theorem dX11_recolours_46 : decode cX11_recolours 46 = .ok (.if_icmp .ne 7, 3) := by decide +kernel
theorem dX11_recolours_49 : decode cX11_recolours 49 = .ok (.iload_n 3, 1) := by decide +kernel
theorem dX11_recolours_50 : decode cX11_recolours 50 = .ok (.goto 15, 3) := by decide +kernel
theorem dX11_recolours_53 : decode cX11_recolours 53 = .ok (.iload 6, 2) := by decide +kernel
theorem dX11_recolours_55 : decode cX11_recolours 55 = .ok (.iload_n 3, 1) := by decide +kernel
theorem dX11_recolours_56 : decode cX11_recolours 56 = .ok (.if_icmp .ne 7, 3) := by decide +kernel
theorem dX11_recolours_59 : decode cX11_recolours 59 = .ok (.iload_n 2, 1) := by decide +kernel
theorem dX11_recolours_60 : decode cX11_recolours 60 = .ok (.goto 5, 3) := by decide +kernel
theorem dX11_recolours_63 : decode cX11_recolours 63 = .ok (.iload 6, 2) := by decide +kernel
theorem dX11_recolours_65 : decode cX11_recolours 65 = .ok (.iastore, 1) := by decide +kernel
theorem dX11_recolours_66 : decode cX11_recolours 66 = .ok (.iload 4, 2) := by decide +kernel
theorem dX11_recolours_68 : decode cX11_recolours 68 = .ok (.iload 6, 2) := by decide +kernel
theorem dX11_recolours_70 : decode cX11_recolours 70 = .ok (.iload_n 2, 1) := by decide +kernel
theorem dX11_recolours_71 : decode cX11_recolours 71 = .ok (.if_icmp .eq 9, 3) := by decide +kernel
theorem dX11_recolours_74 : decode cX11_recolours 74 = .ok (.iload 6, 2) := by decide +kernel
theorem dX11_recolours_76 : decode cX11_recolours 76 = .ok (.iload_n 3, 1) := by decide +kernel
theorem dX11_recolours_77 : decode cX11_recolours 77 = .ok (.if_icmp .ne 7, 3) := by decide +kernel
theorem dX11_recolours_80 : decode cX11_recolours 80 = .ok (.iconst 1, 1) := by decide +kernel
theorem dX11_recolours_81 : decode cX11_recolours 81 = .ok (.goto 4, 3) := by decide +kernel
theorem dX11_recolours_84 : decode cX11_recolours 84 = .ok (.iconst 0, 1) := by decide +kernel
theorem dX11_recolours_85 : decode cX11_recolours 85 = .ok (.iadd, 1) := by decide +kernel
theorem dX11_recolours_86 : decode cX11_recolours 86 = .ok (.istore 4, 2) := by decide +kernel
theorem dX11_recolours_88 : decode cX11_recolours 88 = .ok (.iinc 5 1, 3) := by decide +kernel
theorem dX11_recolours_91 : decode cX11_recolours 91 = .ok (.goto (-85), 3) := by decide +kernel
theorem dX11_recolours_94 : decode cX11_recolours 94 = .ok (.iload 4, 2) := by decide +kernel
theorem dX11_recolours_96 : decode cX11_recolours 96 = .ok (.ireturn, 1) := by decide +kernel
theorem dX11_recolour_0 : decode cX11_recolour 0 = .ok (.aload_n 0, 1) := by decide +kernel
theorem dX11_recolour_1 : decode cX11_recolour 1 = .ok (.iconst 0, 1) := by decide +kernel
theorem dX11_recolour_2 : decode cX11_recolour 2 = .ok (.putfield 56, 3) := by decide +kernel
theorem dX11_recolour_5 : decode cX11_recolour 5 = .ok (.iload_n 1, 1) := by decide +kernel
theorem dX11_recolour_6 : decode cX11_recolour 6 = .ok (.invokestatic 175, 3) := by decide +kernel
theorem dX11_recolour_9 : decode cX11_recolour 9 = .ok (.ifCond .eq 17, 3) := by decide +kernel
theorem dX11_recolour_12 : decode cX11_recolour 12 = .ok (.iload_n 2, 1) := by decide +kernel
theorem dX11_recolour_13 : decode cX11_recolour 13 = .ok (.invokestatic 153, 3) := by decide +kernel
theorem dX11_recolour_16 : decode cX11_recolour 16 = .ok (.ifCond .eq 10, 3) := by decide +kernel
theorem dX11_recolour_19 : decode cX11_recolour 19 = .ok (.iload_n 3, 1) := by decide +kernel
theorem dX11_recolour_20 : decode cX11_recolour 20 = .ok (.invokestatic 153, 3) := by decide +kernel
theorem dX11_recolour_23 : decode cX11_recolour 23 = .ok (.ifCond .ne 9, 3) := by decide +kernel
theorem dX11_recolour_26 : decode cX11_recolour 26 = .ok (.aload_n 0, 1) := by decide +kernel
theorem dX11_recolour_27 : decode cX11_recolour 27 = .ok (.iconst 1, 1) := by decide +kernel
theorem dX11_recolour_28 : decode cX11_recolour 28 = .ok (.invokevirtual 81, 3) := by decide +kernel
theorem dX11_recolour_31 : decode cX11_recolour 31 = .ok (.ireturn, 1) := by decide +kernel
theorem dX11_recolour_32 : decode cX11_recolour 32 = .ok (.aload_n 0, 1) := by decide +kernel
theorem dX11_recolour_33 : decode cX11_recolour 33 = .ok (.iload_n 1, 1) := by decide +kernel
theorem dX11_recolour_34 : decode cX11_recolour 34 = .ok (.invokevirtual 209, 3) := by decide +kernel
theorem dX11_recolour_37 : decode cX11_recolour 37 = .ok (.ifCond .ne 9, 3) := by decide +kernel
theorem dX11_recolour_40 : decode cX11_recolour 40 = .ok (.aload_n 0, 1) := by decide +kernel
theorem dX11_recolour_41 : decode cX11_recolour 41 = .ok (.iconst 2, 1) := by decide +kernel
theorem dX11_recolour_42 : decode cX11_recolour 42 = .ok (.invokevirtual 81, 3) := by decide +kernel
theorem dX11_recolour_45 : decode cX11_recolour 45 = .ok (.ireturn, 1) := by decide +kernel
theorem dX11_recolour_46 : decode cX11_recolour 46 = .ok (.aload_n 0, 1) := by decide +kernel
theorem dX11_recolour_47 : decode cX11_recolour 47 = .ok (.invokevirtual 200, 3) := by decide +kernel
theorem dX11_recolour_50 : decode cX11_recolour 50 = .ok (.aload_n 0, 1) := by decide +kernel
theorem dX11_recolour_51 : decode cX11_recolour 51 = .ok (.iload_n 1, 1) := by decide +kernel
theorem dX11_recolour_52 : decode cX11_recolour 52 = .ok (.iload_n 2, 1) := by decide +kernel
theorem dX11_recolour_53 : decode cX11_recolour 53 = .ok (.iload_n 3, 1) := by decide +kernel
theorem dX11_recolour_54 : decode cX11_recolour 54 = .ok (.invokevirtual 212, 3) := by decide +kernel
theorem dX11_recolour_57 : decode cX11_recolour 57 = .ok (.ireturn, 1) := by decide +kernel
theorem dX11_canSew_0 : decode cX11_canSew 0 = .ok (.aload_n 0, 1) := by decide +kernel
theorem dX11_canSew_1 : decode cX11_canSew 1 = .ok (.iload_n 1, 1) := by decide +kernel
theorem dX11_canSew_2 : decode cX11_canSew 2 = .ok (.invokevirtual 75, 3) := by decide +kernel
theorem dX11_canSew_5 : decode cX11_canSew 5 = .ok (.ifCond .le 16, 3) := by decide +kernel
theorem dX11_canSew_8 : decode cX11_canSew 8 = .ok (.aload_n 0, 1) := by decide +kernel
theorem dX11_canSew_9 : decode cX11_canSew 9 = .ok (.getfield 7, 3) := by decide +kernel
theorem dX11_canSew_12 : decode cX11_canSew 12 = .ok (.iconst 0, 1) := by decide +kernel
theorem dX11_canSew_13 : decode cX11_canSew 13 = .ok (.iaload, 1) := by decide +kernel
theorem dX11_canSew_14 : decode cX11_canSew 14 = .ok (.ifCond .le 7, 3) := by decide +kernel
theorem dX11_canSew_17 : decode cX11_canSew 17 = .ok (.iconst 1, 1) := by decide +kernel
theorem dX11_canSew_18 : decode cX11_canSew 18 = .ok (.goto 4, 3) := by decide +kernel
theorem dX11_canSew_21 : decode cX11_canSew 21 = .ok (.iconst 0, 1) := by decide +kernel
theorem dX11_canSew_22 : decode cX11_canSew 22 = .ok (.ireturn, 1) := by decide +kernel
theorem dX11_sews_0 : decode cX11_sews 0 = .ok (.aload_n 0, 1) := by decide +kernel
theorem dX11_sews_1 : decode cX11_sews 1 = .ok (.getfield 7, 3) := by decide +kernel
theorem dX11_sews_4 : decode cX11_sews 4 = .ok (.iconst 1, 1) := by decide +kernel
theorem dX11_sews_5 : decode cX11_sews 5 = .ok (.iaload, 1) := by decide +kernel
theorem dX11_sews_6 : decode cX11_sews 6 = .ok (.istore_n 3, 1) := by decide +kernel
theorem dX11_sews_7 : decode cX11_sews 7 = .ok (.iconst 0, 1) := by decide +kernel
theorem dX11_sews_8 : decode cX11_sews 8 = .ok (.istore 4, 2) := by decide +kernel
theorem dX11_sews_10 : decode cX11_sews 10 = .ok (.iconst 1, 1) := by decide +kernel
theorem dX11_sews_11 : decode cX11_sews 11 = .ok (.istore 5, 2) := by decide +kernel
theorem dX11_sews_13 : decode cX11_sews 13 = .ok (.iload 5, 2) := by decide +kernel
theorem dX11_sews_15 : decode cX11_sews 15 = .ok (.ifCond .eq 131, 3) := by decide +kernel
theorem dX11_sews_18 : decode cX11_sews 18 = .ok (.iload 4, 2) := by decide +kernel
theorem dX11_sews_20 : decode cX11_sews 20 = .ok (.iload_n 2, 1) := by decide +kernel
theorem dX11_sews_21 : decode cX11_sews 21 = .ok (.if_icmp .ge 125, 3) := by decide +kernel
theorem dX11_sews_24 : decode cX11_sews 24 = .ok (.aload_n 0, 1) := by decide +kernel
theorem dX11_sews_25 : decode cX11_sews 25 = .ok (.getfield 7, 3) := by decide +kernel
theorem dX11_sews_28 : decode cX11_sews 28 = .ok (.iload_n 1, 1) := by decide +kernel
theorem dX11_sews_29 : decode cX11_sews 29 = .ok (.iconst 2, 1) := by decide +kernel
theorem dX11_sews_30 : decode cX11_sews 30 = .ok (.invokestatic 71, 3) := by decide +kernel
theorem dX11_sews_33 : decode cX11_sews 33 = .ok (.iaload, 1) := by decide +kernel
theorem dX11_sews_34 : decode cX11_sews 34 = .ok (.aload_n 0, 1) := by decide +kernel
theorem dX11_sews_35 : decode cX11_sews 35 = .ok (.iload_n 1, 1) := by decide +kernel
theorem dX11_sews_36 : decode cX11_sews 36 = .ok (.invokevirtual 75, 3) := by decide +kernel
theorem dX11_sews_39 : decode cX11_sews 39 = .ok (.if_icmp .ge 107, 3) := by decide +kernel
theorem dX11_sews_42 : decode cX11_sews 42 = .ok (.aload_n 0, 1) := by decide +kernel
theorem dX11_sews_43 : decode cX11_sews 43 = .ok (.iload_n 1, 1) := by decide +kernel
theorem dX11_sews_44 : decode cX11_sews 44 = .ok (.aload_n 0, 1) := by decide +kernel
theorem dX11_sews_45 : decode cX11_sews 45 = .ok (.getfield 7, 3) := by decide +kernel
theorem dX11_sews_48 : decode cX11_sews 48 = .ok (.iload_n 1, 1) := by decide +kernel
theorem dX11_sews_49 : decode cX11_sews 49 = .ok (.iconst 2, 1) := by decide +kernel
theorem dX11_sews_50 : decode cX11_sews 50 = .ok (.invokestatic 71, 3) := by decide +kernel
theorem dX11_sews_53 : decode cX11_sews 53 = .ok (.iaload, 1) := by decide +kernel
theorem dX11_sews_54 : decode cX11_sews 54 = .ok (.invokevirtual 150, 3) := by decide +kernel
theorem dX11_sews_57 : decode cX11_sews 57 = .ok (.istore 6, 2) := by decide +kernel
theorem dX11_sews_59 : decode cX11_sews 59 = .ok (.aload_n 0, 1) := by decide +kernel
theorem dX11_sews_60 : decode cX11_sews 60 = .ok (.getfield 7, 3) := by decide +kernel
theorem dX11_sews_63 : decode cX11_sews 63 = .ok (.bipush 50, 2) := by decide +kernel
theorem dX11_sews_65 : decode cX11_sews 65 = .ok (.iload 6, 2) := by decide +kernel
theorem dX11_sews_67 : decode cX11_sews 67 = .ok (.iadd, 1) := by decide +kernel
theorem dX11_sews_68 : decode cX11_sews 68 = .ok (.iaload, 1) := by decide +kernel
theorem dX11_sews_69 : decode cX11_sews 69 = .ok (.ifCond .le 7, 3) := by decide +kernel
theorem dX11_sews_72 : decode cX11_sews 72 = .ok (.iconst 1, 1) := by decide +kernel
theorem dX11_sews_73 : decode cX11_sews 73 = .ok (.goto 4, 3) := by decide +kernel
theorem dX11_sews_76 : decode cX11_sews 76 = .ok (.iconst 0, 1) := by decide +kernel
theorem dX11_sews_77 : decode cX11_sews 77 = .ok (.istore 5, 2) := by decide +kernel
theorem dX11_sews_79 : decode cX11_sews 79 = .ok (.iload 5, 2) := by decide +kernel
theorem dX11_sews_81 : decode cX11_sews 81 = .ok (.ifCond .eq 62, 3) := by decide +kernel
theorem dX11_sews_84 : decode cX11_sews 84 = .ok (.aload_n 0, 1) := by decide +kernel
theorem dX11_sews_85 : decode cX11_sews 85 = .ok (.getfield 7, 3) := by decide +kernel
theorem dX11_sews_88 : decode cX11_sews 88 = .ok (.bipush 50, 2) := by decide +kernel
theorem dX11_sews_90 : decode cX11_sews 90 = .ok (.iload 6, 2) := by decide +kernel
theorem dX11_sews_92 : decode cX11_sews 92 = .ok (.iadd, 1) := by decide +kernel
theorem dX11_sews_93 : decode cX11_sews 93 = .ok (.dup2, 1) := by decide +kernel
theorem dX11_sews_94 : decode cX11_sews 94 = .ok (.iaload, 1) := by decide +kernel
theorem dX11_sews_95 : decode cX11_sews 95 = .ok (.iconst 1, 1) := by decide +kernel
theorem dX11_sews_96 : decode cX11_sews 96 = .ok (.isub, 1) := by decide +kernel
theorem dX11_sews_97 : decode cX11_sews 97 = .ok (.iastore, 1) := by decide +kernel
theorem dX11_sews_98 : decode cX11_sews 98 = .ok (.aload_n 0, 1) := by decide +kernel
theorem dX11_sews_99 : decode cX11_sews 99 = .ok (.getfield 7, 3) := by decide +kernel
theorem dX11_sews_102 : decode cX11_sews 102 = .ok (.iload_n 1, 1) := by decide +kernel
theorem dX11_sews_103 : decode cX11_sews 103 = .ok (.iconst 2, 1) := by decide +kernel
theorem dX11_sews_104 : decode cX11_sews 104 = .ok (.invokestatic 71, 3) := by decide +kernel
theorem dX11_sews_107 : decode cX11_sews 107 = .ok (.dup2, 1) := by decide +kernel
theorem dX11_sews_108 : decode cX11_sews 108 = .ok (.iaload, 1) := by decide +kernel
theorem dX11_sews_109 : decode cX11_sews 109 = .ok (.iconst 1, 1) := by decide +kernel
theorem dX11_sews_110 : decode cX11_sews 110 = .ok (.iadd, 1) := by decide +kernel
theorem dX11_sews_111 : decode cX11_sews 111 = .ok (.iastore, 1) := by decide +kernel
theorem dX11_sews_112 : decode cX11_sews 112 = .ok (.aload_n 0, 1) := by decide +kernel
theorem dX11_sews_113 : decode cX11_sews 113 = .ok (.getfield 7, 3) := by decide +kernel
theorem dX11_sews_116 : decode cX11_sews 116 = .ok (.iload_n 1, 1) := by decide +kernel
