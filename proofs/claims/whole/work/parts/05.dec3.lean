theorem d_M_handles_111 : decode prog_10_method_44_code 111 = .ok (.iload_n 3, 1) := by decide +kernel
theorem d_M_handles_112 : decode prog_10_method_44_code 112 = .ok (.iaload, 1) := by decide +kernel
theorem d_M_handles_113 : decode prog_10_method_44_code 113 = .ok (.aload_n 0, 1) := by decide +kernel
theorem d_M_handles_114 : decode prog_10_method_44_code 114 = .ok (.getfield 28, 3) := by decide +kernel
theorem d_M_handles_117 : decode prog_10_method_44_code 117 = .ok (.iload_n 3, 1) := by decide +kernel
theorem d_M_handles_118 : decode prog_10_method_44_code 118 = .ok (.iaload, 1) := by decide +kernel
theorem d_M_handles_119 : decode prog_10_method_44_code 119 = .ok (.aload_n 0, 1) := by decide +kernel
theorem d_M_handles_120 : decode prog_10_method_44_code 120 = .ok (.getfield 31, 3) := by decide +kernel
theorem d_M_handles_123 : decode prog_10_method_44_code 123 = .ok (.iload_n 3, 1) := by decide +kernel
theorem d_M_handles_124 : decode prog_10_method_44_code 124 = .ok (.iaload, 1) := by decide +kernel
theorem d_M_handles_125 : decode prog_10_method_44_code 125 = .ok (.iconst 0, 1) := by decide +kernel
theorem d_M_handles_126 : decode prog_10_method_44_code 126 = .ok (.aload_n 0, 1) := by decide +kernel
theorem d_M_handles_127 : decode prog_10_method_44_code 127 = .ok (.getfield 100, 3) := by decide +kernel
theorem d_M_handles_130 : decode prog_10_method_44_code 130 = .ok (.iconst 5, 1) := by decide +kernel
theorem d_M_handles_131 : decode prog_10_method_44_code 131 = .ok (.iaload, 1) := by decide +kernel
theorem d_M_handles_132 : decode prog_10_method_44_code 132 = .ok (.invokevirtual 223, 3) := by decide +kernel
theorem d_M_handles_135 : decode prog_10_method_44_code 135 = .ok (.goto 153, 3) := by decide +kernel
theorem d_M_handles_138 : decode prog_10_method_44_code 138 = .ok (.aload_n 0, 1) := by decide +kernel
theorem d_M_handles_139 : decode prog_10_method_44_code 139 = .ok (.iload_n 1, 1) := by decide +kernel
theorem d_M_handles_140 : decode prog_10_method_44_code 140 = .ok (.aload_n 0, 1) := by decide +kernel
theorem d_M_handles_141 : decode prog_10_method_44_code 141 = .ok (.getfield 100, 3) := by decide +kernel
theorem d_M_handles_144 : decode prog_10_method_44_code 144 = .ok (.iconst 5, 1) := by decide +kernel
theorem d_M_handles_145 : decode prog_10_method_44_code 145 = .ok (.iaload, 1) := by decide +kernel
theorem d_M_handles_146 : decode prog_10_method_44_code 146 = .ok (.aload_n 0, 1) := by decide +kernel
theorem d_M_handles_147 : decode prog_10_method_44_code 147 = .ok (.getfield 100, 3) := by decide +kernel
theorem d_M_handles_150 : decode prog_10_method_44_code 150 = .ok (.bipush 6, 2) := by decide +kernel
theorem d_M_handles_152 : decode prog_10_method_44_code 152 = .ok (.iaload, 1) := by decide +kernel
theorem d_M_handles_153 : decode prog_10_method_44_code 153 = .ok (.aload_n 0, 1) := by decide +kernel
theorem d_M_handles_154 : decode prog_10_method_44_code 154 = .ok (.getfield 100, 3) := by decide +kernel
theorem d_M_handles_157 : decode prog_10_method_44_code 157 = .ok (.bipush 7, 2) := by decide +kernel
theorem d_M_handles_159 : decode prog_10_method_44_code 159 = .ok (.iaload, 1) := by decide +kernel
theorem d_M_handles_160 : decode prog_10_method_44_code 160 = .ok (.aload_n 0, 1) := by decide +kernel
theorem d_M_handles_161 : decode prog_10_method_44_code 161 = .ok (.getfield 100, 3) := by decide +kernel
theorem d_M_handles_164 : decode prog_10_method_44_code 164 = .ok (.bipush 8, 2) := by decide +kernel
theorem d_M_handles_166 : decode prog_10_method_44_code 166 = .ok (.iaload, 1) := by decide +kernel
theorem d_M_handles_167 : decode prog_10_method_44_code 167 = .ok (.invokevirtual 150, 3) := by decide +kernel
theorem d_M_handles_170 : decode prog_10_method_44_code 170 = .ok (.aload_n 0, 1) := by decide +kernel
theorem d_M_handles_171 : decode prog_10_method_44_code 171 = .ok (.iload_n 1, 1) := by decide +kernel
theorem d_M_handles_172 : decode prog_10_method_44_code 172 = .ok (.invokevirtual 111, 3) := by decide +kernel
theorem d_M_handles_175 : decode prog_10_method_44_code 175 = .ok (.ifCond .eq 113, 3) := by decide +kernel
theorem d_M_handles_178 : decode prog_10_method_44_code 178 = .ok (.aload_n 0, 1) := by decide +kernel
theorem d_M_handles_179 : decode prog_10_method_44_code 179 = .ok (.iconst 4, 1) := by decide +kernel
theorem d_M_handles_180 : decode prog_10_method_44_code 180 = .ok (.iload_n 1, 1) := by decide +kernel
theorem d_M_handles_181 : decode prog_10_method_44_code 181 = .ok (.iconst 0, 1) := by decide +kernel
theorem d_M_handles_182 : decode prog_10_method_44_code 182 = .ok (.iconst 0, 1) := by decide +kernel
theorem d_M_handles_183 : decode prog_10_method_44_code 183 = .ok (.iconst 0, 1) := by decide +kernel
theorem d_M_handles_184 : decode prog_10_method_44_code 184 = .ok (.iconst 0, 1) := by decide +kernel
theorem d_M_handles_185 : decode prog_10_method_44_code 185 = .ok (.iconst 0, 1) := by decide +kernel
theorem d_M_handles_186 : decode prog_10_method_44_code 186 = .ok (.invokevirtual 223, 3) := by decide +kernel
theorem d_M_handles_189 : decode prog_10_method_44_code 189 = .ok (.goto 99, 3) := by decide +kernel
theorem d_M_handles_192 : decode prog_10_method_44_code 192 = .ok (.aload_n 0, 1) := by decide +kernel
theorem d_M_handles_193 : decode prog_10_method_44_code 193 = .ok (.iload_n 1, 1) := by decide +kernel
theorem d_M_handles_194 : decode prog_10_method_44_code 194 = .ok (.iload_n 2, 1) := by decide +kernel
theorem d_M_handles_195 : decode prog_10_method_44_code 195 = .ok (.invokevirtual 227, 3) := by decide +kernel
theorem d_M_handles_198 : decode prog_10_method_44_code 198 = .ok (.goto 90, 3) := by decide +kernel
theorem d_M_handles_201 : decode prog_10_method_44_code 201 = .ok (.aload_n 0, 1) := by decide +kernel
theorem d_M_handles_202 : decode prog_10_method_44_code 202 = .ok (.bipush 11, 2) := by decide +kernel
theorem d_M_handles_204 : decode prog_10_method_44_code 204 = .ok (.iload_n 1, 1) := by decide +kernel
theorem d_M_handles_205 : decode prog_10_method_44_code 205 = .ok (.iconst 0, 1) := by decide +kernel
theorem d_M_handles_206 : decode prog_10_method_44_code 206 = .ok (.iconst 0, 1) := by decide +kernel
theorem d_M_handles_207 : decode prog_10_method_44_code 207 = .ok (.iconst 0, 1) := by decide +kernel
theorem d_M_handles_208 : decode prog_10_method_44_code 208 = .ok (.iconst 1, 1) := by decide +kernel
theorem d_M_handles_209 : decode prog_10_method_44_code 209 = .ok (.iconst 0, 1) := by decide +kernel
theorem d_M_handles_210 : decode prog_10_method_44_code 210 = .ok (.invokevirtual 223, 3) := by decide +kernel
theorem d_M_handles_213 : decode prog_10_method_44_code 213 = .ok (.goto 75, 3) := by decide +kernel
theorem d_M_handles_216 : decode prog_10_method_44_code 216 = .ok (.aload_n 0, 1) := by decide +kernel
theorem d_M_handles_217 : decode prog_10_method_44_code 217 = .ok (.iload_n 1, 1) := by decide +kernel
theorem d_M_handles_218 : decode prog_10_method_44_code 218 = .ok (.invokevirtual 230, 3) := by decide +kernel
theorem d_M_handles_221 : decode prog_10_method_44_code 221 = .ok (.aload_n 0, 1) := by decide +kernel
theorem d_M_handles_222 : decode prog_10_method_44_code 222 = .ok (.iload_n 1, 1) := by decide +kernel
theorem d_M_handles_223 : decode prog_10_method_44_code 223 = .ok (.invokevirtual 111, 3) := by decide +kernel
theorem d_M_handles_226 : decode prog_10_method_44_code 226 = .ok (.ifCond .eq 62, 3) := by decide +kernel
theorem d_M_handles_229 : decode prog_10_method_44_code 229 = .ok (.aload_n 0, 1) := by decide +kernel
theorem d_M_handles_230 : decode prog_10_method_44_code 230 = .ok (.bipush 13, 2) := by decide +kernel
theorem d_M_handles_232 : decode prog_10_method_44_code 232 = .ok (.iload_n 1, 1) := by decide +kernel
theorem d_M_handles_233 : decode prog_10_method_44_code 233 = .ok (.iconst 0, 1) := by decide +kernel
theorem d_M_handles_234 : decode prog_10_method_44_code 234 = .ok (.iconst 0, 1) := by decide +kernel
theorem d_M_handles_235 : decode prog_10_method_44_code 235 = .ok (.iconst 0, 1) := by decide +kernel
theorem d_M_handles_236 : decode prog_10_method_44_code 236 = .ok (.iconst 0, 1) := by decide +kernel
theorem d_M_handles_237 : decode prog_10_method_44_code 237 = .ok (.iconst 0, 1) := by decide +kernel
theorem d_M_handles_238 : decode prog_10_method_44_code 238 = .ok (.invokevirtual 223, 3) := by decide +kernel
theorem d_M_handles_241 : decode prog_10_method_44_code 241 = .ok (.goto 47, 3) := by decide +kernel
theorem d_M_handles_244 : decode prog_10_method_44_code 244 = .ok (.aload_n 0, 1) := by decide +kernel
theorem d_M_handles_245 : decode prog_10_method_44_code 245 = .ok (.iload_n 1, 1) := by decide +kernel
theorem d_M_handles_246 : decode prog_10_method_44_code 246 = .ok (.invokevirtual 230, 3) := by decide +kernel
theorem d_M_handles_249 : decode prog_10_method_44_code 249 = .ok (.goto 39, 3) := by decide +kernel
theorem d_M_handles_252 : decode prog_10_method_44_code 252 = .ok (.aload_n 0, 1) := by decide +kernel
theorem d_M_handles_253 : decode prog_10_method_44_code 253 = .ok (.iload_n 1, 1) := by decide +kernel
theorem d_M_handles_254 : decode prog_10_method_44_code 254 = .ok (.invokevirtual 233, 3) := by decide +kernel
theorem d_M_handles_257 : decode prog_10_method_44_code 257 = .ok (.ifCond .lt 31, 3) := by decide +kernel
theorem d_M_handles_260 : decode prog_10_method_44_code 260 = .ok (.aload_n 0, 1) := by decide +kernel
theorem d_M_handles_261 : decode prog_10_method_44_code 261 = .ok (.bipush 14, 2) := by decide +kernel
theorem d_M_handles_263 : decode prog_10_method_44_code 263 = .ok (.iload_n 1, 1) := by decide +kernel
theorem d_M_handles_264 : decode prog_10_method_44_code 264 = .ok (.iconst 0, 1) := by decide +kernel
theorem d_M_handles_265 : decode prog_10_method_44_code 265 = .ok (.iconst 0, 1) := by decide +kernel
theorem d_M_handles_266 : decode prog_10_method_44_code 266 = .ok (.iconst 0, 1) := by decide +kernel
theorem d_M_handles_267 : decode prog_10_method_44_code 267 = .ok (.iconst 1, 1) := by decide +kernel
theorem d_M_handles_268 : decode prog_10_method_44_code 268 = .ok (.iconst 0, 1) := by decide +kernel
theorem d_M_handles_269 : decode prog_10_method_44_code 269 = .ok (.invokevirtual 223, 3) := by decide +kernel
theorem d_M_handles_272 : decode prog_10_method_44_code 272 = .ok (.goto 16, 3) := by decide +kernel
theorem d_M_handles_275 : decode prog_10_method_44_code 275 = .ok (.aload_n 0, 1) := by decide +kernel
theorem d_M_handles_276 : decode prog_10_method_44_code 276 = .ok (.iload_n 1, 1) := by decide +kernel
theorem d_M_handles_277 : decode prog_10_method_44_code 277 = .ok (.invokevirtual 236, 3) := by decide +kernel
theorem d_M_handles_280 : decode prog_10_method_44_code 280 = .ok (.ifCond .eq 8, 3) := by decide +kernel
theorem d_M_handles_283 : decode prog_10_method_44_code 283 = .ok (.aload_n 0, 1) := by decide +kernel
theorem d_M_handles_284 : decode prog_10_method_44_code 284 = .ok (.iload_n 1, 1) := by decide +kernel
theorem d_M_handles_285 : decode prog_10_method_44_code 285 = .ok (.invokevirtual 239, 3) := by decide +kernel
theorem d_M_handles_288 : decode prog_10_method_44_code 288 = .ok (.return_, 1) := by decide +kernel
theorem d_M_votes_0 : decode prog_10_method_45_code 0 = .ok (.aload_n 0, 1) := by decide +kernel
theorem d_M_votes_1 : decode prog_10_method_45_code 1 = .ok (.getfield 100, 3) := by decide +kernel
theorem d_M_votes_4 : decode prog_10_method_45_code 4 = .ok (.bipush 6, 2) := by decide +kernel
theorem d_M_votes_6 : decode prog_10_method_45_code 6 = .ok (.iaload, 1) := by decide +kernel
theorem d_M_votes_7 : decode prog_10_method_45_code 7 = .ok (.istore_n 3, 1) := by decide +kernel
theorem d_M_votes_8 : decode prog_10_method_45_code 8 = .ok (.aload_n 0, 1) := by decide +kernel
theorem d_M_votes_9 : decode prog_10_method_45_code 9 = .ok (.getfield 100, 3) := by decide +kernel
theorem d_M_votes_12 : decode prog_10_method_45_code 12 = .ok (.iconst 0, 1) := by decide +kernel
theorem d_M_votes_13 : decode prog_10_method_45_code 13 = .ok (.iaload, 1) := by decide +kernel
theorem d_M_votes_14 : decode prog_10_method_45_code 14 = .ok (.iconst 5, 1) := by decide +kernel
theorem d_M_votes_15 : decode prog_10_method_45_code 15 = .ok (.if_icmp .ne 7, 3) := by decide +kernel
theorem d_M_votes_18 : decode prog_10_method_45_code 18 = .ok (.iconst 1, 1) := by decide +kernel
theorem d_M_votes_19 : decode prog_10_method_45_code 19 = .ok (.goto 4, 3) := by decide +kernel
theorem d_M_votes_22 : decode prog_10_method_45_code 22 = .ok (.iconst 0, 1) := by decide +kernel
theorem d_M_votes_23 : decode prog_10_method_45_code 23 = .ok (.istore 4, 2) := by decide +kernel
theorem d_M_votes_25 : decode prog_10_method_45_code 25 = .ok (.iload 4, 2) := by decide +kernel
theorem d_M_votes_27 : decode prog_10_method_45_code 27 = .ok (.ifCond .eq 16, 3) := by decide +kernel
theorem d_M_votes_30 : decode prog_10_method_45_code 30 = .ok (.iload_n 3, 1) := by decide +kernel
theorem d_M_votes_31 : decode prog_10_method_45_code 31 = .ok (.aload_n 0, 1) := by decide +kernel
theorem d_M_votes_32 : decode prog_10_method_45_code 32 = .ok (.getfield 40, 3) := by decide +kernel
theorem d_M_votes_35 : decode prog_10_method_45_code 35 = .ok (.iload_n 2, 1) := by decide +kernel
theorem d_M_votes_36 : decode prog_10_method_45_code 36 = .ok (.iaload, 1) := by decide +kernel
theorem d_M_votes_37 : decode prog_10_method_45_code 37 = .ok (.if_icmp .gt 39, 3) := by decide +kernel
theorem d_M_votes_40 : decode prog_10_method_45_code 40 = .ok (.goto 13, 3) := by decide +kernel
theorem d_M_votes_43 : decode prog_10_method_45_code 43 = .ok (.iload_n 3, 1) := by decide +kernel
theorem d_M_votes_44 : decode prog_10_method_45_code 44 = .ok (.aload_n 0, 1) := by decide +kernel
theorem d_M_votes_45 : decode prog_10_method_45_code 45 = .ok (.getfield 40, 3) := by decide +kernel
theorem d_M_votes_48 : decode prog_10_method_45_code 48 = .ok (.iload_n 2, 1) := by decide +kernel
theorem d_M_votes_49 : decode prog_10_method_45_code 49 = .ok (.iaload, 1) := by decide +kernel
theorem d_M_votes_50 : decode prog_10_method_45_code 50 = .ok (.if_icmp .ge 26, 3) := by decide +kernel
theorem d_M_votes_53 : decode prog_10_method_45_code 53 = .ok (.aload_n 0, 1) := by decide +kernel
theorem d_M_votes_54 : decode prog_10_method_45_code 54 = .ok (.bipush 9, 2) := by decide +kernel
theorem d_M_votes_56 : decode prog_10_method_45_code 56 = .ok (.iload_n 1, 1) := by decide +kernel
theorem d_M_votes_57 : decode prog_10_method_45_code 57 = .ok (.aload_n 0, 1) := by decide +kernel
theorem d_M_votes_58 : decode prog_10_method_45_code 58 = .ok (.getfield 40, 3) := by decide +kernel
theorem d_M_votes_61 : decode prog_10_method_45_code 61 = .ok (.iload_n 2, 1) := by decide +kernel
theorem d_M_votes_62 : decode prog_10_method_45_code 62 = .ok (.iaload, 1) := by decide +kernel
theorem d_M_votes_63 : decode prog_10_method_45_code 63 = .ok (.iconst 0, 1) := by decide +kernel
theorem d_M_votes_64 : decode prog_10_method_45_code 64 = .ok (.iconst 0, 1) := by decide +kernel
theorem d_M_votes_65 : decode prog_10_method_45_code 65 = .ok (.iconst 0, 1) := by decide +kernel
theorem d_M_votes_66 : decode prog_10_method_45_code 66 = .ok (.aload_n 0, 1) := by decide +kernel
theorem d_M_votes_67 : decode prog_10_method_45_code 67 = .ok (.getfield 100, 3) := by decide +kernel
theorem d_M_votes_70 : decode prog_10_method_45_code 70 = .ok (.iconst 5, 1) := by decide +kernel
theorem d_M_votes_71 : decode prog_10_method_45_code 71 = .ok (.iaload, 1) := by decide +kernel
theorem d_M_votes_72 : decode prog_10_method_45_code 72 = .ok (.invokevirtual 223, 3) := by decide +kernel
theorem d_M_votes_75 : decode prog_10_method_45_code 75 = .ok (.return_, 1) := by decide +kernel
theorem d_M_votes_76 : decode prog_10_method_45_code 76 = .ok (.aload_n 0, 1) := by decide +kernel
theorem d_M_votes_77 : decode prog_10_method_45_code 77 = .ok (.iload_n 1, 1) := by decide +kernel
theorem d_M_votes_78 : decode prog_10_method_45_code 78 = .ok (.aload_n 0, 1) := by decide +kernel
theorem d_M_votes_79 : decode prog_10_method_45_code 79 = .ok (.getfield 100, 3) := by decide +kernel
theorem d_M_votes_82 : decode prog_10_method_45_code 82 = .ok (.iconst 5, 1) := by decide +kernel
theorem d_M_votes_83 : decode prog_10_method_45_code 83 = .ok (.iaload, 1) := by decide +kernel
theorem d_M_votes_84 : decode prog_10_method_45_code 84 = .ok (.iload_n 3, 1) := by decide +kernel
theorem d_M_votes_85 : decode prog_10_method_45_code 85 = .ok (.iload 4, 2) := by decide +kernel
theorem d_M_votes_87 : decode prog_10_method_45_code 87 = .ok (.ifCond .eq 12, 3) := by decide +kernel
theorem d_M_votes_90 : decode prog_10_method_45_code 90 = .ok (.aload_n 0, 1) := by decide +kernel
theorem d_M_votes_91 : decode prog_10_method_45_code 91 = .ok (.getfield 43, 3) := by decide +kernel
theorem d_M_votes_94 : decode prog_10_method_45_code 94 = .ok (.iload_n 2, 1) := by decide +kernel
theorem d_M_votes_95 : decode prog_10_method_45_code 95 = .ok (.iaload, 1) := by decide +kernel
theorem d_M_votes_96 : decode prog_10_method_45_code 96 = .ok (.goto 4, 3) := by decide +kernel
theorem d_M_votes_99 : decode prog_10_method_45_code 99 = .ok (.iload_n 3, 1) := by decide +kernel
theorem d_M_votes_100 : decode prog_10_method_45_code 100 = .ok (.iload 4, 2) := by decide +kernel
theorem d_M_votes_102 : decode prog_10_method_45_code 102 = .ok (.ifCond .eq 12, 3) := by decide +kernel
theorem d_M_votes_105 : decode prog_10_method_45_code 105 = .ok (.aload_n 0, 1) := by decide +kernel
theorem d_M_votes_106 : decode prog_10_method_45_code 106 = .ok (.getfield 46, 3) := by decide +kernel
theorem d_M_votes_109 : decode prog_10_method_45_code 109 = .ok (.iload_n 2, 1) := by decide +kernel
theorem d_M_votes_110 : decode prog_10_method_45_code 110 = .ok (.iaload, 1) := by decide +kernel
theorem d_M_votes_111 : decode prog_10_method_45_code 111 = .ok (.goto 10, 3) := by decide +kernel
theorem d_M_votes_114 : decode prog_10_method_45_code 114 = .ok (.aload_n 0, 1) := by decide +kernel
theorem d_M_votes_115 : decode prog_10_method_45_code 115 = .ok (.getfield 100, 3) := by decide +kernel
theorem d_M_votes_118 : decode prog_10_method_45_code 118 = .ok (.bipush 7, 2) := by decide +kernel
theorem d_M_votes_120 : decode prog_10_method_45_code 120 = .ok (.iaload, 1) := by decide +kernel
theorem d_M_votes_121 : decode prog_10_method_45_code 121 = .ok (.invokevirtual 153, 3) := by decide +kernel
theorem d_M_votes_124 : decode prog_10_method_45_code 124 = .ok (.aload_n 0, 1) := by decide +kernel
theorem d_M_votes_125 : decode prog_10_method_45_code 125 = .ok (.iload_n 1, 1) := by decide +kernel
theorem d_M_votes_126 : decode prog_10_method_45_code 126 = .ok (.invokevirtual 111, 3) := by decide +kernel
theorem d_M_votes_129 : decode prog_10_method_45_code 129 = .ok (.ifCond .ne 4, 3) := by decide +kernel
theorem d_M_votes_132 : decode prog_10_method_45_code 132 = .ok (.return_, 1) := by decide +kernel
theorem d_M_votes_133 : decode prog_10_method_45_code 133 = .ok (.iload 4, 2) := by decide +kernel
theorem d_M_votes_135 : decode prog_10_method_45_code 135 = .ok (.ifCond .eq 33, 3) := by decide +kernel
theorem d_M_votes_138 : decode prog_10_method_45_code 138 = .ok (.aload_n 0, 1) := by decide +kernel
theorem d_M_votes_139 : decode prog_10_method_45_code 139 = .ok (.bipush 6, 2) := by decide +kernel
theorem d_M_votes_141 : decode prog_10_method_45_code 141 = .ok (.iload_n 1, 1) := by decide +kernel
theorem d_M_votes_142 : decode prog_10_method_45_code 142 = .ok (.aload_n 0, 1) := by decide +kernel
theorem d_M_votes_143 : decode prog_10_method_45_code 143 = .ok (.getfield 43, 3) := by decide +kernel
theorem d_M_votes_146 : decode prog_10_method_45_code 146 = .ok (.iload_n 2, 1) := by decide +kernel
theorem d_M_votes_147 : decode prog_10_method_45_code 147 = .ok (.iaload, 1) := by decide +kernel
theorem d_M_votes_148 : decode prog_10_method_45_code 148 = .ok (.aload_n 0, 1) := by decide +kernel
theorem d_M_votes_149 : decode prog_10_method_45_code 149 = .ok (.getfield 46, 3) := by decide +kernel
theorem d_M_votes_152 : decode prog_10_method_45_code 152 = .ok (.iload_n 2, 1) := by decide +kernel
theorem d_M_votes_153 : decode prog_10_method_45_code 153 = .ok (.iaload, 1) := by decide +kernel
theorem d_M_votes_154 : decode prog_10_method_45_code 154 = .ok (.iconst 0, 1) := by decide +kernel
theorem d_M_votes_155 : decode prog_10_method_45_code 155 = .ok (.iconst 0, 1) := by decide +kernel
theorem d_M_votes_156 : decode prog_10_method_45_code 156 = .ok (.aload_n 0, 1) := by decide +kernel
theorem d_M_votes_157 : decode prog_10_method_45_code 157 = .ok (.getfield 100, 3) := by decide +kernel
theorem d_M_votes_160 : decode prog_10_method_45_code 160 = .ok (.iconst 5, 1) := by decide +kernel
theorem d_M_votes_161 : decode prog_10_method_45_code 161 = .ok (.iaload, 1) := by decide +kernel
theorem d_M_votes_162 : decode prog_10_method_45_code 162 = .ok (.invokevirtual 223, 3) := by decide +kernel
theorem d_M_votes_165 : decode prog_10_method_45_code 165 = .ok (.goto 20, 3) := by decide +kernel
theorem d_M_votes_168 : decode prog_10_method_45_code 168 = .ok (.aload_n 0, 1) := by decide +kernel
theorem d_M_votes_169 : decode prog_10_method_45_code 169 = .ok (.bipush 8, 2) := by decide +kernel
theorem d_M_votes_171 : decode prog_10_method_45_code 171 = .ok (.iload_n 1, 1) := by decide +kernel
theorem d_M_votes_172 : decode prog_10_method_45_code 172 = .ok (.iconst 0, 1) := by decide +kernel
theorem d_M_votes_173 : decode prog_10_method_45_code 173 = .ok (.iconst 0, 1) := by decide +kernel
theorem d_M_votes_174 : decode prog_10_method_45_code 174 = .ok (.iconst 0, 1) := by decide +kernel
theorem d_M_votes_175 : decode prog_10_method_45_code 175 = .ok (.iconst 0, 1) := by decide +kernel
theorem d_M_votes_176 : decode prog_10_method_45_code 176 = .ok (.aload_n 0, 1) := by decide +kernel
theorem d_M_votes_177 : decode prog_10_method_45_code 177 = .ok (.getfield 100, 3) := by decide +kernel
theorem d_M_votes_180 : decode prog_10_method_45_code 180 = .ok (.iconst 5, 1) := by decide +kernel
theorem d_M_votes_181 : decode prog_10_method_45_code 181 = .ok (.iaload, 1) := by decide +kernel
theorem d_M_votes_182 : decode prog_10_method_45_code 182 = .ok (.invokevirtual 223, 3) := by decide +kernel
theorem d_M_votes_185 : decode prog_10_method_45_code 185 = .ok (.return_, 1) := by decide +kernel
theorem d_M_answers_0 : decode prog_10_method_46_code 0 = .ok (.aload_n 0, 1) := by decide +kernel
theorem d_M_answers_1 : decode prog_10_method_46_code 1 = .ok (.getfield 100, 3) := by decide +kernel
theorem d_M_answers_4 : decode prog_10_method_46_code 4 = .ok (.iconst 0, 1) := by decide +kernel
theorem d_M_answers_5 : decode prog_10_method_46_code 5 = .ok (.iaload, 1) := by decide +kernel
theorem d_M_answers_6 : decode prog_10_method_46_code 6 = .ok (.tableswitch 183 2 11 #[67, 183, 183, 183, 102, 183, 183, 54, 183, 124], 54) := by decide +kernel
theorem d_M_answers_60 : decode prog_10_method_46_code 60 = .ok (.aload_n 0, 1) := by decide +kernel
theorem d_M_answers_61 : decode prog_10_method_46_code 61 = .ok (.iload_n 1, 1) := by decide +kernel
theorem d_M_answers_62 : decode prog_10_method_46_code 62 = .ok (.aload_n 0, 1) := by decide +kernel
theorem d_M_answers_63 : decode prog_10_method_46_code 63 = .ok (.getfield 100, 3) := by decide +kernel
theorem d_M_answers_66 : decode prog_10_method_46_code 66 = .ok (.bipush 6, 2) := by decide +kernel
theorem d_M_answers_68 : decode prog_10_method_46_code 68 = .ok (.iaload, 1) := by decide +kernel
theorem d_M_answers_69 : decode prog_10_method_46_code 69 = .ok (.invokevirtual 160, 3) := by decide +kernel
theorem d_M_answers_72 : decode prog_10_method_46_code 72 = .ok (.return_, 1) := by decide +kernel
theorem d_M_answers_73 : decode prog_10_method_46_code 73 = .ok (.aload_n 0, 1) := by decide +kernel
theorem d_M_answers_74 : decode prog_10_method_46_code 74 = .ok (.iload_n 1, 1) := by decide +kernel
theorem d_M_answers_75 : decode prog_10_method_46_code 75 = .ok (.aload_n 0, 1) := by decide +kernel
theorem d_M_answers_76 : decode prog_10_method_46_code 76 = .ok (.getfield 58, 3) := by decide +kernel
theorem d_M_answers_79 : decode prog_10_method_46_code 79 = .ok (.iload_n 1, 1) := by decide +kernel
theorem d_M_answers_80 : decode prog_10_method_46_code 80 = .ok (.iaload, 1) := by decide +kernel
theorem d_M_answers_81 : decode prog_10_method_46_code 81 = .ok (.aload_n 0, 1) := by decide +kernel
theorem d_M_answers_82 : decode prog_10_method_46_code 82 = .ok (.getfield 100, 3) := by decide +kernel
theorem d_M_answers_85 : decode prog_10_method_46_code 85 = .ok (.bipush 6, 2) := by decide +kernel
theorem d_M_answers_87 : decode prog_10_method_46_code 87 = .ok (.iaload, 1) := by decide +kernel
theorem d_M_answers_88 : decode prog_10_method_46_code 88 = .ok (.aload_n 0, 1) := by decide +kernel
theorem d_M_answers_89 : decode prog_10_method_46_code 89 = .ok (.getfield 100, 3) := by decide +kernel
theorem d_M_answers_92 : decode prog_10_method_46_code 92 = .ok (.bipush 7, 2) := by decide +kernel
theorem d_M_answers_94 : decode prog_10_method_46_code 94 = .ok (.iaload, 1) := by decide +kernel
theorem d_M_answers_95 : decode prog_10_method_46_code 95 = .ok (.aload_n 0, 1) := by decide +kernel
theorem d_M_answers_96 : decode prog_10_method_46_code 96 = .ok (.getfield 100, 3) := by decide +kernel
theorem d_M_answers_99 : decode prog_10_method_46_code 99 = .ok (.bipush 8, 2) := by decide +kernel
theorem d_M_answers_101 : decode prog_10_method_46_code 101 = .ok (.iaload, 1) := by decide +kernel
theorem d_M_answers_102 : decode prog_10_method_46_code 102 = .ok (.invokevirtual 146, 3) := by decide +kernel
theorem d_M_answers_105 : decode prog_10_method_46_code 105 = .ok (.goto 84, 3) := by decide +kernel
theorem d_M_answers_108 : decode prog_10_method_46_code 108 = .ok (.aload_n 0, 1) := by decide +kernel
theorem d_M_answers_109 : decode prog_10_method_46_code 109 = .ok (.iload_n 1, 1) := by decide +kernel
theorem d_M_answers_110 : decode prog_10_method_46_code 110 = .ok (.aload_n 0, 1) := by decide +kernel
theorem d_M_answers_111 : decode prog_10_method_46_code 111 = .ok (.getfield 100, 3) := by decide +kernel
theorem d_M_answers_114 : decode prog_10_method_46_code 114 = .ok (.bipush 6, 2) := by decide +kernel
theorem d_M_answers_116 : decode prog_10_method_46_code 116 = .ok (.iaload, 1) := by decide +kernel
theorem d_M_answers_117 : decode prog_10_method_46_code 117 = .ok (.aload_n 0, 1) := by decide +kernel
theorem d_M_answers_118 : decode prog_10_method_46_code 118 = .ok (.getfield 100, 3) := by decide +kernel
theorem d_M_answers_121 : decode prog_10_method_46_code 121 = .ok (.bipush 7, 2) := by decide +kernel
theorem d_M_answers_123 : decode prog_10_method_46_code 123 = .ok (.iaload, 1) := by decide +kernel
theorem d_M_answers_124 : decode prog_10_method_46_code 124 = .ok (.invokevirtual 156, 3) := by decide +kernel
theorem d_M_answers_127 : decode prog_10_method_46_code 127 = .ok (.goto 62, 3) := by decide +kernel
theorem d_M_answers_130 : decode prog_10_method_46_code 130 = .ok (.iconst 0, 1) := by decide +kernel
theorem d_M_answers_131 : decode prog_10_method_46_code 131 = .ok (.istore_n 2, 1) := by decide +kernel
theorem d_M_answers_132 : decode prog_10_method_46_code 132 = .ok (.iload_n 2, 1) := by decide +kernel
theorem d_M_answers_133 : decode prog_10_method_46_code 133 = .ok (.iconst 4, 1) := by decide +kernel
theorem d_M_answers_134 : decode prog_10_method_46_code 134 = .ok (.if_icmp .ge 52, 3) := by decide +kernel
theorem d_M_answers_137 : decode prog_10_method_46_code 137 = .ok (.aload_n 0, 1) := by decide +kernel
theorem d_M_answers_138 : decode prog_10_method_46_code 138 = .ok (.iload_n 1, 1) := by decide +kernel
theorem d_M_answers_139 : decode prog_10_method_46_code 139 = .ok (.iload_n 2, 1) := by decide +kernel
theorem d_M_answers_140 : decode prog_10_method_46_code 140 = .ok (.aload_n 0, 1) := by decide +kernel
theorem d_M_answers_141 : decode prog_10_method_46_code 141 = .ok (.getfield 100, 3) := by decide +kernel
theorem d_M_answers_144 : decode prog_10_method_46_code 144 = .ok (.bipush 41, 2) := by decide +kernel
theorem d_M_answers_146 : decode prog_10_method_46_code 146 = .ok (.iconst 3, 1) := by decide +kernel
theorem d_M_answers_147 : decode prog_10_method_46_code 147 = .ok (.iload_n 2, 1) := by decide +kernel
theorem d_M_answers_148 : decode prog_10_method_46_code 148 = .ok (.imul, 1) := by decide +kernel
theorem d_M_answers_149 : decode prog_10_method_46_code 149 = .ok (.iadd, 1) := by decide +kernel
theorem d_M_answers_150 : decode prog_10_method_46_code 150 = .ok (.iaload, 1) := by decide +kernel
theorem d_M_answers_151 : decode prog_10_method_46_code 151 = .ok (.aload_n 0, 1) := by decide +kernel
theorem d_M_answers_152 : decode prog_10_method_46_code 152 = .ok (.getfield 100, 3) := by decide +kernel
theorem d_M_answers_155 : decode prog_10_method_46_code 155 = .ok (.bipush 41, 2) := by decide +kernel
theorem d_M_answers_157 : decode prog_10_method_46_code 157 = .ok (.iconst 3, 1) := by decide +kernel
theorem d_M_answers_158 : decode prog_10_method_46_code 158 = .ok (.iload_n 2, 1) := by decide +kernel
theorem d_M_answers_159 : decode prog_10_method_46_code 159 = .ok (.imul, 1) := by decide +kernel
theorem d_M_answers_160 : decode prog_10_method_46_code 160 = .ok (.iadd, 1) := by decide +kernel
theorem d_M_answers_161 : decode prog_10_method_46_code 161 = .ok (.iconst 1, 1) := by decide +kernel
theorem d_M_answers_162 : decode prog_10_method_46_code 162 = .ok (.iadd, 1) := by decide +kernel
theorem d_M_answers_163 : decode prog_10_method_46_code 163 = .ok (.iaload, 1) := by decide +kernel
theorem d_M_answers_164 : decode prog_10_method_46_code 164 = .ok (.aload_n 0, 1) := by decide +kernel
theorem d_M_answers_165 : decode prog_10_method_46_code 165 = .ok (.getfield 100, 3) := by decide +kernel
theorem d_M_answers_168 : decode prog_10_method_46_code 168 = .ok (.bipush 41, 2) := by decide +kernel
theorem d_M_answers_170 : decode prog_10_method_46_code 170 = .ok (.iconst 3, 1) := by decide +kernel
theorem d_M_answers_171 : decode prog_10_method_46_code 171 = .ok (.iload_n 2, 1) := by decide +kernel
theorem d_M_answers_172 : decode prog_10_method_46_code 172 = .ok (.imul, 1) := by decide +kernel
theorem d_M_answers_173 : decode prog_10_method_46_code 173 = .ok (.iadd, 1) := by decide +kernel
theorem d_M_answers_174 : decode prog_10_method_46_code 174 = .ok (.iconst 2, 1) := by decide +kernel
theorem d_M_answers_175 : decode prog_10_method_46_code 175 = .ok (.iadd, 1) := by decide +kernel
theorem d_M_answers_176 : decode prog_10_method_46_code 176 = .ok (.iaload, 1) := by decide +kernel
theorem d_M_answers_177 : decode prog_10_method_46_code 177 = .ok (.invokevirtual 146, 3) := by decide +kernel
theorem d_M_answers_180 : decode prog_10_method_46_code 180 = .ok (.iinc 2 1, 3) := by decide +kernel
theorem d_M_answers_183 : decode prog_10_method_46_code 183 = .ok (.goto (-51), 3) := by decide +kernel
theorem d_M_answers_186 : decode prog_10_method_46_code 186 = .ok (.goto 3, 3) := by decide +kernel
theorem d_M_answers_189 : decode prog_10_method_46_code 189 = .ok (.aload_n 0, 1) := by decide +kernel
theorem d_M_answers_190 : decode prog_10_method_46_code 190 = .ok (.iload_n 1, 1) := by decide +kernel
theorem d_M_answers_191 : decode prog_10_method_46_code 191 = .ok (.invokevirtual 242, 3) := by decide +kernel
theorem d_M_answers_194 : decode prog_10_method_46_code 194 = .ok (.return_, 1) := by decide +kernel
theorem d_M_isFree_0 : decode prog_10_method_47_code 0 = .ok (.iload_n 1, 1) := by decide +kernel
theorem d_M_isFree_1 : decode prog_10_method_47_code 1 = .ok (.invokestatic 245, 3) := by decide +kernel
theorem d_M_isFree_4 : decode prog_10_method_47_code 4 = .ok (.ifCond .eq 32, 3) := by decide +kernel
theorem d_M_isFree_7 : decode prog_10_method_47_code 7 = .ok (.aload_n 0, 1) := by decide +kernel
theorem d_M_isFree_8 : decode prog_10_method_47_code 8 = .ok (.iload_n 1, 1) := by decide +kernel
theorem d_M_isFree_9 : decode prog_10_method_47_code 9 = .ok (.invokevirtual 111, 3) := by decide +kernel
theorem d_M_isFree_12 : decode prog_10_method_47_code 12 = .ok (.ifCond .eq 24, 3) := by decide +kernel
theorem d_M_isFree_15 : decode prog_10_method_47_code 15 = .ok (.aload_n 0, 1) := by decide +kernel
theorem d_M_isFree_16 : decode prog_10_method_47_code 16 = .ok (.iload_n 1, 1) := by decide +kernel
theorem d_M_isFree_17 : decode prog_10_method_47_code 17 = .ok (.invokevirtual 233, 3) := by decide +kernel
theorem d_M_isFree_20 : decode prog_10_method_47_code 20 = .ok (.ifCond .lt 16, 3) := by decide +kernel
theorem d_M_isFree_23 : decode prog_10_method_47_code 23 = .ok (.aload_n 0, 1) := by decide +kernel
theorem d_M_isFree_24 : decode prog_10_method_47_code 24 = .ok (.getfield 55, 3) := by decide +kernel
theorem d_M_isFree_27 : decode prog_10_method_47_code 27 = .ok (.iload_n 1, 1) := by decide +kernel
theorem d_M_isFree_28 : decode prog_10_method_47_code 28 = .ok (.iaload, 1) := by decide +kernel
theorem d_M_isFree_29 : decode prog_10_method_47_code 29 = .ok (.ifCond .ne 7, 3) := by decide +kernel
theorem d_M_isFree_32 : decode prog_10_method_47_code 32 = .ok (.iconst 1, 1) := by decide +kernel
theorem d_M_isFree_33 : decode prog_10_method_47_code 33 = .ok (.goto 4, 3) := by decide +kernel
theorem d_M_isFree_36 : decode prog_10_method_47_code 36 = .ok (.iconst 0, 1) := by decide +kernel
theorem d_M_isFree_37 : decode prog_10_method_47_code 37 = .ok (.ireturn, 1) := by decide +kernel
theorem d_M_starts_0 : decode prog_10_method_48_code 0 = .ok (.aload_n 0, 1) := by decide +kernel
theorem d_M_starts_1 : decode prog_10_method_48_code 1 = .ok (.dup, 1) := by decide +kernel
theorem d_M_starts_2 : decode prog_10_method_48_code 2 = .ok (.getfield 248, 3) := by decide +kernel
theorem d_M_starts_5 : decode prog_10_method_48_code 5 = .ok (.iconst 1, 1) := by decide +kernel
theorem d_M_starts_6 : decode prog_10_method_48_code 6 = .ok (.iadd, 1) := by decide +kernel
theorem d_M_starts_7 : decode prog_10_method_48_code 7 = .ok (.putfield 248, 3) := by decide +kernel
theorem d_M_starts_10 : decode prog_10_method_48_code 10 = .ok (.aload_n 0, 1) := by decide +kernel
theorem d_M_starts_11 : decode prog_10_method_48_code 11 = .ok (.getfield 248, 3) := by decide +kernel
theorem d_M_starts_14 : decode prog_10_method_48_code 14 = .ok (.istore 5, 2) := by decide +kernel
theorem d_M_starts_16 : decode prog_10_method_48_code 16 = .ok (.aload_n 0, 1) := by decide +kernel
theorem d_M_starts_17 : decode prog_10_method_48_code 17 = .ok (.getfield 49, 3) := by decide +kernel
theorem d_M_starts_20 : decode prog_10_method_48_code 20 = .ok (.iload_n 1, 1) := by decide +kernel
theorem d_M_starts_21 : decode prog_10_method_48_code 21 = .ok (.iload 5, 2) := by decide +kernel
theorem d_M_starts_23 : decode prog_10_method_48_code 23 = .ok (.iastore, 1) := by decide +kernel
theorem d_M_starts_24 : decode prog_10_method_48_code 24 = .ok (.aload_n 0, 1) := by decide +kernel
theorem d_M_starts_25 : decode prog_10_method_48_code 25 = .ok (.getfield 52, 3) := by decide +kernel
theorem d_M_starts_28 : decode prog_10_method_48_code 28 = .ok (.iload_n 1, 1) := by decide +kernel
theorem d_M_starts_29 : decode prog_10_method_48_code 29 = .ok (.iload_n 2, 1) := by decide +kernel
theorem d_M_starts_30 : decode prog_10_method_48_code 30 = .ok (.iastore, 1) := by decide +kernel
theorem d_M_starts_31 : decode prog_10_method_48_code 31 = .ok (.aload_n 0, 1) := by decide +kernel
theorem d_M_starts_32 : decode prog_10_method_48_code 32 = .ok (.getfield 58, 3) := by decide +kernel
theorem d_M_starts_35 : decode prog_10_method_48_code 35 = .ok (.iload_n 1, 1) := by decide +kernel
theorem d_M_starts_36 : decode prog_10_method_48_code 36 = .ok (.iload_n 3, 1) := by decide +kernel
theorem d_M_starts_37 : decode prog_10_method_48_code 37 = .ok (.iastore, 1) := by decide +kernel
theorem d_M_starts_38 : decode prog_10_method_48_code 38 = .ok (.aload_n 0, 1) := by decide +kernel
theorem d_M_starts_39 : decode prog_10_method_48_code 39 = .ok (.getfield 70, 3) := by decide +kernel
theorem d_M_starts_42 : decode prog_10_method_48_code 42 = .ok (.iload_n 1, 1) := by decide +kernel
theorem d_M_starts_43 : decode prog_10_method_48_code 43 = .ok (.iload 4, 2) := by decide +kernel
theorem d_M_starts_45 : decode prog_10_method_48_code 45 = .ok (.iastore, 1) := by decide +kernel
theorem d_M_starts_46 : decode prog_10_method_48_code 46 = .ok (.aload_n 0, 1) := by decide +kernel
theorem d_M_starts_47 : decode prog_10_method_48_code 47 = .ok (.getfield 61, 3) := by decide +kernel
theorem d_M_starts_50 : decode prog_10_method_48_code 50 = .ok (.iload_n 1, 1) := by decide +kernel
theorem d_M_starts_51 : decode prog_10_method_48_code 51 = .ok (.iconst 0, 1) := by decide +kernel
theorem d_M_starts_52 : decode prog_10_method_48_code 52 = .ok (.iastore, 1) := by decide +kernel
theorem d_M_starts_53 : decode prog_10_method_48_code 53 = .ok (.aload_n 0, 1) := by decide +kernel
theorem d_M_starts_54 : decode prog_10_method_48_code 54 = .ok (.getfield 76, 3) := by decide +kernel
theorem d_M_starts_57 : decode prog_10_method_48_code 57 = .ok (.iload_n 1, 1) := by decide +kernel
theorem d_M_starts_58 : decode prog_10_method_48_code 58 = .ok (.iconst 0, 1) := by decide +kernel
theorem d_M_starts_59 : decode prog_10_method_48_code 59 = .ok (.iastore, 1) := by decide +kernel
theorem d_M_starts_60 : decode prog_10_method_48_code 60 = .ok (.aload_n 0, 1) := by decide +kernel
theorem d_M_starts_61 : decode prog_10_method_48_code 61 = .ok (.iload_n 1, 1) := by decide +kernel
theorem d_M_starts_62 : decode prog_10_method_48_code 62 = .ok (.iconst 1, 1) := by decide +kernel
theorem d_M_starts_63 : decode prog_10_method_48_code 63 = .ok (.invokevirtual 203, 3) := by decide +kernel
theorem d_M_starts_66 : decode prog_10_method_48_code 66 = .ok (.aload_n 0, 1) := by decide +kernel
theorem d_M_starts_67 : decode prog_10_method_48_code 67 = .ok (.iload_n 1, 1) := by decide +kernel
theorem d_M_starts_68 : decode prog_10_method_48_code 68 = .ok (.invokevirtual 216, 3) := by decide +kernel
theorem d_M_starts_71 : decode prog_10_method_48_code 71 = .ok (.aload_n 0, 1) := by decide +kernel
theorem d_M_starts_72 : decode prog_10_method_48_code 72 = .ok (.iload_n 1, 1) := by decide +kernel
theorem d_M_starts_73 : decode prog_10_method_48_code 73 = .ok (.invokevirtual 111, 3) := by decide +kernel
theorem d_M_starts_76 : decode prog_10_method_48_code 76 = .ok (.ifCond .eq 8, 3) := by decide +kernel
theorem d_M_starts_79 : decode prog_10_method_48_code 79 = .ok (.iload 5, 2) := by decide +kernel
theorem d_M_starts_81 : decode prog_10_method_48_code 81 = .ok (.goto 5, 3) := by decide +kernel
theorem d_M_starts_84 : decode prog_10_method_48_code 84 = .ok (.bipush (-9), 2) := by decide +kernel
theorem d_M_starts_86 : decode prog_10_method_48_code 86 = .ok (.ireturn, 1) := by decide +kernel
theorem d_M_read_0 : decode prog_10_method_49_code 0 = .ok (.aload_n 0, 1) := by decide +kernel
theorem d_M_read_1 : decode prog_10_method_49_code 1 = .ok (.iconst 0, 1) := by decide +kernel
theorem d_M_read_2 : decode prog_10_method_49_code 2 = .ok (.putfield 103, 3) := by decide +kernel
theorem d_M_read_5 : decode prog_10_method_49_code 5 = .ok (.aload_n 0, 1) := by decide +kernel
theorem d_M_read_6 : decode prog_10_method_49_code 6 = .ok (.iload_n 1, 1) := by decide +kernel
theorem d_M_read_7 : decode prog_10_method_49_code 7 = .ok (.invokevirtual 251, 3) := by decide +kernel
theorem d_M_read_10 : decode prog_10_method_49_code 10 = .ok (.ifCond .eq 12, 3) := by decide +kernel
theorem d_M_read_13 : decode prog_10_method_49_code 13 = .ok (.iload_n 2, 1) := by decide +kernel
theorem d_M_read_14 : decode prog_10_method_49_code 14 = .ok (.iconst 0, 1) := by decide +kernel
theorem d_M_read_15 : decode prog_10_method_49_code 15 = .ok (.iconst 3, 1) := by decide +kernel
theorem d_M_read_16 : decode prog_10_method_49_code 16 = .ok (.invokestatic 107, 3) := by decide +kernel
theorem d_M_read_19 : decode prog_10_method_49_code 19 = .ok (.ifCond .ne 7, 3) := by decide +kernel
theorem d_M_read_22 : decode prog_10_method_49_code 22 = .ok (.iconst (-1), 1) := by decide +kernel
theorem d_M_read_23 : decode prog_10_method_49_code 23 = .ok (.goto 11, 3) := by decide +kernel
theorem d_M_read_26 : decode prog_10_method_49_code 26 = .ok (.aload_n 0, 1) := by decide +kernel
theorem d_M_read_27 : decode prog_10_method_49_code 27 = .ok (.iload_n 1, 1) := by decide +kernel
theorem d_M_read_28 : decode prog_10_method_49_code 28 = .ok (.iconst 1, 1) := by decide +kernel
theorem d_M_read_29 : decode prog_10_method_49_code 29 = .ok (.iload_n 2, 1) := by decide +kernel
theorem d_M_read_30 : decode prog_10_method_49_code 30 = .ok (.iconst 0, 1) := by decide +kernel
theorem d_M_read_31 : decode prog_10_method_49_code 31 = .ok (.invokevirtual 254, 3) := by decide +kernel
theorem d_M_read_34 : decode prog_10_method_49_code 34 = .ok (.ireturn, 1) := by decide +kernel
theorem d_M_write_0 : decode prog_10_method_50_code 0 = .ok (.aload_n 0, 1) := by decide +kernel
theorem d_M_write_1 : decode prog_10_method_50_code 1 = .ok (.iconst 0, 1) := by decide +kernel
theorem d_M_write_2 : decode prog_10_method_50_code 2 = .ok (.putfield 103, 3) := by decide +kernel
theorem d_M_write_5 : decode prog_10_method_50_code 5 = .ok (.aload_n 0, 1) := by decide +kernel
theorem d_M_write_6 : decode prog_10_method_50_code 6 = .ok (.iload_n 1, 1) := by decide +kernel
theorem d_M_write_7 : decode prog_10_method_50_code 7 = .ok (.invokevirtual 251, 3) := by decide +kernel
theorem d_M_write_10 : decode prog_10_method_50_code 10 = .ok (.ifCond .eq 12, 3) := by decide +kernel
theorem d_M_write_13 : decode prog_10_method_50_code 13 = .ok (.iload_n 2, 1) := by decide +kernel
theorem d_M_write_14 : decode prog_10_method_50_code 14 = .ok (.iconst 0, 1) := by decide +kernel
theorem d_M_write_15 : decode prog_10_method_50_code 15 = .ok (.iconst 3, 1) := by decide +kernel
theorem d_M_write_16 : decode prog_10_method_50_code 16 = .ok (.invokestatic 107, 3) := by decide +kernel
theorem d_M_write_19 : decode prog_10_method_50_code 19 = .ok (.ifCond .ne 7, 3) := by decide +kernel
theorem d_M_write_22 : decode prog_10_method_50_code 22 = .ok (.iconst (-1), 1) := by decide +kernel
theorem d_M_write_23 : decode prog_10_method_50_code 23 = .ok (.goto 11, 3) := by decide +kernel
theorem d_M_write_26 : decode prog_10_method_50_code 26 = .ok (.aload_n 0, 1) := by decide +kernel
theorem d_M_write_27 : decode prog_10_method_50_code 27 = .ok (.iload_n 1, 1) := by decide +kernel
theorem d_M_write_28 : decode prog_10_method_50_code 28 = .ok (.iconst 2, 1) := by decide +kernel
theorem d_M_write_29 : decode prog_10_method_50_code 29 = .ok (.iload_n 2, 1) := by decide +kernel
theorem d_M_write_30 : decode prog_10_method_50_code 30 = .ok (.iload_n 3, 1) := by decide +kernel
theorem d_M_write_31 : decode prog_10_method_50_code 31 = .ok (.invokevirtual 254, 3) := by decide +kernel
theorem d_M_write_34 : decode prog_10_method_50_code 34 = .ok (.ireturn, 1) := by decide +kernel
theorem d_M_propose_0 : decode prog_10_method_51_code 0 = .ok (.aload_n 0, 1) := by decide +kernel
theorem d_M_propose_1 : decode prog_10_method_51_code 1 = .ok (.iconst 0, 1) := by decide +kernel
theorem d_M_propose_2 : decode prog_10_method_51_code 2 = .ok (.putfield 103, 3) := by decide +kernel
theorem d_M_propose_5 : decode prog_10_method_51_code 5 = .ok (.iload_n 2, 1) := by decide +kernel
theorem d_M_propose_6 : decode prog_10_method_51_code 6 = .ok (.iconst 1, 1) := by decide +kernel
theorem d_M_propose_7 : decode prog_10_method_51_code 7 = .ok (.sipush 255, 3) := by decide +kernel
theorem d_M_propose_10 : decode prog_10_method_51_code 10 = .ok (.invokestatic 107, 3) := by decide +kernel
theorem d_M_propose_13 : decode prog_10_method_51_code 13 = .ok (.ifCond .eq 10, 3) := by decide +kernel
theorem d_M_propose_16 : decode prog_10_method_51_code 16 = .ok (.iload_n 2, 1) := by decide +kernel
theorem d_M_propose_17 : decode prog_10_method_51_code 17 = .ok (.invokestatic 185, 3) := by decide +kernel
theorem d_M_propose_20 : decode prog_10_method_51_code 20 = .ok (.goto 4, 3) := by decide +kernel
theorem d_M_propose_23 : decode prog_10_method_51_code 23 = .ok (.iconst 0, 1) := by decide +kernel
theorem d_M_propose_24 : decode prog_10_method_51_code 24 = .ok (.istore 5, 2) := by decide +kernel
theorem d_M_propose_26 : decode prog_10_method_51_code 26 = .ok (.aload_n 0, 1) := by decide +kernel
theorem d_M_propose_27 : decode prog_10_method_51_code 27 = .ok (.iload_n 1, 1) := by decide +kernel
theorem d_M_propose_28 : decode prog_10_method_51_code 28 = .ok (.invokevirtual 251, 3) := by decide +kernel
theorem d_M_propose_31 : decode prog_10_method_51_code 31 = .ok (.ifCond .eq 43, 3) := by decide +kernel
theorem d_M_propose_34 : decode prog_10_method_51_code 34 = .ok (.iload_n 3, 1) := by decide +kernel
theorem d_M_propose_35 : decode prog_10_method_51_code 35 = .ok (.iconst 1, 1) := by decide +kernel
theorem d_M_propose_36 : decode prog_10_method_51_code 36 = .ok (.iload 5, 2) := by decide +kernel
theorem d_M_propose_38 : decode prog_10_method_51_code 38 = .ok (.invokestatic 107, 3) := by decide +kernel
theorem d_M_propose_41 : decode prog_10_method_51_code 41 = .ok (.ifCond .eq 33, 3) := by decide +kernel
theorem d_M_propose_44 : decode prog_10_method_51_code 44 = .ok (.iload 4, 2) := by decide +kernel
theorem d_M_propose_46 : decode prog_10_method_51_code 46 = .ok (.iconst 1, 1) := by decide +kernel
theorem d_M_propose_47 : decode prog_10_method_51_code 47 = .ok (.iload 5, 2) := by decide +kernel
theorem d_M_propose_49 : decode prog_10_method_51_code 49 = .ok (.invokestatic 107, 3) := by decide +kernel
theorem d_M_propose_52 : decode prog_10_method_51_code 52 = .ok (.ifCond .eq 22, 3) := by decide +kernel
theorem d_M_propose_55 : decode prog_10_method_51_code 55 = .ok (.iload_n 3, 1) := by decide +kernel
theorem d_M_propose_56 : decode prog_10_method_51_code 56 = .ok (.iload 4, 2) := by decide +kernel
theorem d_M_propose_58 : decode prog_10_method_51_code 58 = .ok (.iadd, 1) := by decide +kernel
theorem d_M_propose_59 : decode prog_10_method_51_code 59 = .ok (.iload 5, 2) := by decide +kernel
theorem d_M_propose_61 : decode prog_10_method_51_code 61 = .ok (.if_icmp .le 13, 3) := by decide +kernel
theorem d_M_propose_64 : decode prog_10_method_51_code 64 = .ok (.aload_n 0, 1) := by decide +kernel
theorem d_M_propose_65 : decode prog_10_method_51_code 65 = .ok (.iload_n 1, 1) := by decide +kernel
theorem d_M_propose_66 : decode prog_10_method_51_code 66 = .ok (.invokevirtual 233, 3) := by decide +kernel
theorem d_M_propose_69 : decode prog_10_method_51_code 69 = .ok (.bipush 15, 2) := by decide +kernel
theorem d_M_propose_71 : decode prog_10_method_51_code 71 = .ok (.if_icmp .ne 5, 3) := by decide +kernel
theorem d_M_propose_74 : decode prog_10_method_51_code 74 = .ok (.iconst (-1), 1) := by decide +kernel
theorem d_M_propose_75 : decode prog_10_method_51_code 75 = .ok (.ireturn, 1) := by decide +kernel
theorem d_M_propose_76 : decode prog_10_method_51_code 76 = .ok (.aload_n 0, 1) := by decide +kernel
theorem d_M_propose_77 : decode prog_10_method_51_code 77 = .ok (.getfield 79, 3) := by decide +kernel
theorem d_M_propose_80 : decode prog_10_method_51_code 80 = .ok (.iload_n 1, 1) := by decide +kernel
theorem d_M_propose_81 : decode prog_10_method_51_code 81 = .ok (.aload_n 0, 1) := by decide +kernel
theorem d_M_propose_82 : decode prog_10_method_51_code 82 = .ok (.iload_n 1, 1) := by decide +kernel
theorem d_M_propose_83 : decode prog_10_method_51_code 83 = .ok (.invokevirtual 233, 3) := by decide +kernel
theorem d_M_propose_86 : decode prog_10_method_51_code 86 = .ok (.iastore, 1) := by decide +kernel
theorem d_M_propose_87 : decode prog_10_method_51_code 87 = .ok (.aload_n 0, 1) := by decide +kernel
theorem d_M_propose_88 : decode prog_10_method_51_code 88 = .ok (.iload_n 1, 1) := by decide +kernel
theorem d_M_propose_89 : decode prog_10_method_51_code 89 = .ok (.iconst 3, 1) := by decide +kernel
theorem d_M_propose_90 : decode prog_10_method_51_code 90 = .ok (.aload_n 0, 1) := by decide +kernel
theorem d_M_propose_91 : decode prog_10_method_51_code 91 = .ok (.getfield 79, 3) := by decide +kernel
theorem d_M_propose_94 : decode prog_10_method_51_code 94 = .ok (.iload_n 1, 1) := by decide +kernel
theorem d_M_propose_95 : decode prog_10_method_51_code 95 = .ok (.iaload, 1) := by decide +kernel
theorem d_M_propose_96 : decode prog_10_method_51_code 96 = .ok (.iconst 1, 1) := by decide +kernel
theorem d_M_propose_97 : decode prog_10_method_51_code 97 = .ok (.iadd, 1) := by decide +kernel
theorem d_M_propose_98 : decode prog_10_method_51_code 98 = .ok (.iload_n 2, 1) := by decide +kernel
theorem d_M_propose_99 : decode prog_10_method_51_code 99 = .ok (.sipush 256, 3) := by decide +kernel
theorem d_M_propose_102 : decode prog_10_method_51_code 102 = .ok (.iload_n 3, 1) := by decide +kernel
theorem d_M_propose_103 : decode prog_10_method_51_code 103 = .ok (.imul, 1) := by decide +kernel
theorem d_M_propose_104 : decode prog_10_method_51_code 104 = .ok (.iadd, 1) := by decide +kernel
theorem d_M_propose_105 : decode prog_10_method_51_code 105 = .ok (.sipush 4096, 3) := by decide +kernel
theorem d_M_propose_108 : decode prog_10_method_51_code 108 = .ok (.iload 4, 2) := by decide +kernel
theorem d_M_propose_110 : decode prog_10_method_51_code 110 = .ok (.imul, 1) := by decide +kernel
theorem d_M_propose_111 : decode prog_10_method_51_code 111 = .ok (.iadd, 1) := by decide +kernel
theorem d_M_propose_112 : decode prog_10_method_51_code 112 = .ok (.invokevirtual 254, 3) := by decide +kernel
theorem d_M_propose_115 : decode prog_10_method_51_code 115 = .ok (.ireturn, 1) := by decide +kernel
theorem d_M_retire_0 : decode prog_10_method_52_code 0 = .ok (.aload_n 0, 1) := by decide +kernel
theorem d_M_retire_1 : decode prog_10_method_52_code 1 = .ok (.iconst 0, 1) := by decide +kernel
theorem d_M_retire_2 : decode prog_10_method_52_code 2 = .ok (.putfield 103, 3) := by decide +kernel
theorem d_M_retire_5 : decode prog_10_method_52_code 5 = .ok (.aload_n 0, 1) := by decide +kernel
theorem d_M_retire_6 : decode prog_10_method_52_code 6 = .ok (.iload_n 1, 1) := by decide +kernel
theorem d_M_retire_7 : decode prog_10_method_52_code 7 = .ok (.invokevirtual 251, 3) := by decide +kernel
theorem d_M_retire_10 : decode prog_10_method_52_code 10 = .ok (.ifCond .eq 16, 3) := by decide +kernel
theorem d_M_retire_13 : decode prog_10_method_52_code 13 = .ok (.aload_n 0, 1) := by decide +kernel
theorem d_M_retire_14 : decode prog_10_method_52_code 14 = .ok (.iload_n 1, 1) := by decide +kernel
theorem d_M_retire_15 : decode prog_10_method_52_code 15 = .ok (.invokevirtual 258, 3) := by decide +kernel
theorem d_M_retire_18 : decode prog_10_method_52_code 18 = .ok (.aload_n 0, 1) := by decide +kernel
theorem d_M_retire_19 : decode prog_10_method_52_code 19 = .ok (.iload_n 1, 1) := by decide +kernel
theorem d_M_retire_20 : decode prog_10_method_52_code 20 = .ok (.invokevirtual 233, 3) := by decide +kernel
theorem d_M_retire_23 : decode prog_10_method_52_code 23 = .ok (.if_icmp .ne 5, 3) := by decide +kernel
theorem d_M_retire_26 : decode prog_10_method_52_code 26 = .ok (.iconst (-1), 1) := by decide +kernel
theorem d_M_retire_27 : decode prog_10_method_52_code 27 = .ok (.ireturn, 1) := by decide +kernel
theorem d_M_retire_28 : decode prog_10_method_52_code 28 = .ok (.aload_n 0, 1) := by decide +kernel
theorem d_M_retire_29 : decode prog_10_method_52_code 29 = .ok (.getfield 73, 3) := by decide +kernel
theorem d_M_retire_32 : decode prog_10_method_52_code 32 = .ok (.iload_n 1, 1) := by decide +kernel
theorem d_M_retire_33 : decode prog_10_method_52_code 33 = .ok (.iconst 0, 1) := by decide +kernel
theorem d_M_retire_34 : decode prog_10_method_52_code 34 = .ok (.iastore, 1) := by decide +kernel
theorem d_M_retire_35 : decode prog_10_method_52_code 35 = .ok (.iconst 0, 1) := by decide +kernel
theorem d_M_retire_36 : decode prog_10_method_52_code 36 = .ok (.istore_n 2, 1) := by decide +kernel
theorem d_M_retire_37 : decode prog_10_method_52_code 37 = .ok (.iload_n 2, 1) := by decide +kernel
theorem d_M_retire_38 : decode prog_10_method_52_code 38 = .ok (.aload_n 0, 1) := by decide +kernel
theorem d_M_retire_39 : decode prog_10_method_52_code 39 = .ok (.iload_n 1, 1) := by decide +kernel
theorem d_M_retire_40 : decode prog_10_method_52_code 40 = .ok (.invokevirtual 233, 3) := by decide +kernel
theorem d_M_retire_43 : decode prog_10_method_52_code 43 = .ok (.if_icmp .ge 40, 3) := by decide +kernel
theorem d_M_retire_46 : decode prog_10_method_52_code 46 = .ok (.aload_n 0, 1) := by decide +kernel
theorem d_M_retire_47 : decode prog_10_method_52_code 47 = .ok (.getfield 73, 3) := by decide +kernel
theorem d_M_retire_50 : decode prog_10_method_52_code 50 = .ok (.iload_n 1, 1) := by decide +kernel
theorem d_M_retire_51 : decode prog_10_method_52_code 51 = .ok (.dup2, 1) := by decide +kernel
theorem d_M_retire_52 : decode prog_10_method_52_code 52 = .ok (.iaload, 1) := by decide +kernel
theorem d_M_retire_53 : decode prog_10_method_52_code 53 = .ok (.aload_n 0, 1) := by decide +kernel
theorem d_M_retire_54 : decode prog_10_method_52_code 54 = .ok (.getfield 34, 3) := by decide +kernel
theorem d_M_retire_57 : decode prog_10_method_52_code 57 = .ok (.bipush 16, 2) := by decide +kernel
theorem d_M_retire_59 : decode prog_10_method_52_code 59 = .ok (.iload_n 1, 1) := by decide +kernel
theorem d_M_retire_60 : decode prog_10_method_52_code 60 = .ok (.imul, 1) := by decide +kernel
theorem d_M_retire_61 : decode prog_10_method_52_code 61 = .ok (.iload_n 2, 1) := by decide +kernel
theorem d_M_retire_62 : decode prog_10_method_52_code 62 = .ok (.iadd, 1) := by decide +kernel
theorem d_M_retire_63 : decode prog_10_method_52_code 63 = .ok (.iaload, 1) := by decide +kernel
theorem d_M_retire_64 : decode prog_10_method_52_code 64 = .ok (.iconst 1, 1) := by decide +kernel
theorem d_M_retire_65 : decode prog_10_method_52_code 65 = .ok (.if_icmp .ne 9, 3) := by decide +kernel
theorem d_M_retire_68 : decode prog_10_method_52_code 68 = .ok (.iconst 1, 1) := by decide +kernel
theorem d_M_retire_69 : decode prog_10_method_52_code 69 = .ok (.iload_n 2, 1) := by decide +kernel
theorem d_M_retire_70 : decode prog_10_method_52_code 70 = .ok (.ishl, 1) := by decide +kernel
theorem d_M_retire_71 : decode prog_10_method_52_code 71 = .ok (.goto 4, 3) := by decide +kernel
theorem d_M_retire_74 : decode prog_10_method_52_code 74 = .ok (.iconst 0, 1) := by decide +kernel
theorem d_M_retire_75 : decode prog_10_method_52_code 75 = .ok (.ior, 1) := by decide +kernel
theorem d_M_retire_76 : decode prog_10_method_52_code 76 = .ok (.iastore, 1) := by decide +kernel
theorem d_M_retire_77 : decode prog_10_method_52_code 77 = .ok (.iinc 2 1, 3) := by decide +kernel
theorem d_M_retire_80 : decode prog_10_method_52_code 80 = .ok (.goto (-43), 3) := by decide +kernel
theorem d_M_retire_83 : decode prog_10_method_52_code 83 = .ok (.aload_n 0, 1) := by decide +kernel
theorem d_M_retire_84 : decode prog_10_method_52_code 84 = .ok (.iload_n 1, 1) := by decide +kernel
theorem d_M_retire_85 : decode prog_10_method_52_code 85 = .ok (.iconst 4, 1) := by decide +kernel
theorem d_M_retire_86 : decode prog_10_method_52_code 86 = .ok (.aload_n 0, 1) := by decide +kernel
theorem d_M_retire_87 : decode prog_10_method_52_code 87 = .ok (.iload_n 1, 1) := by decide +kernel
theorem d_M_retire_88 : decode prog_10_method_52_code 88 = .ok (.invokevirtual 233, 3) := by decide +kernel
theorem d_M_retire_91 : decode prog_10_method_52_code 91 = .ok (.iconst 0, 1) := by decide +kernel
theorem d_M_retire_92 : decode prog_10_method_52_code 92 = .ok (.invokevirtual 254, 3) := by decide +kernel
theorem d_M_retire_95 : decode prog_10_method_52_code 95 = .ok (.ireturn, 1) := by decide +kernel
theorem d_M_again_0 : decode prog_10_method_53_code 0 = .ok (.aload_n 0, 1) := by decide +kernel
theorem d_M_again_1 : decode prog_10_method_53_code 1 = .ok (.iconst 0, 1) := by decide +kernel
theorem d_M_again_2 : decode prog_10_method_53_code 2 = .ok (.putfield 103, 3) := by decide +kernel
theorem d_M_again_5 : decode prog_10_method_53_code 5 = .ok (.iload_n 1, 1) := by decide +kernel
theorem d_M_again_6 : decode prog_10_method_53_code 6 = .ok (.invokestatic 245, 3) := by decide +kernel
theorem d_M_again_9 : decode prog_10_method_53_code 9 = .ok (.ifCond .eq 20, 3) := by decide +kernel
theorem d_M_again_12 : decode prog_10_method_53_code 12 = .ok (.aload_n 0, 1) := by decide +kernel
theorem d_M_again_13 : decode prog_10_method_53_code 13 = .ok (.iload_n 1, 1) := by decide +kernel
theorem d_M_again_14 : decode prog_10_method_53_code 14 = .ok (.invokevirtual 111, 3) := by decide +kernel
theorem d_M_again_17 : decode prog_10_method_53_code 17 = .ok (.ifCond .eq 12, 3) := by decide +kernel
theorem d_M_again_20 : decode prog_10_method_53_code 20 = .ok (.aload_n 0, 1) := by decide +kernel
theorem d_M_again_21 : decode prog_10_method_53_code 21 = .ok (.getfield 55, 3) := by decide +kernel
theorem d_M_again_24 : decode prog_10_method_53_code 24 = .ok (.iload_n 1, 1) := by decide +kernel
theorem d_M_again_25 : decode prog_10_method_53_code 25 = .ok (.iaload, 1) := by decide +kernel
theorem d_M_again_26 : decode prog_10_method_53_code 26 = .ok (.ifCond .ne 5, 3) := by decide +kernel
theorem d_M_again_29 : decode prog_10_method_53_code 29 = .ok (.iconst (-1), 1) := by decide +kernel
theorem d_M_again_30 : decode prog_10_method_53_code 30 = .ok (.ireturn, 1) := by decide +kernel
theorem d_M_again_31 : decode prog_10_method_53_code 31 = .ok (.aload_n 0, 1) := by decide +kernel
theorem d_M_again_32 : decode prog_10_method_53_code 32 = .ok (.getfield 52, 3) := by decide +kernel
theorem d_M_again_35 : decode prog_10_method_53_code 35 = .ok (.iload_n 1, 1) := by decide +kernel
theorem d_M_again_36 : decode prog_10_method_53_code 36 = .ok (.iaload, 1) := by decide +kernel
theorem d_M_again_37 : decode prog_10_method_53_code 37 = .ok (.iconst 3, 1) := by decide +kernel
theorem d_M_again_38 : decode prog_10_method_53_code 38 = .ok (.if_icmp .ne 17, 3) := by decide +kernel
theorem d_M_again_41 : decode prog_10_method_53_code 41 = .ok (.aload_n 0, 1) := by decide +kernel
theorem d_M_again_42 : decode prog_10_method_53_code 42 = .ok (.iload_n 1, 1) := by decide +kernel
theorem d_M_again_43 : decode prog_10_method_53_code 43 = .ok (.iconst 1, 1) := by decide +kernel
theorem d_M_again_44 : decode prog_10_method_53_code 44 = .ok (.invokevirtual 203, 3) := by decide +kernel
theorem d_M_again_47 : decode prog_10_method_53_code 47 = .ok (.aload_n 0, 1) := by decide +kernel
theorem d_M_again_48 : decode prog_10_method_53_code 48 = .ok (.iload_n 1, 1) := by decide +kernel
theorem d_M_again_49 : decode prog_10_method_53_code 49 = .ok (.invokevirtual 216, 3) := by decide +kernel
theorem d_M_again_52 : decode prog_10_method_53_code 52 = .ok (.goto 68, 3) := by decide +kernel
theorem d_M_again_55 : decode prog_10_method_53_code 55 = .ok (.iconst 0, 1) := by decide +kernel
theorem d_M_again_56 : decode prog_10_method_53_code 56 = .ok (.istore_n 2, 1) := by decide +kernel
theorem d_M_again_57 : decode prog_10_method_53_code 57 = .ok (.iload_n 2, 1) := by decide +kernel
theorem d_M_again_58 : decode prog_10_method_53_code 58 = .ok (.bipush 8, 2) := by decide +kernel
theorem d_M_again_60 : decode prog_10_method_53_code 60 = .ok (.if_icmp .ge 60, 3) := by decide +kernel
theorem d_M_again_63 : decode prog_10_method_53_code 63 = .ok (.aload_n 0, 1) := by decide +kernel
theorem d_M_again_64 : decode prog_10_method_53_code 64 = .ok (.getfield 64, 3) := by decide +kernel
theorem d_M_again_67 : decode prog_10_method_53_code 67 = .ok (.iload_n 1, 1) := by decide +kernel
theorem d_M_again_68 : decode prog_10_method_53_code 68 = .ok (.iaload, 1) := by decide +kernel
theorem d_M_again_69 : decode prog_10_method_53_code 69 = .ok (.aload_n 0, 1) := by decide +kernel
theorem d_M_again_70 : decode prog_10_method_53_code 70 = .ok (.getfield 67, 3) := by decide +kernel
theorem d_M_again_73 : decode prog_10_method_53_code 73 = .ok (.iload_n 1, 1) := by decide +kernel
theorem d_M_again_74 : decode prog_10_method_53_code 74 = .ok (.iaload, 1) := by decide +kernel
theorem d_M_again_75 : decode prog_10_method_53_code 75 = .ok (.iconst (-1), 1) := by decide +kernel
theorem d_M_again_76 : decode prog_10_method_53_code 76 = .ok (.ixor, 1) := by decide +kernel
theorem d_M_again_77 : decode prog_10_method_53_code 77 = .ok (.iand, 1) := by decide +kernel
theorem d_M_again_78 : decode prog_10_method_53_code 78 = .ok (.iload_n 2, 1) := by decide +kernel
theorem d_M_again_79 : decode prog_10_method_53_code 79 = .ok (.ishr, 1) := by decide +kernel
theorem d_M_again_80 : decode prog_10_method_53_code 80 = .ok (.ifCond .eq 34, 3) := by decide +kernel
theorem d_M_again_83 : decode prog_10_method_53_code 83 = .ok (.aload_n 0, 1) := by decide +kernel
theorem d_M_again_84 : decode prog_10_method_53_code 84 = .ok (.getfield 64, 3) := by decide +kernel
theorem d_M_again_87 : decode prog_10_method_53_code 87 = .ok (.iload_n 1, 1) := by decide +kernel
theorem d_M_again_88 : decode prog_10_method_53_code 88 = .ok (.iaload, 1) := by decide +kernel
theorem d_M_again_89 : decode prog_10_method_53_code 89 = .ok (.aload_n 0, 1) := by decide +kernel
theorem d_M_again_90 : decode prog_10_method_53_code 90 = .ok (.getfield 67, 3) := by decide +kernel
theorem d_M_again_93 : decode prog_10_method_53_code 93 = .ok (.iload_n 1, 1) := by decide +kernel
theorem d_M_again_94 : decode prog_10_method_53_code 94 = .ok (.iaload, 1) := by decide +kernel
theorem d_M_again_95 : decode prog_10_method_53_code 95 = .ok (.iconst (-1), 1) := by decide +kernel
theorem d_M_again_96 : decode prog_10_method_53_code 96 = .ok (.ixor, 1) := by decide +kernel
theorem d_M_again_97 : decode prog_10_method_53_code 97 = .ok (.iand, 1) := by decide +kernel
theorem d_M_again_98 : decode prog_10_method_53_code 98 = .ok (.iload_n 2, 1) := by decide +kernel
theorem d_M_again_99 : decode prog_10_method_53_code 99 = .ok (.ishr, 1) := by decide +kernel
theorem d_M_again_100 : decode prog_10_method_53_code 100 = .ok (.iconst 1, 1) := by decide +kernel
theorem d_M_again_101 : decode prog_10_method_53_code 101 = .ok (.iand, 1) := by decide +kernel
theorem d_M_again_102 : decode prog_10_method_53_code 102 = .ok (.ifCond .ne 6, 3) := by decide +kernel
theorem d_M_again_105 : decode prog_10_method_53_code 105 = .ok (.goto 9, 3) := by decide +kernel
theorem d_M_again_108 : decode prog_10_method_53_code 108 = .ok (.aload_n 0, 1) := by decide +kernel
theorem d_M_again_109 : decode prog_10_method_53_code 109 = .ok (.iload_n 1, 1) := by decide +kernel
theorem d_M_again_110 : decode prog_10_method_53_code 110 = .ok (.iload_n 2, 1) := by decide +kernel
theorem d_M_again_111 : decode prog_10_method_53_code 111 = .ok (.invokevirtual 170, 3) := by decide +kernel
theorem d_M_again_114 : decode prog_10_method_53_code 114 = .ok (.iinc 2 1, 3) := by decide +kernel
theorem d_M_again_117 : decode prog_10_method_53_code 117 = .ok (.goto (-60), 3) := by decide +kernel
theorem d_M_again_120 : decode prog_10_method_53_code 120 = .ok (.aload_n 0, 1) := by decide +kernel
theorem d_M_again_121 : decode prog_10_method_53_code 121 = .ok (.iload_n 1, 1) := by decide +kernel
theorem d_M_again_122 : decode prog_10_method_53_code 122 = .ok (.invokevirtual 111, 3) := by decide +kernel
theorem d_M_again_125 : decode prog_10_method_53_code 125 = .ok (.ifCond .eq 24, 3) := by decide +kernel
theorem d_M_again_128 : decode prog_10_method_53_code 128 = .ok (.aload_n 0, 1) := by decide +kernel
theorem d_M_again_129 : decode prog_10_method_53_code 129 = .ok (.getfield 64, 3) := by decide +kernel
theorem d_M_again_132 : decode prog_10_method_53_code 132 = .ok (.iload_n 1, 1) := by decide +kernel
theorem d_M_again_133 : decode prog_10_method_53_code 133 = .ok (.iaload, 1) := by decide +kernel
theorem d_M_again_134 : decode prog_10_method_53_code 134 = .ok (.aload_n 0, 1) := by decide +kernel
theorem d_M_again_135 : decode prog_10_method_53_code 135 = .ok (.getfield 67, 3) := by decide +kernel
theorem d_M_again_138 : decode prog_10_method_53_code 138 = .ok (.iload_n 1, 1) := by decide +kernel
theorem d_M_again_139 : decode prog_10_method_53_code 139 = .ok (.iaload, 1) := by decide +kernel
theorem d_M_again_140 : decode prog_10_method_53_code 140 = .ok (.iconst (-1), 1) := by decide +kernel
theorem d_M_again_141 : decode prog_10_method_53_code 141 = .ok (.ixor, 1) := by decide +kernel
theorem d_M_again_142 : decode prog_10_method_53_code 142 = .ok (.iand, 1) := by decide +kernel
theorem d_M_again_143 : decode prog_10_method_53_code 143 = .ok (.invokestatic 185, 3) := by decide +kernel
theorem d_M_again_146 : decode prog_10_method_53_code 146 = .ok (.goto 5, 3) := by decide +kernel
theorem d_M_again_149 : decode prog_10_method_53_code 149 = .ok (.bipush (-9), 2) := by decide +kernel
theorem d_M_again_151 : decode prog_10_method_53_code 151 = .ok (.ireturn, 1) := by decide +kernel
theorem d_M_gossip_0 : decode prog_10_method_54_code 0 = .ok (.aload_n 0, 1) := by decide +kernel
theorem d_M_gossip_1 : decode prog_10_method_54_code 1 = .ok (.iconst 0, 1) := by decide +kernel
theorem d_M_gossip_2 : decode prog_10_method_54_code 2 = .ok (.putfield 103, 3) := by decide +kernel
theorem d_M_gossip_5 : decode prog_10_method_54_code 5 = .ok (.iload_n 1, 1) := by decide +kernel
theorem d_M_gossip_6 : decode prog_10_method_54_code 6 = .ok (.invokestatic 245, 3) := by decide +kernel
theorem d_M_gossip_9 : decode prog_10_method_54_code 9 = .ok (.ifCond .eq 31, 3) := by decide +kernel
theorem d_M_gossip_12 : decode prog_10_method_54_code 12 = .ok (.iload_n 2, 1) := by decide +kernel
theorem d_M_gossip_13 : decode prog_10_method_54_code 13 = .ok (.invokestatic 245, 3) := by decide +kernel
theorem d_M_gossip_16 : decode prog_10_method_54_code 16 = .ok (.ifCond .eq 24, 3) := by decide +kernel
theorem d_M_gossip_19 : decode prog_10_method_54_code 19 = .ok (.iload_n 1, 1) := by decide +kernel
theorem d_M_gossip_20 : decode prog_10_method_54_code 20 = .ok (.iload_n 2, 1) := by decide +kernel
theorem d_M_gossip_21 : decode prog_10_method_54_code 21 = .ok (.if_icmp .eq 19, 3) := by decide +kernel
theorem d_M_gossip_24 : decode prog_10_method_54_code 24 = .ok (.aload_n 0, 1) := by decide +kernel
theorem d_M_gossip_25 : decode prog_10_method_54_code 25 = .ok (.iload_n 1, 1) := by decide +kernel
theorem d_M_gossip_26 : decode prog_10_method_54_code 26 = .ok (.invokevirtual 111, 3) := by decide +kernel
theorem d_M_gossip_29 : decode prog_10_method_54_code 29 = .ok (.ifCond .eq 11, 3) := by decide +kernel
theorem d_M_gossip_32 : decode prog_10_method_54_code 32 = .ok (.aload_n 0, 1) := by decide +kernel
theorem d_M_gossip_33 : decode prog_10_method_54_code 33 = .ok (.iload_n 1, 1) := by decide +kernel
theorem d_M_gossip_34 : decode prog_10_method_54_code 34 = .ok (.invokevirtual 233, 3) := by decide +kernel
theorem d_M_gossip_37 : decode prog_10_method_54_code 37 = .ok (.ifCond .ge 5, 3) := by decide +kernel
theorem d_M_gossip_40 : decode prog_10_method_54_code 40 = .ok (.iconst 0, 1) := by decide +kernel
theorem d_M_gossip_41 : decode prog_10_method_54_code 41 = .ok (.ireturn, 1) := by decide +kernel
theorem d_M_gossip_42 : decode prog_10_method_54_code 42 = .ok (.aload_n 0, 1) := by decide +kernel
theorem d_M_gossip_43 : decode prog_10_method_54_code 43 = .ok (.bipush 14, 2) := by decide +kernel
theorem d_M_gossip_45 : decode prog_10_method_54_code 45 = .ok (.iload_n 1, 1) := by decide +kernel
theorem d_M_gossip_46 : decode prog_10_method_54_code 46 = .ok (.iload_n 2, 1) := by decide +kernel
theorem d_M_gossip_47 : decode prog_10_method_54_code 47 = .ok (.iconst 0, 1) := by decide +kernel
theorem d_M_gossip_48 : decode prog_10_method_54_code 48 = .ok (.iconst 0, 1) := by decide +kernel
theorem d_M_gossip_49 : decode prog_10_method_54_code 49 = .ok (.iconst 0, 1) := by decide +kernel
theorem d_M_gossip_50 : decode prog_10_method_54_code 50 = .ok (.iconst 0, 1) := by decide +kernel
theorem d_M_gossip_51 : decode prog_10_method_54_code 51 = .ok (.iconst 0, 1) := by decide +kernel
theorem d_M_gossip_52 : decode prog_10_method_54_code 52 = .ok (.iconst 0, 1) := by decide +kernel
theorem d_M_gossip_53 : decode prog_10_method_54_code 53 = .ok (.iconst 1, 1) := by decide +kernel
theorem d_M_gossip_54 : decode prog_10_method_54_code 54 = .ok (.iconst 0, 1) := by decide +kernel
theorem d_M_gossip_55 : decode prog_10_method_54_code 55 = .ok (.invokevirtual 138, 3) := by decide +kernel
theorem d_M_gossip_58 : decode prog_10_method_54_code 58 = .ok (.iconst 1, 1) := by decide +kernel
theorem d_M_gossip_59 : decode prog_10_method_54_code 59 = .ok (.ireturn, 1) := by decide +kernel
theorem d_M_join_0 : decode prog_10_method_55_code 0 = .ok (.aload_n 0, 1) := by decide +kernel
theorem d_M_join_1 : decode prog_10_method_55_code 1 = .ok (.iconst 0, 1) := by decide +kernel
theorem d_M_join_2 : decode prog_10_method_55_code 2 = .ok (.putfield 103, 3) := by decide +kernel
theorem d_M_join_5 : decode prog_10_method_55_code 5 = .ok (.iload_n 1, 1) := by decide +kernel
theorem d_M_join_6 : decode prog_10_method_55_code 6 = .ok (.invokestatic 245, 3) := by decide +kernel
theorem d_M_join_9 : decode prog_10_method_55_code 9 = .ok (.ifCond .eq 41, 3) := by decide +kernel
theorem d_M_join_12 : decode prog_10_method_55_code 12 = .ok (.iload_n 2, 1) := by decide +kernel
theorem d_M_join_13 : decode prog_10_method_55_code 13 = .ok (.invokestatic 245, 3) := by decide +kernel
theorem d_M_join_16 : decode prog_10_method_55_code 16 = .ok (.ifCond .eq 34, 3) := by decide +kernel
theorem d_M_join_19 : decode prog_10_method_55_code 19 = .ok (.iload_n 1, 1) := by decide +kernel
theorem d_M_join_20 : decode prog_10_method_55_code 20 = .ok (.iload_n 2, 1) := by decide +kernel
theorem d_M_join_21 : decode prog_10_method_55_code 21 = .ok (.if_icmp .eq 29, 3) := by decide +kernel
theorem d_M_join_24 : decode prog_10_method_55_code 24 = .ok (.aload_n 0, 1) := by decide +kernel
theorem d_M_join_25 : decode prog_10_method_55_code 25 = .ok (.getfield 9, 3) := by decide +kernel
theorem d_M_join_28 : decode prog_10_method_55_code 28 = .ok (.iload_n 1, 1) := by decide +kernel
theorem d_M_join_29 : decode prog_10_method_55_code 29 = .ok (.iaload, 1) := by decide +kernel
theorem d_M_join_30 : decode prog_10_method_55_code 30 = .ok (.iconst 2, 1) := by decide +kernel
theorem d_M_join_31 : decode prog_10_method_55_code 31 = .ok (.if_icmp .eq 19, 3) := by decide +kernel
theorem d_M_join_34 : decode prog_10_method_55_code 34 = .ok (.aload_n 0, 1) := by decide +kernel
theorem d_M_join_35 : decode prog_10_method_55_code 35 = .ok (.iload_n 1, 1) := by decide +kernel
theorem d_M_join_36 : decode prog_10_method_55_code 36 = .ok (.invokevirtual 111, 3) := by decide +kernel
theorem d_M_join_39 : decode prog_10_method_55_code 39 = .ok (.ifCond .eq 13, 3) := by decide +kernel
theorem d_M_join_42 : decode prog_10_method_55_code 42 = .ok (.aload_n 0, 1) := by decide +kernel
theorem d_M_join_43 : decode prog_10_method_55_code 43 = .ok (.iload_n 1, 1) := by decide +kernel
theorem d_M_join_44 : decode prog_10_method_55_code 44 = .ok (.invokevirtual 233, 3) := by decide +kernel
theorem d_M_join_47 : decode prog_10_method_55_code 47 = .ok (.ifCond .lt 5, 3) := by decide +kernel
theorem d_M_join_50 : decode prog_10_method_55_code 50 = .ok (.iconst 0, 1) := by decide +kernel
theorem d_M_join_51 : decode prog_10_method_55_code 51 = .ok (.ireturn, 1) := by decide +kernel
theorem d_M_join_52 : decode prog_10_method_55_code 52 = .ok (.aload_n 0, 1) := by decide +kernel
theorem d_M_join_53 : decode prog_10_method_55_code 53 = .ok (.getfield 9, 3) := by decide +kernel
theorem d_M_join_56 : decode prog_10_method_55_code 56 = .ok (.iload_n 1, 1) := by decide +kernel
theorem d_M_join_57 : decode prog_10_method_55_code 57 = .ok (.iconst 1, 1) := by decide +kernel
theorem d_M_join_58 : decode prog_10_method_55_code 58 = .ok (.iastore, 1) := by decide +kernel
theorem d_M_join_59 : decode prog_10_method_55_code 59 = .ok (.aload_n 0, 1) := by decide +kernel
theorem d_M_join_60 : decode prog_10_method_55_code 60 = .ok (.bipush 15, 2) := by decide +kernel
theorem d_M_join_62 : decode prog_10_method_55_code 62 = .ok (.iload_n 1, 1) := by decide +kernel
theorem d_M_join_63 : decode prog_10_method_55_code 63 = .ok (.iload_n 2, 1) := by decide +kernel
theorem d_M_join_64 : decode prog_10_method_55_code 64 = .ok (.iconst 0, 1) := by decide +kernel
theorem d_M_join_65 : decode prog_10_method_55_code 65 = .ok (.iconst 0, 1) := by decide +kernel
theorem d_M_join_66 : decode prog_10_method_55_code 66 = .ok (.iconst 0, 1) := by decide +kernel
theorem d_M_join_67 : decode prog_10_method_55_code 67 = .ok (.iconst 0, 1) := by decide +kernel
theorem d_M_join_68 : decode prog_10_method_55_code 68 = .ok (.iconst 0, 1) := by decide +kernel
theorem d_M_join_69 : decode prog_10_method_55_code 69 = .ok (.iconst 0, 1) := by decide +kernel
theorem d_M_join_70 : decode prog_10_method_55_code 70 = .ok (.iconst 0, 1) := by decide +kernel
theorem d_M_join_71 : decode prog_10_method_55_code 71 = .ok (.iconst 0, 1) := by decide +kernel
theorem d_M_join_72 : decode prog_10_method_55_code 72 = .ok (.invokevirtual 138, 3) := by decide +kernel
theorem d_M_join_75 : decode prog_10_method_55_code 75 = .ok (.iconst 1, 1) := by decide +kernel
theorem d_M_join_76 : decode prog_10_method_55_code 76 = .ok (.ireturn, 1) := by decide +kernel
theorem d_M_deliver_0 : decode prog_10_method_56_code 0 = .ok (.aload_n 0, 1) := by decide +kernel
theorem d_M_deliver_1 : decode prog_10_method_56_code 1 = .ok (.iconst 0, 1) := by decide +kernel
theorem d_M_deliver_2 : decode prog_10_method_56_code 2 = .ok (.putfield 103, 3) := by decide +kernel
theorem d_M_deliver_5 : decode prog_10_method_56_code 5 = .ok (.iload_n 1, 1) := by decide +kernel
theorem d_M_deliver_6 : decode prog_10_method_56_code 6 = .ok (.iconst 0, 1) := by decide +kernel
theorem d_M_deliver_7 : decode prog_10_method_56_code 7 = .ok (.aload_n 0, 1) := by decide +kernel
theorem d_M_deliver_8 : decode prog_10_method_56_code 8 = .ok (.getfield 129, 3) := by decide +kernel
theorem d_M_deliver_11 : decode prog_10_method_56_code 11 = .ok (.iconst 1, 1) := by decide +kernel
theorem d_M_deliver_12 : decode prog_10_method_56_code 12 = .ok (.isub, 1) := by decide +kernel
theorem d_M_deliver_13 : decode prog_10_method_56_code 13 = .ok (.invokestatic 107, 3) := by decide +kernel
theorem d_M_deliver_16 : decode prog_10_method_56_code 16 = .ok (.ifCond .ne 5, 3) := by decide +kernel
theorem d_M_deliver_19 : decode prog_10_method_56_code 19 = .ok (.iconst (-1), 1) := by decide +kernel
theorem d_M_deliver_20 : decode prog_10_method_56_code 20 = .ok (.ireturn, 1) := by decide +kernel
theorem d_M_deliver_21 : decode prog_10_method_56_code 21 = .ok (.iconst 0, 1) := by decide +kernel
theorem d_M_deliver_22 : decode prog_10_method_56_code 22 = .ok (.istore_n 2, 1) := by decide +kernel
theorem d_M_deliver_23 : decode prog_10_method_56_code 23 = .ok (.iload_n 2, 1) := by decide +kernel
theorem d_M_deliver_24 : decode prog_10_method_56_code 24 = .ok (.bipush 53, 2) := by decide +kernel
theorem d_M_deliver_26 : decode prog_10_method_56_code 26 = .ok (.if_icmp .ge 26, 3) := by decide +kernel
theorem d_M_deliver_29 : decode prog_10_method_56_code 29 = .ok (.aload_n 0, 1) := by decide +kernel
theorem d_M_deliver_30 : decode prog_10_method_56_code 30 = .ok (.getfield 100, 3) := by decide +kernel
theorem d_M_deliver_33 : decode prog_10_method_56_code 33 = .ok (.iload_n 2, 1) := by decide +kernel
theorem d_M_deliver_34 : decode prog_10_method_56_code 34 = .ok (.aload_n 0, 1) := by decide +kernel
theorem d_M_deliver_35 : decode prog_10_method_56_code 35 = .ok (.getfield 97, 3) := by decide +kernel
theorem d_M_deliver_38 : decode prog_10_method_56_code 38 = .ok (.bipush 53, 2) := by decide +kernel
theorem d_M_deliver_40 : decode prog_10_method_56_code 40 = .ok (.iload_n 1, 1) := by decide +kernel
theorem d_M_deliver_41 : decode prog_10_method_56_code 41 = .ok (.imul, 1) := by decide +kernel
theorem d_M_deliver_42 : decode prog_10_method_56_code 42 = .ok (.iload_n 2, 1) := by decide +kernel
theorem d_M_deliver_43 : decode prog_10_method_56_code 43 = .ok (.iadd, 1) := by decide +kernel
theorem d_M_deliver_44 : decode prog_10_method_56_code 44 = .ok (.iaload, 1) := by decide +kernel
theorem d_M_deliver_45 : decode prog_10_method_56_code 45 = .ok (.iastore, 1) := by decide +kernel
theorem d_M_deliver_46 : decode prog_10_method_56_code 46 = .ok (.iinc 2 1, 3) := by decide +kernel
theorem d_M_deliver_49 : decode prog_10_method_56_code 49 = .ok (.goto (-26), 3) := by decide +kernel
theorem d_M_deliver_52 : decode prog_10_method_56_code 52 = .ok (.aload_n 0, 1) := by decide +kernel
theorem d_M_deliver_53 : decode prog_10_method_56_code 53 = .ok (.iload_n 1, 1) := by decide +kernel
theorem d_M_deliver_54 : decode prog_10_method_56_code 54 = .ok (.invokevirtual 261, 3) := by decide +kernel
theorem d_M_deliver_57 : decode prog_10_method_56_code 57 = .ok (.aload_n 0, 1) := by decide +kernel
theorem d_M_deliver_58 : decode prog_10_method_56_code 58 = .ok (.getfield 100, 3) := by decide +kernel
theorem d_M_deliver_61 : decode prog_10_method_56_code 61 = .ok (.iconst 2, 1) := by decide +kernel
theorem d_M_deliver_62 : decode prog_10_method_56_code 62 = .ok (.iaload, 1) := by decide +kernel
theorem d_M_deliver_63 : decode prog_10_method_56_code 63 = .ok (.istore_n 2, 1) := by decide +kernel
theorem d_M_deliver_64 : decode prog_10_method_56_code 64 = .ok (.aload_n 0, 1) := by decide +kernel
theorem d_M_deliver_65 : decode prog_10_method_56_code 65 = .ok (.iload_n 2, 1) := by decide +kernel
theorem d_M_deliver_66 : decode prog_10_method_56_code 66 = .ok (.invokevirtual 111, 3) := by decide +kernel
theorem d_M_deliver_69 : decode prog_10_method_56_code 69 = .ok (.ifCond .ne 5, 3) := by decide +kernel
theorem d_M_deliver_72 : decode prog_10_method_56_code 72 = .ok (.iconst 0, 1) := by decide +kernel
theorem d_M_deliver_73 : decode prog_10_method_56_code 73 = .ok (.ireturn, 1) := by decide +kernel
theorem d_M_deliver_74 : decode prog_10_method_56_code 74 = .ok (.aload_n 0, 1) := by decide +kernel
theorem d_M_deliver_75 : decode prog_10_method_56_code 75 = .ok (.iload_n 2, 1) := by decide +kernel
theorem d_M_deliver_76 : decode prog_10_method_56_code 76 = .ok (.invokevirtual 264, 3) := by decide +kernel
theorem d_M_deliver_79 : decode prog_10_method_56_code 79 = .ok (.aload_n 0, 1) := by decide +kernel
theorem d_M_deliver_80 : decode prog_10_method_56_code 80 = .ok (.iload_n 2, 1) := by decide +kernel
theorem d_M_deliver_81 : decode prog_10_method_56_code 81 = .ok (.invokevirtual 111, 3) := by decide +kernel
theorem d_M_deliver_84 : decode prog_10_method_56_code 84 = .ok (.ifCond .eq 8, 3) := by decide +kernel
theorem d_M_deliver_87 : decode prog_10_method_56_code 87 = .ok (.aload_n 0, 1) := by decide +kernel
theorem d_M_deliver_88 : decode prog_10_method_56_code 88 = .ok (.iload_n 2, 1) := by decide +kernel
theorem d_M_deliver_89 : decode prog_10_method_56_code 89 = .ok (.invokevirtual 267, 3) := by decide +kernel
theorem d_M_deliver_92 : decode prog_10_method_56_code 92 = .ok (.iconst 1, 1) := by decide +kernel
theorem d_M_deliver_93 : decode prog_10_method_56_code 93 = .ok (.ireturn, 1) := by decide +kernel
theorem d_M_lose_0 : decode prog_10_method_57_code 0 = .ok (.aload_n 0, 1) := by decide +kernel
theorem d_M_lose_1 : decode prog_10_method_57_code 1 = .ok (.iconst 0, 1) := by decide +kernel
theorem d_M_lose_2 : decode prog_10_method_57_code 2 = .ok (.putfield 103, 3) := by decide +kernel
theorem d_M_lose_5 : decode prog_10_method_57_code 5 = .ok (.iload_n 1, 1) := by decide +kernel
theorem d_M_lose_6 : decode prog_10_method_57_code 6 = .ok (.iconst 0, 1) := by decide +kernel
theorem d_M_lose_7 : decode prog_10_method_57_code 7 = .ok (.aload_n 0, 1) := by decide +kernel
theorem d_M_lose_8 : decode prog_10_method_57_code 8 = .ok (.getfield 129, 3) := by decide +kernel
theorem d_M_lose_11 : decode prog_10_method_57_code 11 = .ok (.iconst 1, 1) := by decide +kernel
theorem d_M_lose_12 : decode prog_10_method_57_code 12 = .ok (.isub, 1) := by decide +kernel
theorem d_M_lose_13 : decode prog_10_method_57_code 13 = .ok (.invokestatic 107, 3) := by decide +kernel
theorem d_M_lose_16 : decode prog_10_method_57_code 16 = .ok (.ifCond .ne 5, 3) := by decide +kernel
theorem d_M_lose_19 : decode prog_10_method_57_code 19 = .ok (.iconst 0, 1) := by decide +kernel
theorem d_M_lose_20 : decode prog_10_method_57_code 20 = .ok (.ireturn, 1) := by decide +kernel
theorem d_M_lose_21 : decode prog_10_method_57_code 21 = .ok (.aload_n 0, 1) := by decide +kernel
theorem d_M_lose_22 : decode prog_10_method_57_code 22 = .ok (.iload_n 1, 1) := by decide +kernel
theorem d_M_lose_23 : decode prog_10_method_57_code 23 = .ok (.invokevirtual 261, 3) := by decide +kernel
theorem d_M_lose_26 : decode prog_10_method_57_code 26 = .ok (.iconst 1, 1) := by decide +kernel
theorem d_M_lose_27 : decode prog_10_method_57_code 27 = .ok (.ireturn, 1) := by decide +kernel
theorem d_M_twice_0 : decode prog_10_method_58_code 0 = .ok (.aload_n 0, 1) := by decide +kernel
theorem d_M_twice_1 : decode prog_10_method_58_code 1 = .ok (.iconst 0, 1) := by decide +kernel
theorem d_M_twice_2 : decode prog_10_method_58_code 2 = .ok (.putfield 103, 3) := by decide +kernel
theorem d_M_twice_5 : decode prog_10_method_58_code 5 = .ok (.iload_n 1, 1) := by decide +kernel
theorem d_M_twice_6 : decode prog_10_method_58_code 6 = .ok (.iconst 0, 1) := by decide +kernel
theorem d_M_twice_7 : decode prog_10_method_58_code 7 = .ok (.aload_n 0, 1) := by decide +kernel
theorem d_M_twice_8 : decode prog_10_method_58_code 8 = .ok (.getfield 129, 3) := by decide +kernel
theorem d_M_twice_11 : decode prog_10_method_58_code 11 = .ok (.iconst 1, 1) := by decide +kernel
theorem d_M_twice_12 : decode prog_10_method_58_code 12 = .ok (.isub, 1) := by decide +kernel
theorem d_M_twice_13 : decode prog_10_method_58_code 13 = .ok (.invokestatic 107, 3) := by decide +kernel
theorem d_M_twice_16 : decode prog_10_method_58_code 16 = .ok (.ifCond .eq 12, 3) := by decide +kernel
theorem d_M_twice_19 : decode prog_10_method_58_code 19 = .ok (.aload_n 0, 1) := by decide +kernel
theorem d_M_twice_20 : decode prog_10_method_58_code 20 = .ok (.getfield 129, 3) := by decide +kernel
theorem d_M_twice_23 : decode prog_10_method_58_code 23 = .ok (.bipush 120, 2) := by decide +kernel
theorem d_M_twice_25 : decode prog_10_method_58_code 25 = .ok (.if_icmp .ne 5, 3) := by decide +kernel
theorem d_M_twice_28 : decode prog_10_method_58_code 28 = .ok (.iconst 0, 1) := by decide +kernel
theorem d_M_twice_29 : decode prog_10_method_58_code 29 = .ok (.ireturn, 1) := by decide +kernel
theorem d_M_twice_30 : decode prog_10_method_58_code 30 = .ok (.iconst 0, 1) := by decide +kernel
theorem d_M_twice_31 : decode prog_10_method_58_code 31 = .ok (.istore_n 2, 1) := by decide +kernel
theorem d_M_twice_32 : decode prog_10_method_58_code 32 = .ok (.iload_n 2, 1) := by decide +kernel
theorem d_M_twice_33 : decode prog_10_method_58_code 33 = .ok (.bipush 53, 2) := by decide +kernel
theorem d_M_twice_35 : decode prog_10_method_58_code 35 = .ok (.if_icmp .ge 34, 3) := by decide +kernel
theorem d_M_twice_38 : decode prog_10_method_58_code 38 = .ok (.aload_n 0, 1) := by decide +kernel
theorem d_M_twice_39 : decode prog_10_method_58_code 39 = .ok (.getfield 97, 3) := by decide +kernel
theorem d_M_twice_42 : decode prog_10_method_58_code 42 = .ok (.bipush 53, 2) := by decide +kernel
theorem d_M_twice_44 : decode prog_10_method_58_code 44 = .ok (.aload_n 0, 1) := by decide +kernel
theorem d_M_twice_45 : decode prog_10_method_58_code 45 = .ok (.getfield 129, 3) := by decide +kernel
theorem d_M_twice_48 : decode prog_10_method_58_code 48 = .ok (.imul, 1) := by decide +kernel
theorem d_M_twice_49 : decode prog_10_method_58_code 49 = .ok (.iload_n 2, 1) := by decide +kernel
theorem d_M_twice_50 : decode prog_10_method_58_code 50 = .ok (.iadd, 1) := by decide +kernel
theorem d_M_twice_51 : decode prog_10_method_58_code 51 = .ok (.aload_n 0, 1) := by decide +kernel
theorem d_M_twice_52 : decode prog_10_method_58_code 52 = .ok (.getfield 97, 3) := by decide +kernel
theorem d_M_twice_55 : decode prog_10_method_58_code 55 = .ok (.bipush 53, 2) := by decide +kernel
theorem d_M_twice_57 : decode prog_10_method_58_code 57 = .ok (.iload_n 1, 1) := by decide +kernel
theorem d_M_twice_58 : decode prog_10_method_58_code 58 = .ok (.imul, 1) := by decide +kernel
theorem d_M_twice_59 : decode prog_10_method_58_code 59 = .ok (.iload_n 2, 1) := by decide +kernel
theorem d_M_twice_60 : decode prog_10_method_58_code 60 = .ok (.iadd, 1) := by decide +kernel
theorem d_M_twice_61 : decode prog_10_method_58_code 61 = .ok (.iaload, 1) := by decide +kernel
theorem d_M_twice_62 : decode prog_10_method_58_code 62 = .ok (.iastore, 1) := by decide +kernel
theorem d_M_twice_63 : decode prog_10_method_58_code 63 = .ok (.iinc 2 1, 3) := by decide +kernel
theorem d_M_twice_66 : decode prog_10_method_58_code 66 = .ok (.goto (-34), 3) := by decide +kernel
theorem d_M_twice_69 : decode prog_10_method_58_code 69 = .ok (.aload_n 0, 1) := by decide +kernel
theorem d_M_twice_70 : decode prog_10_method_58_code 70 = .ok (.dup, 1) := by decide +kernel
theorem d_M_twice_71 : decode prog_10_method_58_code 71 = .ok (.getfield 129, 3) := by decide +kernel
theorem d_M_twice_74 : decode prog_10_method_58_code 74 = .ok (.iconst 1, 1) := by decide +kernel
theorem d_M_twice_75 : decode prog_10_method_58_code 75 = .ok (.iadd, 1) := by decide +kernel
theorem d_M_twice_76 : decode prog_10_method_58_code 76 = .ok (.putfield 129, 3) := by decide +kernel
theorem d_M_twice_79 : decode prog_10_method_58_code 79 = .ok (.iconst 1, 1) := by decide +kernel
theorem d_M_twice_80 : decode prog_10_method_58_code 80 = .ok (.ireturn, 1) := by decide +kernel
theorem d_M_crash_0 : decode prog_10_method_59_code 0 = .ok (.aload_n 0, 1) := by decide +kernel
theorem d_M_crash_1 : decode prog_10_method_59_code 1 = .ok (.iconst 0, 1) := by decide +kernel
theorem d_M_crash_2 : decode prog_10_method_59_code 2 = .ok (.putfield 103, 3) := by decide +kernel
theorem d_M_crash_5 : decode prog_10_method_59_code 5 = .ok (.iload_n 1, 1) := by decide +kernel
theorem d_M_crash_6 : decode prog_10_method_59_code 6 = .ok (.invokestatic 245, 3) := by decide +kernel
theorem d_M_crash_9 : decode prog_10_method_59_code 9 = .ok (.ifCond .eq 11, 3) := by decide +kernel
theorem d_M_crash_12 : decode prog_10_method_59_code 12 = .ok (.aload_n 0, 1) := by decide +kernel
theorem d_M_crash_13 : decode prog_10_method_59_code 13 = .ok (.iload_n 1, 1) := by decide +kernel
theorem d_M_crash_14 : decode prog_10_method_59_code 14 = .ok (.invokevirtual 111, 3) := by decide +kernel
theorem d_M_crash_17 : decode prog_10_method_59_code 17 = .ok (.ifCond .ne 5, 3) := by decide +kernel
theorem d_M_crash_20 : decode prog_10_method_59_code 20 = .ok (.iconst 0, 1) := by decide +kernel
theorem d_M_crash_21 : decode prog_10_method_59_code 21 = .ok (.ireturn, 1) := by decide +kernel
theorem d_M_crash_22 : decode prog_10_method_59_code 22 = .ok (.aload_n 0, 1) := by decide +kernel
theorem d_M_crash_23 : decode prog_10_method_59_code 23 = .ok (.iload_n 1, 1) := by decide +kernel
theorem d_M_crash_24 : decode prog_10_method_59_code 24 = .ok (.invokevirtual 115, 3) := by decide +kernel
theorem d_M_crash_27 : decode prog_10_method_59_code 27 = .ok (.iconst 1, 1) := by decide +kernel
theorem d_M_crash_28 : decode prog_10_method_59_code 28 = .ok (.ireturn, 1) := by decide +kernel
theorem d_M_restart_0 : decode prog_10_method_60_code 0 = .ok (.aload_n 0, 1) := by decide +kernel
theorem d_M_restart_1 : decode prog_10_method_60_code 1 = .ok (.iconst 0, 1) := by decide +kernel
theorem d_M_restart_2 : decode prog_10_method_60_code 2 = .ok (.putfield 103, 3) := by decide +kernel
theorem d_M_restart_5 : decode prog_10_method_60_code 5 = .ok (.iload_n 1, 1) := by decide +kernel
theorem d_M_restart_6 : decode prog_10_method_60_code 6 = .ok (.invokestatic 245, 3) := by decide +kernel
theorem d_M_restart_9 : decode prog_10_method_60_code 9 = .ok (.ifCond .eq 13, 3) := by decide +kernel
theorem d_M_restart_12 : decode prog_10_method_60_code 12 = .ok (.aload_n 0, 1) := by decide +kernel
theorem d_M_restart_13 : decode prog_10_method_60_code 13 = .ok (.getfield 9, 3) := by decide +kernel
theorem d_M_restart_16 : decode prog_10_method_60_code 16 = .ok (.iload_n 1, 1) := by decide +kernel
theorem d_M_restart_17 : decode prog_10_method_60_code 17 = .ok (.iaload, 1) := by decide +kernel
theorem d_M_restart_18 : decode prog_10_method_60_code 18 = .ok (.iconst 2, 1) := by decide +kernel
theorem d_M_restart_19 : decode prog_10_method_60_code 19 = .ok (.if_icmp .eq 5, 3) := by decide +kernel
theorem d_M_restart_22 : decode prog_10_method_60_code 22 = .ok (.iconst 0, 1) := by decide +kernel
theorem d_M_restart_23 : decode prog_10_method_60_code 23 = .ok (.ireturn, 1) := by decide +kernel
theorem d_M_restart_24 : decode prog_10_method_60_code 24 = .ok (.aload_n 0, 1) := by decide +kernel
theorem d_M_restart_25 : decode prog_10_method_60_code 25 = .ok (.getfield 9, 3) := by decide +kernel
theorem d_M_restart_28 : decode prog_10_method_60_code 28 = .ok (.iload_n 1, 1) := by decide +kernel
theorem d_M_restart_29 : decode prog_10_method_60_code 29 = .ok (.iconst 1, 1) := by decide +kernel
theorem d_M_restart_30 : decode prog_10_method_60_code 30 = .ok (.iastore, 1) := by decide +kernel
theorem d_M_restart_31 : decode prog_10_method_60_code 31 = .ok (.aload_n 0, 1) := by decide +kernel
theorem d_M_restart_32 : decode prog_10_method_60_code 32 = .ok (.getfield 13, 3) := by decide +kernel
theorem d_M_restart_35 : decode prog_10_method_60_code 35 = .ok (.iload_n 1, 1) := by decide +kernel
theorem d_M_restart_36 : decode prog_10_method_60_code 36 = .ok (.dup2, 1) := by decide +kernel
theorem d_M_restart_37 : decode prog_10_method_60_code 37 = .ok (.iaload, 1) := by decide +kernel
theorem d_M_restart_38 : decode prog_10_method_60_code 38 = .ok (.iconst 1, 1) := by decide +kernel
theorem d_M_restart_39 : decode prog_10_method_60_code 39 = .ok (.iadd, 1) := by decide +kernel
theorem d_M_restart_40 : decode prog_10_method_60_code 40 = .ok (.iastore, 1) := by decide +kernel
theorem d_M_restart_41 : decode prog_10_method_60_code 41 = .ok (.aload_n 0, 1) := by decide +kernel
theorem d_M_restart_42 : decode prog_10_method_60_code 42 = .ok (.dup, 1) := by decide +kernel
theorem d_M_restart_43 : decode prog_10_method_60_code 43 = .ok (.getfield 119, 3) := by decide +kernel
theorem d_M_restart_46 : decode prog_10_method_60_code 46 = .ok (.iconst 1, 1) := by decide +kernel
theorem d_M_restart_47 : decode prog_10_method_60_code 47 = .ok (.iadd, 1) := by decide +kernel
theorem d_M_restart_48 : decode prog_10_method_60_code 48 = .ok (.putfield 119, 3) := by decide +kernel
theorem d_M_restart_51 : decode prog_10_method_60_code 51 = .ok (.iconst 1, 1) := by decide +kernel
theorem d_M_restart_52 : decode prog_10_method_60_code 52 = .ok (.ireturn, 1) := by decide +kernel
theorem d_M_arm_0 : decode prog_10_method_61_code 0 = .ok (.aload_n 0, 1) := by decide +kernel
theorem d_M_arm_1 : decode prog_10_method_61_code 1 = .ok (.iconst 0, 1) := by decide +kernel
theorem d_M_arm_2 : decode prog_10_method_61_code 2 = .ok (.putfield 103, 3) := by decide +kernel
theorem d_M_arm_5 : decode prog_10_method_61_code 5 = .ok (.iload_n 1, 1) := by decide +kernel
theorem d_M_arm_6 : decode prog_10_method_61_code 6 = .ok (.invokestatic 245, 3) := by decide +kernel
theorem d_M_arm_9 : decode prog_10_method_61_code 9 = .ok (.ifCond .eq 21, 3) := by decide +kernel
theorem d_M_arm_12 : decode prog_10_method_61_code 12 = .ok (.aload_n 0, 1) := by decide +kernel
theorem d_M_arm_13 : decode prog_10_method_61_code 13 = .ok (.iload_n 1, 1) := by decide +kernel
theorem d_M_arm_14 : decode prog_10_method_61_code 14 = .ok (.invokevirtual 111, 3) := by decide +kernel
theorem d_M_arm_17 : decode prog_10_method_61_code 17 = .ok (.ifCond .eq 13, 3) := by decide +kernel
theorem d_M_arm_20 : decode prog_10_method_61_code 20 = .ok (.iload_n 2, 1) := by decide +kernel
theorem d_M_arm_21 : decode prog_10_method_61_code 21 = .ok (.iconst 0, 1) := by decide +kernel
theorem d_M_arm_22 : decode prog_10_method_61_code 22 = .ok (.bipush 100, 2) := by decide +kernel
theorem d_M_arm_24 : decode prog_10_method_61_code 24 = .ok (.invokestatic 107, 3) := by decide +kernel
theorem d_M_arm_27 : decode prog_10_method_61_code 27 = .ok (.ifCond .ne 5, 3) := by decide +kernel
theorem d_M_arm_30 : decode prog_10_method_61_code 30 = .ok (.iconst 0, 1) := by decide +kernel
theorem d_M_arm_31 : decode prog_10_method_61_code 31 = .ok (.ireturn, 1) := by decide +kernel
theorem d_M_arm_32 : decode prog_10_method_61_code 32 = .ok (.aload_n 0, 1) := by decide +kernel
theorem d_M_arm_33 : decode prog_10_method_61_code 33 = .ok (.getfield 19, 3) := by decide +kernel
theorem d_M_arm_36 : decode prog_10_method_61_code 36 = .ok (.iload_n 1, 1) := by decide +kernel
theorem d_M_arm_37 : decode prog_10_method_61_code 37 = .ok (.iload_n 2, 1) := by decide +kernel
theorem d_M_arm_38 : decode prog_10_method_61_code 38 = .ok (.iastore, 1) := by decide +kernel
theorem d_M_arm_39 : decode prog_10_method_61_code 39 = .ok (.iconst 1, 1) := by decide +kernel
theorem d_M_arm_40 : decode prog_10_method_61_code 40 = .ok (.ireturn, 1) := by decide +kernel
theorem d_M_node_0 : decode prog_10_method_62_code 0 = .ok (.aload_n 0, 1) := by decide +kernel
theorem d_M_node_1 : decode prog_10_method_62_code 1 = .ok (.iconst 0, 1) := by decide +kernel
theorem d_M_node_2 : decode prog_10_method_62_code 2 = .ok (.putfield 103, 3) := by decide +kernel
theorem d_M_node_5 : decode prog_10_method_62_code 5 = .ok (.iload_n 1, 1) := by decide +kernel
theorem d_M_node_6 : decode prog_10_method_62_code 6 = .ok (.invokestatic 245, 3) := by decide +kernel
theorem d_M_node_9 : decode prog_10_method_62_code 9 = .ok (.ifCond .ne 5, 3) := by decide +kernel
theorem d_M_node_12 : decode prog_10_method_62_code 12 = .ok (.iconst (-1), 1) := by decide +kernel
theorem d_M_node_13 : decode prog_10_method_62_code 13 = .ok (.ireturn, 1) := by decide +kernel
theorem d_M_node_14 : decode prog_10_method_62_code 14 = .ok (.iload_n 2, 1) := by decide +kernel
theorem d_M_node_15 : decode prog_10_method_62_code 15 = .ok (.tableswitch 88 0 6 #[41, 48, 55, 62, 68, 74, 81], 41) := by decide +kernel
theorem d_M_node_56 : decode prog_10_method_62_code 56 = .ok (.aload_n 0, 1) := by decide +kernel
theorem d_M_node_57 : decode prog_10_method_62_code 57 = .ok (.getfield 9, 3) := by decide +kernel
theorem d_M_node_60 : decode prog_10_method_62_code 60 = .ok (.iload_n 1, 1) := by decide +kernel
theorem d_M_node_61 : decode prog_10_method_62_code 61 = .ok (.iaload, 1) := by decide +kernel
theorem d_M_node_62 : decode prog_10_method_62_code 62 = .ok (.ireturn, 1) := by decide +kernel
theorem d_M_node_63 : decode prog_10_method_62_code 63 = .ok (.aload_n 0, 1) := by decide +kernel
theorem d_M_node_64 : decode prog_10_method_62_code 64 = .ok (.getfield 13, 3) := by decide +kernel
theorem d_M_node_67 : decode prog_10_method_62_code 67 = .ok (.iload_n 1, 1) := by decide +kernel
theorem d_M_node_68 : decode prog_10_method_62_code 68 = .ok (.iaload, 1) := by decide +kernel
theorem d_M_node_69 : decode prog_10_method_62_code 69 = .ok (.ireturn, 1) := by decide +kernel
theorem d_M_node_70 : decode prog_10_method_62_code 70 = .ok (.aload_n 0, 1) := by decide +kernel
theorem d_M_node_71 : decode prog_10_method_62_code 71 = .ok (.getfield 16, 3) := by decide +kernel
theorem d_M_node_74 : decode prog_10_method_62_code 74 = .ok (.iload_n 1, 1) := by decide +kernel
theorem d_M_node_75 : decode prog_10_method_62_code 75 = .ok (.iaload, 1) := by decide +kernel
theorem d_M_node_76 : decode prog_10_method_62_code 76 = .ok (.ireturn, 1) := by decide +kernel
theorem d_M_node_77 : decode prog_10_method_62_code 77 = .ok (.aload_n 0, 1) := by decide +kernel
theorem d_M_node_78 : decode prog_10_method_62_code 78 = .ok (.iload_n 1, 1) := by decide +kernel
theorem d_M_node_79 : decode prog_10_method_62_code 79 = .ok (.invokevirtual 258, 3) := by decide +kernel
theorem d_M_node_82 : decode prog_10_method_62_code 82 = .ok (.ireturn, 1) := by decide +kernel
theorem d_M_node_83 : decode prog_10_method_62_code 83 = .ok (.aload_n 0, 1) := by decide +kernel
theorem d_M_node_84 : decode prog_10_method_62_code 84 = .ok (.iload_n 1, 1) := by decide +kernel
theorem d_M_node_85 : decode prog_10_method_62_code 85 = .ok (.invokevirtual 233, 3) := by decide +kernel
theorem d_M_node_88 : decode prog_10_method_62_code 88 = .ok (.ireturn, 1) := by decide +kernel
theorem d_M_node_89 : decode prog_10_method_62_code 89 = .ok (.aload_n 0, 1) := by decide +kernel
theorem d_M_node_90 : decode prog_10_method_62_code 90 = .ok (.getfield 22, 3) := by decide +kernel
theorem d_M_node_93 : decode prog_10_method_62_code 93 = .ok (.iload_n 1, 1) := by decide +kernel
theorem d_M_node_94 : decode prog_10_method_62_code 94 = .ok (.iaload, 1) := by decide +kernel
theorem d_M_node_95 : decode prog_10_method_62_code 95 = .ok (.ireturn, 1) := by decide +kernel
theorem d_M_node_96 : decode prog_10_method_62_code 96 = .ok (.aload_n 0, 1) := by decide +kernel
theorem d_M_node_97 : decode prog_10_method_62_code 97 = .ok (.getfield 19, 3) := by decide +kernel
theorem d_M_node_100 : decode prog_10_method_62_code 100 = .ok (.iload_n 1, 1) := by decide +kernel
theorem d_M_node_101 : decode prog_10_method_62_code 101 = .ok (.iaload, 1) := by decide +kernel
theorem d_M_node_102 : decode prog_10_method_62_code 102 = .ok (.ireturn, 1) := by decide +kernel
theorem d_M_node_103 : decode prog_10_method_62_code 103 = .ok (.iconst (-1), 1) := by decide +kernel
theorem d_M_node_104 : decode prog_10_method_62_code 104 = .ok (.ireturn, 1) := by decide +kernel
theorem d_M_cell_0 : decode prog_10_method_63_code 0 = .ok (.aload_n 0, 1) := by decide +kernel
theorem d_M_cell_1 : decode prog_10_method_63_code 1 = .ok (.iconst 0, 1) := by decide +kernel
theorem d_M_cell_2 : decode prog_10_method_63_code 2 = .ok (.putfield 103, 3) := by decide +kernel
theorem d_M_cell_5 : decode prog_10_method_63_code 5 = .ok (.iload_n 1, 1) := by decide +kernel
theorem d_M_cell_6 : decode prog_10_method_63_code 6 = .ok (.invokestatic 245, 3) := by decide +kernel
theorem d_M_cell_9 : decode prog_10_method_63_code 9 = .ok (.ifCond .eq 12, 3) := by decide +kernel
theorem d_M_cell_12 : decode prog_10_method_63_code 12 = .ok (.iload_n 2, 1) := by decide +kernel
theorem d_M_cell_13 : decode prog_10_method_63_code 13 = .ok (.iconst 0, 1) := by decide +kernel
theorem d_M_cell_14 : decode prog_10_method_63_code 14 = .ok (.iconst 3, 1) := by decide +kernel
theorem d_M_cell_15 : decode prog_10_method_63_code 15 = .ok (.invokestatic 107, 3) := by decide +kernel
theorem d_M_cell_18 : decode prog_10_method_63_code 18 = .ok (.ifCond .ne 5, 3) := by decide +kernel
theorem d_M_cell_21 : decode prog_10_method_63_code 21 = .ok (.iconst (-1), 1) := by decide +kernel
theorem d_M_cell_22 : decode prog_10_method_63_code 22 = .ok (.ireturn, 1) := by decide +kernel
theorem d_M_cell_23 : decode prog_10_method_63_code 23 = .ok (.iconst 4, 1) := by decide +kernel
theorem d_M_cell_24 : decode prog_10_method_63_code 24 = .ok (.iload_n 1, 1) := by decide +kernel
theorem d_M_cell_25 : decode prog_10_method_63_code 25 = .ok (.imul, 1) := by decide +kernel
theorem d_M_cell_26 : decode prog_10_method_63_code 26 = .ok (.iload_n 2, 1) := by decide +kernel
theorem d_M_cell_27 : decode prog_10_method_63_code 27 = .ok (.iadd, 1) := by decide +kernel
theorem d_M_cell_28 : decode prog_10_method_63_code 28 = .ok (.istore 4, 2) := by decide +kernel
theorem d_M_cell_30 : decode prog_10_method_63_code 30 = .ok (.iload_n 3, 1) := by decide +kernel
theorem d_M_cell_31 : decode prog_10_method_63_code 31 = .ok (.ifCond .ne 13, 3) := by decide +kernel
theorem d_M_cell_34 : decode prog_10_method_63_code 34 = .ok (.aload_n 0, 1) := by decide +kernel
theorem d_M_cell_35 : decode prog_10_method_63_code 35 = .ok (.getfield 25, 3) := by decide +kernel
theorem d_M_cell_38 : decode prog_10_method_63_code 38 = .ok (.iload 4, 2) := by decide +kernel
theorem d_M_cell_40 : decode prog_10_method_63_code 40 = .ok (.iaload, 1) := by decide +kernel
theorem d_M_cell_41 : decode prog_10_method_63_code 41 = .ok (.goto 34, 3) := by decide +kernel
theorem d_M_cell_44 : decode prog_10_method_63_code 44 = .ok (.iload_n 3, 1) := by decide +kernel
theorem d_M_cell_45 : decode prog_10_method_63_code 45 = .ok (.iconst 1, 1) := by decide +kernel
theorem d_M_cell_46 : decode prog_10_method_63_code 46 = .ok (.if_icmp .ne 13, 3) := by decide +kernel
theorem d_M_cell_49 : decode prog_10_method_63_code 49 = .ok (.aload_n 0, 1) := by decide +kernel
theorem d_M_cell_50 : decode prog_10_method_63_code 50 = .ok (.getfield 28, 3) := by decide +kernel
theorem d_M_cell_53 : decode prog_10_method_63_code 53 = .ok (.iload 4, 2) := by decide +kernel
theorem d_M_cell_55 : decode prog_10_method_63_code 55 = .ok (.iaload, 1) := by decide +kernel
theorem d_M_cell_56 : decode prog_10_method_63_code 56 = .ok (.goto 19, 3) := by decide +kernel
theorem d_M_cell_59 : decode prog_10_method_63_code 59 = .ok (.iload_n 3, 1) := by decide +kernel
theorem d_M_cell_60 : decode prog_10_method_63_code 60 = .ok (.iconst 2, 1) := by decide +kernel
theorem d_M_cell_61 : decode prog_10_method_63_code 61 = .ok (.if_icmp .ne 13, 3) := by decide +kernel
theorem d_M_cell_64 : decode prog_10_method_63_code 64 = .ok (.aload_n 0, 1) := by decide +kernel
theorem d_M_cell_65 : decode prog_10_method_63_code 65 = .ok (.getfield 31, 3) := by decide +kernel
theorem d_M_cell_68 : decode prog_10_method_63_code 68 = .ok (.iload 4, 2) := by decide +kernel
theorem d_M_cell_70 : decode prog_10_method_63_code 70 = .ok (.iaload, 1) := by decide +kernel
theorem d_M_cell_71 : decode prog_10_method_63_code 71 = .ok (.goto 4, 3) := by decide +kernel
theorem d_M_cell_74 : decode prog_10_method_63_code 74 = .ok (.iconst (-1), 1) := by decide +kernel
theorem d_M_cell_75 : decode prog_10_method_63_code 75 = .ok (.ireturn, 1) := by decide +kernel
theorem d_M_map_0 : decode prog_10_method_64_code 0 = .ok (.aload_n 0, 1) := by decide +kernel
theorem d_M_map_1 : decode prog_10_method_64_code 1 = .ok (.iconst 0, 1) := by decide +kernel
theorem d_M_map_2 : decode prog_10_method_64_code 2 = .ok (.putfield 103, 3) := by decide +kernel
theorem d_M_map_5 : decode prog_10_method_64_code 5 = .ok (.iload_n 1, 1) := by decide +kernel
theorem d_M_map_6 : decode prog_10_method_64_code 6 = .ok (.invokestatic 245, 3) := by decide +kernel
theorem d_M_map_9 : decode prog_10_method_64_code 9 = .ok (.ifCond .eq 13, 3) := by decide +kernel
theorem d_M_map_12 : decode prog_10_method_64_code 12 = .ok (.iload_n 2, 1) := by decide +kernel
theorem d_M_map_13 : decode prog_10_method_64_code 13 = .ok (.iconst 0, 1) := by decide +kernel
theorem d_M_map_14 : decode prog_10_method_64_code 14 = .ok (.bipush 15, 2) := by decide +kernel
theorem d_M_map_16 : decode prog_10_method_64_code 16 = .ok (.invokestatic 107, 3) := by decide +kernel
theorem d_M_map_19 : decode prog_10_method_64_code 19 = .ok (.ifCond .ne 5, 3) := by decide +kernel
theorem d_M_map_22 : decode prog_10_method_64_code 22 = .ok (.iconst (-1), 1) := by decide +kernel
theorem d_M_map_23 : decode prog_10_method_64_code 23 = .ok (.ireturn, 1) := by decide +kernel
theorem d_M_map_24 : decode prog_10_method_64_code 24 = .ok (.bipush 16, 2) := by decide +kernel
theorem d_M_map_26 : decode prog_10_method_64_code 26 = .ok (.iload_n 1, 1) := by decide +kernel
theorem d_M_map_27 : decode prog_10_method_64_code 27 = .ok (.imul, 1) := by decide +kernel
theorem d_M_map_28 : decode prog_10_method_64_code 28 = .ok (.iload_n 2, 1) := by decide +kernel
theorem d_M_map_29 : decode prog_10_method_64_code 29 = .ok (.iadd, 1) := by decide +kernel
theorem d_M_map_30 : decode prog_10_method_64_code 30 = .ok (.istore 4, 2) := by decide +kernel
theorem d_M_map_32 : decode prog_10_method_64_code 32 = .ok (.iload_n 3, 1) := by decide +kernel
theorem d_M_map_33 : decode prog_10_method_64_code 33 = .ok (.tableswitch 75 0 4 #[35, 43, 51, 59, 67], 35) := by decide +kernel
theorem d_M_map_68 : decode prog_10_method_64_code 68 = .ok (.aload_n 0, 1) := by decide +kernel
theorem d_M_map_69 : decode prog_10_method_64_code 69 = .ok (.getfield 34, 3) := by decide +kernel
theorem d_M_map_72 : decode prog_10_method_64_code 72 = .ok (.iload 4, 2) := by decide +kernel
theorem d_M_map_74 : decode prog_10_method_64_code 74 = .ok (.iaload, 1) := by decide +kernel
theorem d_M_map_75 : decode prog_10_method_64_code 75 = .ok (.ireturn, 1) := by decide +kernel
theorem d_M_map_76 : decode prog_10_method_64_code 76 = .ok (.aload_n 0, 1) := by decide +kernel
theorem d_M_map_77 : decode prog_10_method_64_code 77 = .ok (.getfield 37, 3) := by decide +kernel
theorem d_M_map_80 : decode prog_10_method_64_code 80 = .ok (.iload 4, 2) := by decide +kernel
theorem d_M_map_82 : decode prog_10_method_64_code 82 = .ok (.iaload, 1) := by decide +kernel
theorem d_M_map_83 : decode prog_10_method_64_code 83 = .ok (.ireturn, 1) := by decide +kernel
theorem d_M_map_84 : decode prog_10_method_64_code 84 = .ok (.aload_n 0, 1) := by decide +kernel
theorem d_M_map_85 : decode prog_10_method_64_code 85 = .ok (.getfield 40, 3) := by decide +kernel
theorem d_M_map_88 : decode prog_10_method_64_code 88 = .ok (.iload 4, 2) := by decide +kernel
theorem d_M_map_90 : decode prog_10_method_64_code 90 = .ok (.iaload, 1) := by decide +kernel
theorem d_M_map_91 : decode prog_10_method_64_code 91 = .ok (.ireturn, 1) := by decide +kernel
theorem d_M_map_92 : decode prog_10_method_64_code 92 = .ok (.aload_n 0, 1) := by decide +kernel
theorem d_M_map_93 : decode prog_10_method_64_code 93 = .ok (.getfield 43, 3) := by decide +kernel
theorem d_M_map_96 : decode prog_10_method_64_code 96 = .ok (.iload 4, 2) := by decide +kernel
theorem d_M_map_98 : decode prog_10_method_64_code 98 = .ok (.iaload, 1) := by decide +kernel
theorem d_M_map_99 : decode prog_10_method_64_code 99 = .ok (.ireturn, 1) := by decide +kernel
theorem d_M_map_100 : decode prog_10_method_64_code 100 = .ok (.aload_n 0, 1) := by decide +kernel
theorem d_M_map_101 : decode prog_10_method_64_code 101 = .ok (.getfield 46, 3) := by decide +kernel
theorem d_M_map_104 : decode prog_10_method_64_code 104 = .ok (.iload 4, 2) := by decide +kernel
theorem d_M_map_106 : decode prog_10_method_64_code 106 = .ok (.iaload, 1) := by decide +kernel
theorem d_M_map_107 : decode prog_10_method_64_code 107 = .ok (.ireturn, 1) := by decide +kernel
theorem d_M_map_108 : decode prog_10_method_64_code 108 = .ok (.iconst (-1), 1) := by decide +kernel
theorem d_M_map_109 : decode prog_10_method_64_code 109 = .ok (.ireturn, 1) := by decide +kernel
theorem d_M_task_0 : decode prog_10_method_65_code 0 = .ok (.aload_n 0, 1) := by decide +kernel
theorem d_M_task_1 : decode prog_10_method_65_code 1 = .ok (.iconst 0, 1) := by decide +kernel
theorem d_M_task_2 : decode prog_10_method_65_code 2 = .ok (.putfield 103, 3) := by decide +kernel
theorem d_M_task_5 : decode prog_10_method_65_code 5 = .ok (.iload_n 1, 1) := by decide +kernel
theorem d_M_task_6 : decode prog_10_method_65_code 6 = .ok (.invokestatic 245, 3) := by decide +kernel
theorem d_M_task_9 : decode prog_10_method_65_code 9 = .ok (.ifCond .eq 20, 3) := by decide +kernel
theorem d_M_task_12 : decode prog_10_method_65_code 12 = .ok (.aload_n 0, 1) := by decide +kernel
theorem d_M_task_13 : decode prog_10_method_65_code 13 = .ok (.iload_n 1, 1) := by decide +kernel
theorem d_M_task_14 : decode prog_10_method_65_code 14 = .ok (.invokevirtual 111, 3) := by decide +kernel
theorem d_M_task_17 : decode prog_10_method_65_code 17 = .ok (.ifCond .eq 12, 3) := by decide +kernel
theorem d_M_task_20 : decode prog_10_method_65_code 20 = .ok (.aload_n 0, 1) := by decide +kernel
theorem d_M_task_21 : decode prog_10_method_65_code 21 = .ok (.getfield 49, 3) := by decide +kernel
theorem d_M_task_24 : decode prog_10_method_65_code 24 = .ok (.iload_n 1, 1) := by decide +kernel
theorem d_M_task_25 : decode prog_10_method_65_code 25 = .ok (.iaload, 1) := by decide +kernel
theorem d_M_task_26 : decode prog_10_method_65_code 26 = .ok (.ifCond .ne 5, 3) := by decide +kernel
theorem d_M_task_29 : decode prog_10_method_65_code 29 = .ok (.iconst (-1), 1) := by decide +kernel
theorem d_M_task_30 : decode prog_10_method_65_code 30 = .ok (.ireturn, 1) := by decide +kernel
theorem d_M_task_31 : decode prog_10_method_65_code 31 = .ok (.iconst 4, 1) := by decide +kernel
theorem d_M_task_32 : decode prog_10_method_65_code 32 = .ok (.iload_n 1, 1) := by decide +kernel
theorem d_M_task_33 : decode prog_10_method_65_code 33 = .ok (.imul, 1) := by decide +kernel
theorem d_M_task_34 : decode prog_10_method_65_code 34 = .ok (.aload_n 0, 1) := by decide +kernel
theorem d_M_task_35 : decode prog_10_method_65_code 35 = .ok (.iload_n 1, 1) := by decide +kernel
theorem d_M_task_36 : decode prog_10_method_65_code 36 = .ok (.invokevirtual 135, 3) := by decide +kernel
theorem d_M_task_39 : decode prog_10_method_65_code 39 = .ok (.ifCond .eq 12, 3) := by decide +kernel
theorem d_M_task_42 : decode prog_10_method_65_code 42 = .ok (.aload_n 0, 1) := by decide +kernel
theorem d_M_task_43 : decode prog_10_method_65_code 43 = .ok (.getfield 58, 3) := by decide +kernel
theorem d_M_task_46 : decode prog_10_method_65_code 46 = .ok (.iload_n 1, 1) := by decide +kernel
theorem d_M_task_47 : decode prog_10_method_65_code 47 = .ok (.iaload, 1) := by decide +kernel
theorem d_M_task_48 : decode prog_10_method_65_code 48 = .ok (.goto 4, 3) := by decide +kernel
theorem d_M_task_51 : decode prog_10_method_65_code 51 = .ok (.iconst 0, 1) := by decide +kernel
theorem d_M_task_52 : decode prog_10_method_65_code 52 = .ok (.iadd, 1) := by decide +kernel
theorem d_M_task_53 : decode prog_10_method_65_code 53 = .ok (.istore_n 3, 1) := by decide +kernel
theorem d_M_task_54 : decode prog_10_method_65_code 54 = .ok (.iload_n 2, 1) := by decide +kernel
theorem d_M_task_55 : decode prog_10_method_65_code 55 = .ok (.tableswitch 174 0 9 #[53, 60, 67, 74, 81, 101, 108, 115, 134, 153], 53) := by decide +kernel
theorem d_M_task_108 : decode prog_10_method_65_code 108 = .ok (.aload_n 0, 1) := by decide +kernel
theorem d_M_task_109 : decode prog_10_method_65_code 109 = .ok (.getfield 49, 3) := by decide +kernel
theorem d_M_task_112 : decode prog_10_method_65_code 112 = .ok (.iload_n 1, 1) := by decide +kernel
theorem d_M_task_113 : decode prog_10_method_65_code 113 = .ok (.iaload, 1) := by decide +kernel
theorem d_M_task_114 : decode prog_10_method_65_code 114 = .ok (.ireturn, 1) := by decide +kernel
theorem d_M_task_115 : decode prog_10_method_65_code 115 = .ok (.aload_n 0, 1) := by decide +kernel
theorem d_M_task_116 : decode prog_10_method_65_code 116 = .ok (.getfield 52, 3) := by decide +kernel
theorem d_M_task_119 : decode prog_10_method_65_code 119 = .ok (.iload_n 1, 1) := by decide +kernel
theorem d_M_task_120 : decode prog_10_method_65_code 120 = .ok (.iaload, 1) := by decide +kernel
theorem d_M_task_121 : decode prog_10_method_65_code 121 = .ok (.ireturn, 1) := by decide +kernel
theorem d_M_task_122 : decode prog_10_method_65_code 122 = .ok (.aload_n 0, 1) := by decide +kernel
theorem d_M_task_123 : decode prog_10_method_65_code 123 = .ok (.getfield 55, 3) := by decide +kernel
theorem d_M_task_126 : decode prog_10_method_65_code 126 = .ok (.iload_n 1, 1) := by decide +kernel
theorem d_M_task_127 : decode prog_10_method_65_code 127 = .ok (.iaload, 1) := by decide +kernel
theorem d_M_task_128 : decode prog_10_method_65_code 128 = .ok (.ireturn, 1) := by decide +kernel
theorem d_M_task_129 : decode prog_10_method_65_code 129 = .ok (.aload_n 0, 1) := by decide +kernel
theorem d_M_task_130 : decode prog_10_method_65_code 130 = .ok (.getfield 58, 3) := by decide +kernel
theorem d_M_task_133 : decode prog_10_method_65_code 133 = .ok (.iload_n 1, 1) := by decide +kernel
theorem d_M_task_134 : decode prog_10_method_65_code 134 = .ok (.iaload, 1) := by decide +kernel
theorem d_M_task_135 : decode prog_10_method_65_code 135 = .ok (.ireturn, 1) := by decide +kernel
theorem d_M_task_136 : decode prog_10_method_65_code 136 = .ok (.aload_n 0, 1) := by decide +kernel
theorem d_M_task_137 : decode prog_10_method_65_code 137 = .ok (.getfield 55, 3) := by decide +kernel
theorem d_M_task_140 : decode prog_10_method_65_code 140 = .ok (.iload_n 1, 1) := by decide +kernel
theorem d_M_task_141 : decode prog_10_method_65_code 141 = .ok (.iaload, 1) := by decide +kernel
theorem d_M_task_142 : decode prog_10_method_65_code 142 = .ok (.ifCond .ne 12, 3) := by decide +kernel
theorem d_M_task_145 : decode prog_10_method_65_code 145 = .ok (.aload_n 0, 1) := by decide +kernel
theorem d_M_task_146 : decode prog_10_method_65_code 146 = .ok (.getfield 61, 3) := by decide +kernel
theorem d_M_task_149 : decode prog_10_method_65_code 149 = .ok (.iload_n 1, 1) := by decide +kernel
theorem d_M_task_150 : decode prog_10_method_65_code 150 = .ok (.iaload, 1) := by decide +kernel
theorem d_M_task_151 : decode prog_10_method_65_code 151 = .ok (.goto 4, 3) := by decide +kernel
theorem d_M_task_154 : decode prog_10_method_65_code 154 = .ok (.iconst 0, 1) := by decide +kernel
theorem d_M_task_155 : decode prog_10_method_65_code 155 = .ok (.ireturn, 1) := by decide +kernel
theorem d_M_task_156 : decode prog_10_method_65_code 156 = .ok (.aload_n 0, 1) := by decide +kernel
theorem d_M_task_157 : decode prog_10_method_65_code 157 = .ok (.getfield 64, 3) := by decide +kernel
theorem d_M_task_160 : decode prog_10_method_65_code 160 = .ok (.iload_n 1, 1) := by decide +kernel
theorem d_M_task_161 : decode prog_10_method_65_code 161 = .ok (.iaload, 1) := by decide +kernel
theorem d_M_task_162 : decode prog_10_method_65_code 162 = .ok (.ireturn, 1) := by decide +kernel
theorem d_M_task_163 : decode prog_10_method_65_code 163 = .ok (.aload_n 0, 1) := by decide +kernel
theorem d_M_task_164 : decode prog_10_method_65_code 164 = .ok (.getfield 67, 3) := by decide +kernel
theorem d_M_task_167 : decode prog_10_method_65_code 167 = .ok (.iload_n 1, 1) := by decide +kernel
theorem d_M_task_168 : decode prog_10_method_65_code 168 = .ok (.iaload, 1) := by decide +kernel
theorem d_M_task_169 : decode prog_10_method_65_code 169 = .ok (.ireturn, 1) := by decide +kernel
theorem d_M_task_170 : decode prog_10_method_65_code 170 = .ok (.aload_n 0, 1) := by decide +kernel
theorem d_M_task_171 : decode prog_10_method_65_code 171 = .ok (.iload_n 1, 1) := by decide +kernel
theorem d_M_task_172 : decode prog_10_method_65_code 172 = .ok (.invokevirtual 135, 3) := by decide +kernel
theorem d_M_task_175 : decode prog_10_method_65_code 175 = .ok (.ifCond .eq 12, 3) := by decide +kernel
theorem d_M_task_178 : decode prog_10_method_65_code 178 = .ok (.aload_n 0, 1) := by decide +kernel
theorem d_M_task_179 : decode prog_10_method_65_code 179 = .ok (.getfield 88, 3) := by decide +kernel
theorem d_M_task_182 : decode prog_10_method_65_code 182 = .ok (.iload_n 3, 1) := by decide +kernel
theorem d_M_task_183 : decode prog_10_method_65_code 183 = .ok (.iaload, 1) := by decide +kernel
theorem d_M_task_184 : decode prog_10_method_65_code 184 = .ok (.goto 4, 3) := by decide +kernel
theorem d_M_task_187 : decode prog_10_method_65_code 187 = .ok (.iconst 0, 1) := by decide +kernel
theorem d_M_task_188 : decode prog_10_method_65_code 188 = .ok (.ireturn, 1) := by decide +kernel
theorem d_M_task_189 : decode prog_10_method_65_code 189 = .ok (.aload_n 0, 1) := by decide +kernel
theorem d_M_task_190 : decode prog_10_method_65_code 190 = .ok (.iload_n 1, 1) := by decide +kernel
theorem d_M_task_191 : decode prog_10_method_65_code 191 = .ok (.invokevirtual 135, 3) := by decide +kernel
theorem d_M_task_194 : decode prog_10_method_65_code 194 = .ok (.ifCond .eq 12, 3) := by decide +kernel
theorem d_M_task_197 : decode prog_10_method_65_code 197 = .ok (.aload_n 0, 1) := by decide +kernel
theorem d_M_task_198 : decode prog_10_method_65_code 198 = .ok (.getfield 91, 3) := by decide +kernel
theorem d_M_task_201 : decode prog_10_method_65_code 201 = .ok (.iload_n 3, 1) := by decide +kernel
theorem d_M_task_202 : decode prog_10_method_65_code 202 = .ok (.iaload, 1) := by decide +kernel
theorem d_M_task_203 : decode prog_10_method_65_code 203 = .ok (.goto 4, 3) := by decide +kernel
theorem d_M_task_206 : decode prog_10_method_65_code 206 = .ok (.iconst 0, 1) := by decide +kernel
theorem d_M_task_207 : decode prog_10_method_65_code 207 = .ok (.ireturn, 1) := by decide +kernel
theorem d_M_task_208 : decode prog_10_method_65_code 208 = .ok (.aload_n 0, 1) := by decide +kernel
theorem d_M_task_209 : decode prog_10_method_65_code 209 = .ok (.getfield 52, 3) := by decide +kernel
theorem d_M_task_212 : decode prog_10_method_65_code 212 = .ok (.iload_n 1, 1) := by decide +kernel
theorem d_M_task_213 : decode prog_10_method_65_code 213 = .ok (.iaload, 1) := by decide +kernel
theorem d_M_task_214 : decode prog_10_method_65_code 214 = .ok (.iconst 3, 1) := by decide +kernel
theorem d_M_task_215 : decode prog_10_method_65_code 215 = .ok (.if_icmp .ne 12, 3) := by decide +kernel
theorem d_M_task_218 : decode prog_10_method_65_code 218 = .ok (.aload_n 0, 1) := by decide +kernel
theorem d_M_task_219 : decode prog_10_method_65_code 219 = .ok (.getfield 76, 3) := by decide +kernel
theorem d_M_task_222 : decode prog_10_method_65_code 222 = .ok (.iload_n 1, 1) := by decide +kernel
theorem d_M_task_223 : decode prog_10_method_65_code 223 = .ok (.iaload, 1) := by decide +kernel
theorem d_M_task_224 : decode prog_10_method_65_code 224 = .ok (.goto 4, 3) := by decide +kernel
theorem d_M_task_227 : decode prog_10_method_65_code 227 = .ok (.iconst 0, 1) := by decide +kernel
theorem d_M_task_228 : decode prog_10_method_65_code 228 = .ok (.ireturn, 1) := by decide +kernel
theorem d_M_task_229 : decode prog_10_method_65_code 229 = .ok (.iconst (-1), 1) := by decide +kernel
theorem d_M_task_230 : decode prog_10_method_65_code 230 = .ok (.ireturn, 1) := by decide +kernel
theorem d_M_message_0 : decode prog_10_method_66_code 0 = .ok (.aload_n 0, 1) := by decide +kernel
theorem d_M_message_1 : decode prog_10_method_66_code 1 = .ok (.iconst 0, 1) := by decide +kernel
theorem d_M_message_2 : decode prog_10_method_66_code 2 = .ok (.putfield 103, 3) := by decide +kernel
theorem d_M_message_5 : decode prog_10_method_66_code 5 = .ok (.iload_n 1, 1) := by decide +kernel
theorem d_M_message_6 : decode prog_10_method_66_code 6 = .ok (.iconst 0, 1) := by decide +kernel
theorem d_M_message_7 : decode prog_10_method_66_code 7 = .ok (.aload_n 0, 1) := by decide +kernel
theorem d_M_message_8 : decode prog_10_method_66_code 8 = .ok (.getfield 129, 3) := by decide +kernel
theorem d_M_message_11 : decode prog_10_method_66_code 11 = .ok (.iconst 1, 1) := by decide +kernel
theorem d_M_message_12 : decode prog_10_method_66_code 12 = .ok (.isub, 1) := by decide +kernel
theorem d_M_message_13 : decode prog_10_method_66_code 13 = .ok (.invokestatic 107, 3) := by decide +kernel
theorem d_M_message_16 : decode prog_10_method_66_code 16 = .ok (.ifCond .eq 13, 3) := by decide +kernel
theorem d_M_message_19 : decode prog_10_method_66_code 19 = .ok (.iload_n 2, 1) := by decide +kernel
theorem d_M_message_20 : decode prog_10_method_66_code 20 = .ok (.iconst 0, 1) := by decide +kernel
theorem d_M_message_21 : decode prog_10_method_66_code 21 = .ok (.bipush 9, 2) := by decide +kernel
theorem d_M_message_23 : decode prog_10_method_66_code 23 = .ok (.invokestatic 107, 3) := by decide +kernel
theorem d_M_message_26 : decode prog_10_method_66_code 26 = .ok (.ifCond .ne 5, 3) := by decide +kernel
theorem d_M_message_29 : decode prog_10_method_66_code 29 = .ok (.iconst (-1), 1) := by decide +kernel
theorem d_M_message_30 : decode prog_10_method_66_code 30 = .ok (.ireturn, 1) := by decide +kernel
theorem d_M_message_31 : decode prog_10_method_66_code 31 = .ok (.iload_n 2, 1) := by decide +kernel
theorem d_M_message_32 : decode prog_10_method_66_code 32 = .ok (.bipush 9, 2) := by decide +kernel
theorem d_M_message_34 : decode prog_10_method_66_code 34 = .ok (.if_icmp .ge 15, 3) := by decide +kernel
theorem d_M_message_37 : decode prog_10_method_66_code 37 = .ok (.aload_n 0, 1) := by decide +kernel
theorem d_M_message_38 : decode prog_10_method_66_code 38 = .ok (.getfield 97, 3) := by decide +kernel
theorem d_M_message_41 : decode prog_10_method_66_code 41 = .ok (.bipush 53, 2) := by decide +kernel
theorem d_M_message_43 : decode prog_10_method_66_code 43 = .ok (.iload_n 1, 1) := by decide +kernel
theorem d_M_message_44 : decode prog_10_method_66_code 44 = .ok (.imul, 1) := by decide +kernel
theorem d_M_message_45 : decode prog_10_method_66_code 45 = .ok (.iload_n 2, 1) := by decide +kernel
theorem d_M_message_46 : decode prog_10_method_66_code 46 = .ok (.iadd, 1) := by decide +kernel
theorem d_M_message_47 : decode prog_10_method_66_code 47 = .ok (.iaload, 1) := by decide +kernel
theorem d_M_message_48 : decode prog_10_method_66_code 48 = .ok (.ireturn, 1) := by decide +kernel
theorem d_M_message_49 : decode prog_10_method_66_code 49 = .ok (.iconst (-1), 1) := by decide +kernel
theorem d_M_message_50 : decode prog_10_method_66_code 50 = .ok (.istore_n 3, 1) := by decide +kernel
theorem d_M_message_51 : decode prog_10_method_66_code 51 = .ok (.iconst 0, 1) := by decide +kernel
theorem d_M_message_52 : decode prog_10_method_66_code 52 = .ok (.istore 4, 2) := by decide +kernel
theorem d_M_message_54 : decode prog_10_method_66_code 54 = .ok (.iload 4, 2) := by decide +kernel
theorem d_M_message_56 : decode prog_10_method_66_code 56 = .ok (.bipush 16, 2) := by decide +kernel
theorem d_M_message_58 : decode prog_10_method_66_code 58 = .ok (.if_icmp .ge 37, 3) := by decide +kernel
theorem d_M_message_61 : decode prog_10_method_66_code 61 = .ok (.aload_n 0, 1) := by decide +kernel
theorem d_M_message_62 : decode prog_10_method_66_code 62 = .ok (.getfield 97, 3) := by decide +kernel
theorem d_M_message_65 : decode prog_10_method_66_code 65 = .ok (.bipush 53, 2) := by decide +kernel
theorem d_M_message_67 : decode prog_10_method_66_code 67 = .ok (.iload_n 1, 1) := by decide +kernel
theorem d_M_message_68 : decode prog_10_method_66_code 68 = .ok (.imul, 1) := by decide +kernel
theorem d_M_message_69 : decode prog_10_method_66_code 69 = .ok (.bipush 9, 2) := by decide +kernel
theorem d_M_message_71 : decode prog_10_method_66_code 71 = .ok (.iadd, 1) := by decide +kernel
theorem d_M_message_72 : decode prog_10_method_66_code 72 = .ok (.iconst 2, 1) := by decide +kernel
theorem d_M_message_73 : decode prog_10_method_66_code 73 = .ok (.iload 4, 2) := by decide +kernel
theorem d_M_message_75 : decode prog_10_method_66_code 75 = .ok (.imul, 1) := by decide +kernel
theorem d_M_message_76 : decode prog_10_method_66_code 76 = .ok (.iadd, 1) := by decide +kernel
theorem d_M_message_77 : decode prog_10_method_66_code 77 = .ok (.iaload, 1) := by decide +kernel
theorem d_M_message_78 : decode prog_10_method_66_code 78 = .ok (.iconst 1, 1) := by decide +kernel
theorem d_M_message_79 : decode prog_10_method_66_code 79 = .ok (.if_icmp .ne 8, 3) := by decide +kernel
theorem d_M_message_82 : decode prog_10_method_66_code 82 = .ok (.iload 4, 2) := by decide +kernel
theorem d_M_message_84 : decode prog_10_method_66_code 84 = .ok (.goto 4, 3) := by decide +kernel
theorem d_M_message_87 : decode prog_10_method_66_code 87 = .ok (.iload_n 3, 1) := by decide +kernel
theorem d_M_message_88 : decode prog_10_method_66_code 88 = .ok (.istore_n 3, 1) := by decide +kernel
theorem d_M_message_89 : decode prog_10_method_66_code 89 = .ok (.iinc 4 1, 3) := by decide +kernel
theorem d_M_message_92 : decode prog_10_method_66_code 92 = .ok (.goto (-38), 3) := by decide +kernel
theorem d_M_message_95 : decode prog_10_method_66_code 95 = .ok (.iload_n 3, 1) := by decide +kernel
theorem d_M_message_96 : decode prog_10_method_66_code 96 = .ok (.ireturn, 1) := by decide +kernel
theorem d_M_count_0 : decode prog_10_method_67_code 0 = .ok (.aload_n 0, 1) := by decide +kernel
theorem d_M_count_1 : decode prog_10_method_67_code 1 = .ok (.iconst 0, 1) := by decide +kernel
theorem d_M_count_2 : decode prog_10_method_67_code 2 = .ok (.putfield 103, 3) := by decide +kernel
theorem d_M_count_5 : decode prog_10_method_67_code 5 = .ok (.iconst 0, 1) := by decide +kernel
theorem d_M_count_6 : decode prog_10_method_67_code 6 = .ok (.istore_n 2, 1) := by decide +kernel
theorem d_M_count_7 : decode prog_10_method_67_code 7 = .ok (.iconst 0, 1) := by decide +kernel
theorem d_M_count_8 : decode prog_10_method_67_code 8 = .ok (.istore_n 3, 1) := by decide +kernel
theorem d_M_count_9 : decode prog_10_method_67_code 9 = .ok (.iload_n 3, 1) := by decide +kernel
theorem d_M_count_10 : decode prog_10_method_67_code 10 = .ok (.bipush 8, 2) := by decide +kernel
theorem d_M_count_12 : decode prog_10_method_67_code 12 = .ok (.if_icmp .ge 25, 3) := by decide +kernel
theorem d_M_count_15 : decode prog_10_method_67_code 15 = .ok (.iload_n 2, 1) := by decide +kernel
theorem d_M_count_16 : decode prog_10_method_67_code 16 = .ok (.aload_n 0, 1) := by decide +kernel
theorem d_M_count_17 : decode prog_10_method_67_code 17 = .ok (.iload_n 3, 1) := by decide +kernel
theorem d_M_count_18 : decode prog_10_method_67_code 18 = .ok (.invokevirtual 111, 3) := by decide +kernel
theorem d_M_count_21 : decode prog_10_method_67_code 21 = .ok (.ifCond .eq 7, 3) := by decide +kernel
theorem d_M_count_24 : decode prog_10_method_67_code 24 = .ok (.iconst 1, 1) := by decide +kernel
theorem d_M_count_25 : decode prog_10_method_67_code 25 = .ok (.goto 4, 3) := by decide +kernel
theorem d_M_count_28 : decode prog_10_method_67_code 28 = .ok (.iconst 0, 1) := by decide +kernel
theorem d_M_count_29 : decode prog_10_method_67_code 29 = .ok (.iadd, 1) := by decide +kernel
theorem d_M_count_30 : decode prog_10_method_67_code 30 = .ok (.istore_n 2, 1) := by decide +kernel
theorem d_M_count_31 : decode prog_10_method_67_code 31 = .ok (.iinc 3 1, 3) := by decide +kernel
theorem d_M_count_34 : decode prog_10_method_67_code 34 = .ok (.goto (-25), 3) := by decide +kernel
theorem d_M_count_37 : decode prog_10_method_67_code 37 = .ok (.iload_n 1, 1) := by decide +kernel
theorem d_M_count_38 : decode prog_10_method_67_code 38 = .ok (.ifCond .ne 10, 3) := by decide +kernel
theorem d_M_count_41 : decode prog_10_method_67_code 41 = .ok (.aload_n 0, 1) := by decide +kernel
theorem d_M_count_42 : decode prog_10_method_67_code 42 = .ok (.getfield 129, 3) := by decide +kernel
theorem d_M_count_45 : decode prog_10_method_67_code 45 = .ok (.goto 49, 3) := by decide +kernel
theorem d_M_count_48 : decode prog_10_method_67_code 48 = .ok (.iload_n 1, 1) := by decide +kernel
theorem d_M_count_49 : decode prog_10_method_67_code 49 = .ok (.iconst 1, 1) := by decide +kernel
theorem d_M_count_50 : decode prog_10_method_67_code 50 = .ok (.if_icmp .ne 10, 3) := by decide +kernel
theorem d_M_count_53 : decode prog_10_method_67_code 53 = .ok (.aload_n 0, 1) := by decide +kernel
theorem d_M_count_54 : decode prog_10_method_67_code 54 = .ok (.getfield 248, 3) := by decide +kernel
theorem d_M_count_57 : decode prog_10_method_67_code 57 = .ok (.goto 37, 3) := by decide +kernel
theorem d_M_count_60 : decode prog_10_method_67_code 60 = .ok (.iload_n 1, 1) := by decide +kernel
theorem d_M_count_61 : decode prog_10_method_67_code 61 = .ok (.iconst 2, 1) := by decide +kernel
theorem d_M_count_62 : decode prog_10_method_67_code 62 = .ok (.if_icmp .ne 10, 3) := by decide +kernel
theorem d_M_count_65 : decode prog_10_method_67_code 65 = .ok (.aload_n 0, 1) := by decide +kernel
theorem d_M_count_66 : decode prog_10_method_67_code 66 = .ok (.getfield 119, 3) := by decide +kernel
theorem d_M_count_69 : decode prog_10_method_67_code 69 = .ok (.goto 25, 3) := by decide +kernel
theorem d_M_count_72 : decode prog_10_method_67_code 72 = .ok (.iload_n 1, 1) := by decide +kernel
theorem d_M_count_73 : decode prog_10_method_67_code 73 = .ok (.iconst 3, 1) := by decide +kernel
theorem d_M_count_74 : decode prog_10_method_67_code 74 = .ok (.if_icmp .ne 7, 3) := by decide +kernel
theorem d_M_count_77 : decode prog_10_method_67_code 77 = .ok (.iload_n 2, 1) := by decide +kernel
theorem d_M_count_78 : decode prog_10_method_67_code 78 = .ok (.goto 16, 3) := by decide +kernel
theorem d_M_count_81 : decode prog_10_method_67_code 81 = .ok (.iload_n 1, 1) := by decide +kernel
theorem d_M_count_82 : decode prog_10_method_67_code 82 = .ok (.iconst 4, 1) := by decide +kernel
theorem d_M_count_83 : decode prog_10_method_67_code 83 = .ok (.if_icmp .ne 10, 3) := by decide +kernel
theorem d_M_count_86 : decode prog_10_method_67_code 86 = .ok (.aload_n 0, 1) := by decide +kernel
theorem d_M_count_87 : decode prog_10_method_67_code 87 = .ok (.getfield 132, 3) := by decide +kernel
theorem d_M_count_90 : decode prog_10_method_67_code 90 = .ok (.goto 4, 3) := by decide +kernel
theorem d_M_count_93 : decode prog_10_method_67_code 93 = .ok (.iconst (-1), 1) := by decide +kernel
theorem d_M_count_94 : decode prog_10_method_67_code 94 = .ok (.ireturn, 1) := by decide +kernel
theorem d_Co_init_0 : decode prog_2_method_1_code 0 = .ok (.aload_n 0, 1) := by decide +kernel
theorem d_Co_init_1 : decode prog_2_method_1_code 1 = .ok (.invokespecial 3, 3) := by decide +kernel
theorem d_Co_init_4 : decode prog_2_method_1_code 4 = .ok (.aload_n 0, 1) := by decide +kernel
theorem d_Co_init_5 : decode prog_2_method_1_code 5 = .ok (.iconst 4, 1) := by decide +kernel
theorem d_Co_init_6 : decode prog_2_method_1_code 6 = .ok (.newarray .int, 2) := by decide +kernel
theorem d_Co_init_8 : decode prog_2_method_1_code 8 = .ok (.putfield 9, 3) := by decide +kernel
theorem d_Co_init_11 : decode prog_2_method_1_code 11 = .ok (.aload_n 0, 1) := by decide +kernel
theorem d_Co_init_12 : decode prog_2_method_1_code 12 = .ok (.iconst 4, 1) := by decide +kernel
theorem d_Co_init_13 : decode prog_2_method_1_code 13 = .ok (.newarray .int, 2) := by decide +kernel
theorem d_Co_init_15 : decode prog_2_method_1_code 15 = .ok (.putfield 15, 3) := by decide +kernel
theorem d_Co_init_18 : decode prog_2_method_1_code 18 = .ok (.aload_n 0, 1) := by decide +kernel
theorem d_Co_init_19 : decode prog_2_method_1_code 19 = .ok (.iconst 4, 1) := by decide +kernel
theorem d_Co_init_20 : decode prog_2_method_1_code 20 = .ok (.newarray .int, 2) := by decide +kernel
theorem d_Co_init_22 : decode prog_2_method_1_code 22 = .ok (.putfield 18, 3) := by decide +kernel
theorem d_Co_init_25 : decode prog_2_method_1_code 25 = .ok (.return_, 1) := by decide +kernel
theorem d_Co_numberOf_0 : decode prog_2_method_2_code 0 = .ok (.iload_n 1, 1) := by decide +kernel
theorem d_Co_numberOf_1 : decode prog_2_method_2_code 1 = .ok (.invokestatic 21, 3) := by decide +kernel
theorem d_Co_numberOf_4 : decode prog_2_method_2_code 4 = .ok (.ifCond .eq 12, 3) := by decide +kernel
theorem d_Co_numberOf_7 : decode prog_2_method_2_code 7 = .ok (.aload_n 0, 1) := by decide +kernel
theorem d_Co_numberOf_8 : decode prog_2_method_2_code 8 = .ok (.getfield 9, 3) := by decide +kernel
theorem d_Co_numberOf_11 : decode prog_2_method_2_code 11 = .ok (.iload_n 1, 1) := by decide +kernel
theorem d_Co_numberOf_12 : decode prog_2_method_2_code 12 = .ok (.iaload, 1) := by decide +kernel
theorem d_Co_numberOf_13 : decode prog_2_method_2_code 13 = .ok (.goto 4, 3) := by decide +kernel
theorem d_Co_numberOf_16 : decode prog_2_method_2_code 16 = .ok (.iconst 0, 1) := by decide +kernel
theorem d_Co_numberOf_17 : decode prog_2_method_2_code 17 = .ok (.ireturn, 1) := by decide +kernel
theorem d_Co_writerOf_0 : decode prog_2_method_3_code 0 = .ok (.iload_n 1, 1) := by decide +kernel
theorem d_Co_writerOf_1 : decode prog_2_method_3_code 1 = .ok (.invokestatic 21, 3) := by decide +kernel
theorem d_Co_writerOf_4 : decode prog_2_method_3_code 4 = .ok (.ifCond .eq 12, 3) := by decide +kernel
theorem d_Co_writerOf_7 : decode prog_2_method_3_code 7 = .ok (.aload_n 0, 1) := by decide +kernel
theorem d_Co_writerOf_8 : decode prog_2_method_3_code 8 = .ok (.getfield 15, 3) := by decide +kernel
theorem d_Co_writerOf_11 : decode prog_2_method_3_code 11 = .ok (.iload_n 1, 1) := by decide +kernel
theorem d_Co_writerOf_12 : decode prog_2_method_3_code 12 = .ok (.iaload, 1) := by decide +kernel
theorem d_Co_writerOf_13 : decode prog_2_method_3_code 13 = .ok (.goto 4, 3) := by decide +kernel
theorem d_Co_writerOf_16 : decode prog_2_method_3_code 16 = .ok (.iconst 0, 1) := by decide +kernel
theorem d_Co_writerOf_17 : decode prog_2_method_3_code 17 = .ok (.ireturn, 1) := by decide +kernel
theorem d_Co_valueOf_0 : decode prog_2_method_4_code 0 = .ok (.iload_n 1, 1) := by decide +kernel
theorem d_Co_valueOf_1 : decode prog_2_method_4_code 1 = .ok (.invokestatic 21, 3) := by decide +kernel
theorem d_Co_valueOf_4 : decode prog_2_method_4_code 4 = .ok (.ifCond .eq 12, 3) := by decide +kernel
theorem d_Co_valueOf_7 : decode prog_2_method_4_code 7 = .ok (.aload_n 0, 1) := by decide +kernel
theorem d_Co_valueOf_8 : decode prog_2_method_4_code 8 = .ok (.getfield 18, 3) := by decide +kernel
theorem d_Co_valueOf_11 : decode prog_2_method_4_code 11 = .ok (.iload_n 1, 1) := by decide +kernel
theorem d_Co_valueOf_12 : decode prog_2_method_4_code 12 = .ok (.iaload, 1) := by decide +kernel
theorem d_Co_valueOf_13 : decode prog_2_method_4_code 13 = .ok (.goto 4, 3) := by decide +kernel
theorem d_Co_valueOf_16 : decode prog_2_method_4_code 16 = .ok (.iconst 0, 1) := by decide +kernel
theorem d_Co_valueOf_17 : decode prog_2_method_4_code 17 = .ok (.ireturn, 1) := by decide +kernel
theorem d_Co_put_0 : decode prog_2_method_5_code 0 = .ok (.iload_n 1, 1) := by decide +kernel
theorem d_Co_put_1 : decode prog_2_method_5_code 1 = .ok (.invokestatic 21, 3) := by decide +kernel
theorem d_Co_put_4 : decode prog_2_method_5_code 4 = .ok (.ifCond .eq 25, 3) := by decide +kernel
theorem d_Co_put_7 : decode prog_2_method_5_code 7 = .ok (.aload_n 0, 1) := by decide +kernel
theorem d_Co_put_8 : decode prog_2_method_5_code 8 = .ok (.getfield 9, 3) := by decide +kernel
theorem d_Co_put_11 : decode prog_2_method_5_code 11 = .ok (.iload_n 1, 1) := by decide +kernel
theorem d_Co_put_12 : decode prog_2_method_5_code 12 = .ok (.iload_n 2, 1) := by decide +kernel
theorem d_Co_put_13 : decode prog_2_method_5_code 13 = .ok (.iastore, 1) := by decide +kernel
theorem d_Co_put_14 : decode prog_2_method_5_code 14 = .ok (.aload_n 0, 1) := by decide +kernel
theorem d_Co_put_15 : decode prog_2_method_5_code 15 = .ok (.getfield 15, 3) := by decide +kernel
theorem d_Co_put_18 : decode prog_2_method_5_code 18 = .ok (.iload_n 1, 1) := by decide +kernel
theorem d_Co_put_19 : decode prog_2_method_5_code 19 = .ok (.iload_n 3, 1) := by decide +kernel
theorem d_Co_put_20 : decode prog_2_method_5_code 20 = .ok (.iastore, 1) := by decide +kernel
theorem d_Co_put_21 : decode prog_2_method_5_code 21 = .ok (.aload_n 0, 1) := by decide +kernel
theorem d_Co_put_22 : decode prog_2_method_5_code 22 = .ok (.getfield 18, 3) := by decide +kernel
theorem d_Co_put_25 : decode prog_2_method_5_code 25 = .ok (.iload_n 1, 1) := by decide +kernel
theorem d_Co_put_26 : decode prog_2_method_5_code 26 = .ok (.iload 4, 2) := by decide +kernel
theorem d_Co_put_28 : decode prog_2_method_5_code 28 = .ok (.iastore, 1) := by decide +kernel
theorem d_Co_put_29 : decode prog_2_method_5_code 29 = .ok (.return_, 1) := by decide +kernel
theorem d_Co_copyFrom_0 : decode prog_2_method_6_code 0 = .ok (.aload_n 1, 1) := by decide +kernel
theorem d_Co_copyFrom_1 : decode prog_2_method_6_code 1 = .ok (.getfield 9, 3) := by decide +kernel
theorem d_Co_copyFrom_4 : decode prog_2_method_6_code 4 = .ok (.iconst 0, 1) := by decide +kernel
theorem d_Co_copyFrom_5 : decode prog_2_method_6_code 5 = .ok (.aload_n 0, 1) := by decide +kernel
theorem d_Co_copyFrom_6 : decode prog_2_method_6_code 6 = .ok (.getfield 9, 3) := by decide +kernel
theorem d_Co_copyFrom_9 : decode prog_2_method_6_code 9 = .ok (.iconst 0, 1) := by decide +kernel
theorem d_Co_copyFrom_10 : decode prog_2_method_6_code 10 = .ok (.iconst 4, 1) := by decide +kernel
theorem d_Co_copyFrom_11 : decode prog_2_method_6_code 11 = .ok (.invokestatic 25, 3) := by decide +kernel
theorem d_Co_copyFrom_14 : decode prog_2_method_6_code 14 = .ok (.aload_n 1, 1) := by decide +kernel
theorem d_Co_copyFrom_15 : decode prog_2_method_6_code 15 = .ok (.getfield 15, 3) := by decide +kernel
theorem d_Co_copyFrom_18 : decode prog_2_method_6_code 18 = .ok (.iconst 0, 1) := by decide +kernel
theorem d_Co_copyFrom_19 : decode prog_2_method_6_code 19 = .ok (.aload_n 0, 1) := by decide +kernel
theorem d_Co_copyFrom_20 : decode prog_2_method_6_code 20 = .ok (.getfield 15, 3) := by decide +kernel
theorem d_Co_copyFrom_23 : decode prog_2_method_6_code 23 = .ok (.iconst 0, 1) := by decide +kernel
theorem d_Co_copyFrom_24 : decode prog_2_method_6_code 24 = .ok (.iconst 4, 1) := by decide +kernel
theorem d_Co_copyFrom_25 : decode prog_2_method_6_code 25 = .ok (.invokestatic 25, 3) := by decide +kernel
theorem d_Co_copyFrom_28 : decode prog_2_method_6_code 28 = .ok (.aload_n 1, 1) := by decide +kernel
theorem d_Co_copyFrom_29 : decode prog_2_method_6_code 29 = .ok (.getfield 18, 3) := by decide +kernel
theorem d_Co_copyFrom_32 : decode prog_2_method_6_code 32 = .ok (.iconst 0, 1) := by decide +kernel
theorem d_Co_copyFrom_33 : decode prog_2_method_6_code 33 = .ok (.aload_n 0, 1) := by decide +kernel
theorem d_Co_copyFrom_34 : decode prog_2_method_6_code 34 = .ok (.getfield 18, 3) := by decide +kernel
theorem d_Co_copyFrom_37 : decode prog_2_method_6_code 37 = .ok (.iconst 0, 1) := by decide +kernel
theorem d_Co_copyFrom_38 : decode prog_2_method_6_code 38 = .ok (.iconst 4, 1) := by decide +kernel
theorem d_Co_copyFrom_39 : decode prog_2_method_6_code 39 = .ok (.invokestatic 25, 3) := by decide +kernel
theorem d_Co_copyFrom_42 : decode prog_2_method_6_code 42 = .ok (.return_, 1) := by decide +kernel
theorem d_Co_takeGreater_0 : decode prog_2_method_7_code 0 = .ok (.iconst 0, 1) := by decide +kernel
theorem d_Co_takeGreater_1 : decode prog_2_method_7_code 1 = .ok (.istore_n 3, 1) := by decide +kernel
theorem d_Co_takeGreater_2 : decode prog_2_method_7_code 2 = .ok (.iload_n 3, 1) := by decide +kernel
theorem d_Co_takeGreater_3 : decode prog_2_method_7_code 3 = .ok (.iconst 4, 1) := by decide +kernel
theorem d_Co_takeGreater_4 : decode prog_2_method_7_code 4 = .ok (.if_icmp .ge 32, 3) := by decide +kernel
theorem d_Co_takeGreater_7 : decode prog_2_method_7_code 7 = .ok (.iload_n 2, 1) := by decide +kernel
theorem d_Co_takeGreater_8 : decode prog_2_method_7_code 8 = .ok (.iload_n 3, 1) := by decide +kernel
theorem d_Co_takeGreater_9 : decode prog_2_method_7_code 9 = .ok (.invokestatic 31, 3) := by decide +kernel
theorem d_Co_takeGreater_12 : decode prog_2_method_7_code 12 = .ok (.ifCond .eq 18, 3) := by decide +kernel
theorem d_Co_takeGreater_15 : decode prog_2_method_7_code 15 = .ok (.aload_n 0, 1) := by decide +kernel
theorem d_Co_takeGreater_16 : decode prog_2_method_7_code 16 = .ok (.iload_n 3, 1) := by decide +kernel
theorem d_Co_takeGreater_17 : decode prog_2_method_7_code 17 = .ok (.aload_n 1, 1) := by decide +kernel
theorem d_Co_takeGreater_18 : decode prog_2_method_7_code 18 = .ok (.invokevirtual 35, 3) := by decide +kernel
