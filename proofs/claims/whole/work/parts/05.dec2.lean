theorem d_M_chosen_24 : decode prog_10_method_25_code 24 = .ok (.ireturn, 1) := by decide +kernel
theorem d_M_request_0 : decode prog_10_method_26_code 0 = .ok (.iconst 4, 1) := by decide +kernel
theorem d_M_request_1 : decode prog_10_method_26_code 1 = .ok (.iload_n 1, 1) := by decide +kernel
theorem d_M_request_2 : decode prog_10_method_26_code 2 = .ok (.imul, 1) := by decide +kernel
theorem d_M_request_3 : decode prog_10_method_26_code 3 = .ok (.aload_n 0, 1) := by decide +kernel
theorem d_M_request_4 : decode prog_10_method_26_code 4 = .ok (.getfield 58, 3) := by decide +kernel
theorem d_M_request_7 : decode prog_10_method_26_code 7 = .ok (.iload_n 1, 1) := by decide +kernel
theorem d_M_request_8 : decode prog_10_method_26_code 8 = .ok (.iaload, 1) := by decide +kernel
theorem d_M_request_9 : decode prog_10_method_26_code 9 = .ok (.iadd, 1) := by decide +kernel
theorem d_M_request_10 : decode prog_10_method_26_code 10 = .ok (.istore_n 3, 1) := by decide +kernel
theorem d_M_request_11 : decode prog_10_method_26_code 11 = .ok (.aload_n 0, 1) := by decide +kernel
theorem d_M_request_12 : decode prog_10_method_26_code 12 = .ok (.iload_n 1, 1) := by decide +kernel
theorem d_M_request_13 : decode prog_10_method_26_code 13 = .ok (.invokevirtual 135, 3) := by decide +kernel
theorem d_M_request_16 : decode prog_10_method_26_code 16 = .ok (.ifCond .eq 94, 3) := by decide +kernel
theorem d_M_request_19 : decode prog_10_method_26_code 19 = .ok (.aload_n 0, 1) := by decide +kernel
theorem d_M_request_20 : decode prog_10_method_26_code 20 = .ok (.getfield 55, 3) := by decide +kernel
theorem d_M_request_23 : decode prog_10_method_26_code 23 = .ok (.iload_n 1, 1) := by decide +kernel
theorem d_M_request_24 : decode prog_10_method_26_code 24 = .ok (.iaload, 1) := by decide +kernel
theorem d_M_request_25 : decode prog_10_method_26_code 25 = .ok (.iconst 1, 1) := by decide +kernel
theorem d_M_request_26 : decode prog_10_method_26_code 26 = .ok (.if_icmp .ne 36, 3) := by decide +kernel
theorem d_M_request_29 : decode prog_10_method_26_code 29 = .ok (.aload_n 0, 1) := by decide +kernel
theorem d_M_request_30 : decode prog_10_method_26_code 30 = .ok (.iconst 1, 1) := by decide +kernel
theorem d_M_request_31 : decode prog_10_method_26_code 31 = .ok (.iload_n 1, 1) := by decide +kernel
theorem d_M_request_32 : decode prog_10_method_26_code 32 = .ok (.iload_n 2, 1) := by decide +kernel
theorem d_M_request_33 : decode prog_10_method_26_code 33 = .ok (.aload_n 0, 1) := by decide +kernel
theorem d_M_request_34 : decode prog_10_method_26_code 34 = .ok (.getfield 13, 3) := by decide +kernel
theorem d_M_request_37 : decode prog_10_method_26_code 37 = .ok (.iload_n 1, 1) := by decide +kernel
theorem d_M_request_38 : decode prog_10_method_26_code 38 = .ok (.iaload, 1) := by decide +kernel
theorem d_M_request_39 : decode prog_10_method_26_code 39 = .ok (.aload_n 0, 1) := by decide +kernel
theorem d_M_request_40 : decode prog_10_method_26_code 40 = .ok (.getfield 22, 3) := by decide +kernel
theorem d_M_request_43 : decode prog_10_method_26_code 43 = .ok (.iload_n 1, 1) := by decide +kernel
theorem d_M_request_44 : decode prog_10_method_26_code 44 = .ok (.iaload, 1) := by decide +kernel
theorem d_M_request_45 : decode prog_10_method_26_code 45 = .ok (.aload_n 0, 1) := by decide +kernel
theorem d_M_request_46 : decode prog_10_method_26_code 46 = .ok (.getfield 58, 3) := by decide +kernel
theorem d_M_request_49 : decode prog_10_method_26_code 49 = .ok (.iload_n 1, 1) := by decide +kernel
theorem d_M_request_50 : decode prog_10_method_26_code 50 = .ok (.iaload, 1) := by decide +kernel
theorem d_M_request_51 : decode prog_10_method_26_code 51 = .ok (.iconst 0, 1) := by decide +kernel
theorem d_M_request_52 : decode prog_10_method_26_code 52 = .ok (.iconst 0, 1) := by decide +kernel
theorem d_M_request_53 : decode prog_10_method_26_code 53 = .ok (.iconst 0, 1) := by decide +kernel
theorem d_M_request_54 : decode prog_10_method_26_code 54 = .ok (.iconst 0, 1) := by decide +kernel
theorem d_M_request_55 : decode prog_10_method_26_code 55 = .ok (.iconst 0, 1) := by decide +kernel
theorem d_M_request_56 : decode prog_10_method_26_code 56 = .ok (.invokevirtual 138, 3) := by decide +kernel
theorem d_M_request_59 : decode prog_10_method_26_code 59 = .ok (.goto 207, 3) := by decide +kernel
theorem d_M_request_62 : decode prog_10_method_26_code 62 = .ok (.aload_n 0, 1) := by decide +kernel
theorem d_M_request_63 : decode prog_10_method_26_code 63 = .ok (.iconst 3, 1) := by decide +kernel
theorem d_M_request_64 : decode prog_10_method_26_code 64 = .ok (.iload_n 1, 1) := by decide +kernel
theorem d_M_request_65 : decode prog_10_method_26_code 65 = .ok (.iload_n 2, 1) := by decide +kernel
theorem d_M_request_66 : decode prog_10_method_26_code 66 = .ok (.aload_n 0, 1) := by decide +kernel
theorem d_M_request_67 : decode prog_10_method_26_code 67 = .ok (.getfield 13, 3) := by decide +kernel
theorem d_M_request_70 : decode prog_10_method_26_code 70 = .ok (.iload_n 1, 1) := by decide +kernel
theorem d_M_request_71 : decode prog_10_method_26_code 71 = .ok (.iaload, 1) := by decide +kernel
theorem d_M_request_72 : decode prog_10_method_26_code 72 = .ok (.aload_n 0, 1) := by decide +kernel
theorem d_M_request_73 : decode prog_10_method_26_code 73 = .ok (.getfield 22, 3) := by decide +kernel
theorem d_M_request_76 : decode prog_10_method_26_code 76 = .ok (.iload_n 1, 1) := by decide +kernel
theorem d_M_request_77 : decode prog_10_method_26_code 77 = .ok (.iaload, 1) := by decide +kernel
theorem d_M_request_78 : decode prog_10_method_26_code 78 = .ok (.aload_n 0, 1) := by decide +kernel
theorem d_M_request_79 : decode prog_10_method_26_code 79 = .ok (.getfield 58, 3) := by decide +kernel
theorem d_M_request_82 : decode prog_10_method_26_code 82 = .ok (.iload_n 1, 1) := by decide +kernel
theorem d_M_request_83 : decode prog_10_method_26_code 83 = .ok (.iaload, 1) := by decide +kernel
theorem d_M_request_84 : decode prog_10_method_26_code 84 = .ok (.aload_n 0, 1) := by decide +kernel
theorem d_M_request_85 : decode prog_10_method_26_code 85 = .ok (.getfield 88, 3) := by decide +kernel
theorem d_M_request_88 : decode prog_10_method_26_code 88 = .ok (.iload_n 3, 1) := by decide +kernel
theorem d_M_request_89 : decode prog_10_method_26_code 89 = .ok (.iaload, 1) := by decide +kernel
theorem d_M_request_90 : decode prog_10_method_26_code 90 = .ok (.aload_n 0, 1) := by decide +kernel
theorem d_M_request_91 : decode prog_10_method_26_code 91 = .ok (.getfield 91, 3) := by decide +kernel
theorem d_M_request_94 : decode prog_10_method_26_code 94 = .ok (.iload_n 3, 1) := by decide +kernel
theorem d_M_request_95 : decode prog_10_method_26_code 95 = .ok (.iaload, 1) := by decide +kernel
theorem d_M_request_96 : decode prog_10_method_26_code 96 = .ok (.aload_n 0, 1) := by decide +kernel
theorem d_M_request_97 : decode prog_10_method_26_code 97 = .ok (.getfield 94, 3) := by decide +kernel
theorem d_M_request_100 : decode prog_10_method_26_code 100 = .ok (.iload_n 3, 1) := by decide +kernel
theorem d_M_request_101 : decode prog_10_method_26_code 101 = .ok (.iaload, 1) := by decide +kernel
theorem d_M_request_102 : decode prog_10_method_26_code 102 = .ok (.iconst 0, 1) := by decide +kernel
theorem d_M_request_103 : decode prog_10_method_26_code 103 = .ok (.iconst 0, 1) := by decide +kernel
theorem d_M_request_104 : decode prog_10_method_26_code 104 = .ok (.invokevirtual 138, 3) := by decide +kernel
theorem d_M_request_107 : decode prog_10_method_26_code 107 = .ok (.goto 159, 3) := by decide +kernel
theorem d_M_request_110 : decode prog_10_method_26_code 110 = .ok (.aload_n 0, 1) := by decide +kernel
theorem d_M_request_111 : decode prog_10_method_26_code 111 = .ok (.getfield 52, 3) := by decide +kernel
theorem d_M_request_114 : decode prog_10_method_26_code 114 = .ok (.iload_n 1, 1) := by decide +kernel
theorem d_M_request_115 : decode prog_10_method_26_code 115 = .ok (.iaload, 1) := by decide +kernel
theorem d_M_request_116 : decode prog_10_method_26_code 116 = .ok (.iconst 3, 1) := by decide +kernel
theorem d_M_request_117 : decode prog_10_method_26_code 117 = .ok (.if_icmp .ne 94, 3) := by decide +kernel
theorem d_M_request_120 : decode prog_10_method_26_code 120 = .ok (.aload_n 0, 1) := by decide +kernel
theorem d_M_request_121 : decode prog_10_method_26_code 121 = .ok (.getfield 55, 3) := by decide +kernel
theorem d_M_request_124 : decode prog_10_method_26_code 124 = .ok (.iload_n 1, 1) := by decide +kernel
theorem d_M_request_125 : decode prog_10_method_26_code 125 = .ok (.iaload, 1) := by decide +kernel
theorem d_M_request_126 : decode prog_10_method_26_code 126 = .ok (.iconst 1, 1) := by decide +kernel
theorem d_M_request_127 : decode prog_10_method_26_code 127 = .ok (.if_icmp .ne 41, 3) := by decide +kernel
theorem d_M_request_130 : decode prog_10_method_26_code 130 = .ok (.aload_n 0, 1) := by decide +kernel
theorem d_M_request_131 : decode prog_10_method_26_code 131 = .ok (.iconst 5, 1) := by decide +kernel
theorem d_M_request_132 : decode prog_10_method_26_code 132 = .ok (.iload_n 1, 1) := by decide +kernel
theorem d_M_request_133 : decode prog_10_method_26_code 133 = .ok (.iload_n 2, 1) := by decide +kernel
theorem d_M_request_134 : decode prog_10_method_26_code 134 = .ok (.aload_n 0, 1) := by decide +kernel
theorem d_M_request_135 : decode prog_10_method_26_code 135 = .ok (.getfield 13, 3) := by decide +kernel
theorem d_M_request_138 : decode prog_10_method_26_code 138 = .ok (.iload_n 1, 1) := by decide +kernel
theorem d_M_request_139 : decode prog_10_method_26_code 139 = .ok (.iaload, 1) := by decide +kernel
theorem d_M_request_140 : decode prog_10_method_26_code 140 = .ok (.aload_n 0, 1) := by decide +kernel
theorem d_M_request_141 : decode prog_10_method_26_code 141 = .ok (.getfield 22, 3) := by decide +kernel
theorem d_M_request_144 : decode prog_10_method_26_code 144 = .ok (.iload_n 1, 1) := by decide +kernel
theorem d_M_request_145 : decode prog_10_method_26_code 145 = .ok (.iaload, 1) := by decide +kernel
theorem d_M_request_146 : decode prog_10_method_26_code 146 = .ok (.aload_n 0, 1) := by decide +kernel
theorem d_M_request_147 : decode prog_10_method_26_code 147 = .ok (.getfield 58, 3) := by decide +kernel
theorem d_M_request_150 : decode prog_10_method_26_code 150 = .ok (.iload_n 1, 1) := by decide +kernel
theorem d_M_request_151 : decode prog_10_method_26_code 151 = .ok (.iaload, 1) := by decide +kernel
theorem d_M_request_152 : decode prog_10_method_26_code 152 = .ok (.aload_n 0, 1) := by decide +kernel
theorem d_M_request_153 : decode prog_10_method_26_code 153 = .ok (.getfield 76, 3) := by decide +kernel
theorem d_M_request_156 : decode prog_10_method_26_code 156 = .ok (.iload_n 1, 1) := by decide +kernel
theorem d_M_request_157 : decode prog_10_method_26_code 157 = .ok (.iaload, 1) := by decide +kernel
theorem d_M_request_158 : decode prog_10_method_26_code 158 = .ok (.iconst 0, 1) := by decide +kernel
theorem d_M_request_159 : decode prog_10_method_26_code 159 = .ok (.iconst 0, 1) := by decide +kernel
theorem d_M_request_160 : decode prog_10_method_26_code 160 = .ok (.iconst 0, 1) := by decide +kernel
theorem d_M_request_161 : decode prog_10_method_26_code 161 = .ok (.iconst 0, 1) := by decide +kernel
theorem d_M_request_162 : decode prog_10_method_26_code 162 = .ok (.invokevirtual 138, 3) := by decide +kernel
theorem d_M_request_165 : decode prog_10_method_26_code 165 = .ok (.goto 101, 3) := by decide +kernel
theorem d_M_request_168 : decode prog_10_method_26_code 168 = .ok (.aload_n 0, 1) := by decide +kernel
theorem d_M_request_169 : decode prog_10_method_26_code 169 = .ok (.bipush 7, 2) := by decide +kernel
theorem d_M_request_171 : decode prog_10_method_26_code 171 = .ok (.iload_n 1, 1) := by decide +kernel
theorem d_M_request_172 : decode prog_10_method_26_code 172 = .ok (.iload_n 2, 1) := by decide +kernel
theorem d_M_request_173 : decode prog_10_method_26_code 173 = .ok (.aload_n 0, 1) := by decide +kernel
theorem d_M_request_174 : decode prog_10_method_26_code 174 = .ok (.getfield 13, 3) := by decide +kernel
theorem d_M_request_177 : decode prog_10_method_26_code 177 = .ok (.iload_n 1, 1) := by decide +kernel
theorem d_M_request_178 : decode prog_10_method_26_code 178 = .ok (.iaload, 1) := by decide +kernel
theorem d_M_request_179 : decode prog_10_method_26_code 179 = .ok (.aload_n 0, 1) := by decide +kernel
theorem d_M_request_180 : decode prog_10_method_26_code 180 = .ok (.getfield 22, 3) := by decide +kernel
theorem d_M_request_183 : decode prog_10_method_26_code 183 = .ok (.iload_n 1, 1) := by decide +kernel
theorem d_M_request_184 : decode prog_10_method_26_code 184 = .ok (.iaload, 1) := by decide +kernel
theorem d_M_request_185 : decode prog_10_method_26_code 185 = .ok (.aload_n 0, 1) := by decide +kernel
theorem d_M_request_186 : decode prog_10_method_26_code 186 = .ok (.getfield 58, 3) := by decide +kernel
theorem d_M_request_189 : decode prog_10_method_26_code 189 = .ok (.iload_n 1, 1) := by decide +kernel
theorem d_M_request_190 : decode prog_10_method_26_code 190 = .ok (.iaload, 1) := by decide +kernel
theorem d_M_request_191 : decode prog_10_method_26_code 191 = .ok (.aload_n 0, 1) := by decide +kernel
theorem d_M_request_192 : decode prog_10_method_26_code 192 = .ok (.getfield 76, 3) := by decide +kernel
theorem d_M_request_195 : decode prog_10_method_26_code 195 = .ok (.iload_n 1, 1) := by decide +kernel
theorem d_M_request_196 : decode prog_10_method_26_code 196 = .ok (.iaload, 1) := by decide +kernel
theorem d_M_request_197 : decode prog_10_method_26_code 197 = .ok (.aload_n 0, 1) := by decide +kernel
theorem d_M_request_198 : decode prog_10_method_26_code 198 = .ok (.iload_n 1, 1) := by decide +kernel
theorem d_M_request_199 : decode prog_10_method_26_code 199 = .ok (.invokevirtual 142, 3) := by decide +kernel
theorem d_M_request_202 : decode prog_10_method_26_code 202 = .ok (.iconst 0, 1) := by decide +kernel
theorem d_M_request_203 : decode prog_10_method_26_code 203 = .ok (.iconst 0, 1) := by decide +kernel
theorem d_M_request_204 : decode prog_10_method_26_code 204 = .ok (.iconst 0, 1) := by decide +kernel
theorem d_M_request_205 : decode prog_10_method_26_code 205 = .ok (.invokevirtual 138, 3) := by decide +kernel
theorem d_M_request_208 : decode prog_10_method_26_code 208 = .ok (.goto 58, 3) := by decide +kernel
theorem d_M_request_211 : decode prog_10_method_26_code 211 = .ok (.aload_n 0, 1) := by decide +kernel
theorem d_M_request_212 : decode prog_10_method_26_code 212 = .ok (.aload_n 0, 1) := by decide +kernel
theorem d_M_request_213 : decode prog_10_method_26_code 213 = .ok (.getfield 55, 3) := by decide +kernel
theorem d_M_request_216 : decode prog_10_method_26_code 216 = .ok (.iload_n 1, 1) := by decide +kernel
theorem d_M_request_217 : decode prog_10_method_26_code 217 = .ok (.iaload, 1) := by decide +kernel
theorem d_M_request_218 : decode prog_10_method_26_code 218 = .ok (.iconst 1, 1) := by decide +kernel
theorem d_M_request_219 : decode prog_10_method_26_code 219 = .ok (.if_icmp .ne 8, 3) := by decide +kernel
theorem d_M_request_222 : decode prog_10_method_26_code 222 = .ok (.bipush 10, 2) := by decide +kernel
theorem d_M_request_224 : decode prog_10_method_26_code 224 = .ok (.goto 5, 3) := by decide +kernel
theorem d_M_request_227 : decode prog_10_method_26_code 227 = .ok (.bipush 12, 2) := by decide +kernel
theorem d_M_request_229 : decode prog_10_method_26_code 229 = .ok (.iload_n 1, 1) := by decide +kernel
theorem d_M_request_230 : decode prog_10_method_26_code 230 = .ok (.iload_n 2, 1) := by decide +kernel
theorem d_M_request_231 : decode prog_10_method_26_code 231 = .ok (.aload_n 0, 1) := by decide +kernel
theorem d_M_request_232 : decode prog_10_method_26_code 232 = .ok (.getfield 13, 3) := by decide +kernel
theorem d_M_request_235 : decode prog_10_method_26_code 235 = .ok (.iload_n 1, 1) := by decide +kernel
theorem d_M_request_236 : decode prog_10_method_26_code 236 = .ok (.iaload, 1) := by decide +kernel
theorem d_M_request_237 : decode prog_10_method_26_code 237 = .ok (.aload_n 0, 1) := by decide +kernel
theorem d_M_request_238 : decode prog_10_method_26_code 238 = .ok (.getfield 22, 3) := by decide +kernel
theorem d_M_request_241 : decode prog_10_method_26_code 241 = .ok (.iload_n 1, 1) := by decide +kernel
theorem d_M_request_242 : decode prog_10_method_26_code 242 = .ok (.iaload, 1) := by decide +kernel
theorem d_M_request_243 : decode prog_10_method_26_code 243 = .ok (.iconst 0, 1) := by decide +kernel
theorem d_M_request_244 : decode prog_10_method_26_code 244 = .ok (.iconst 0, 1) := by decide +kernel
theorem d_M_request_245 : decode prog_10_method_26_code 245 = .ok (.iconst 0, 1) := by decide +kernel
theorem d_M_request_246 : decode prog_10_method_26_code 246 = .ok (.iconst 0, 1) := by decide +kernel
theorem d_M_request_247 : decode prog_10_method_26_code 247 = .ok (.iconst 0, 1) := by decide +kernel
theorem d_M_request_248 : decode prog_10_method_26_code 248 = .ok (.aload_n 0, 1) := by decide +kernel
theorem d_M_request_249 : decode prog_10_method_26_code 249 = .ok (.getfield 55, 3) := by decide +kernel
theorem d_M_request_252 : decode prog_10_method_26_code 252 = .ok (.iload_n 1, 1) := by decide +kernel
theorem d_M_request_253 : decode prog_10_method_26_code 253 = .ok (.iaload, 1) := by decide +kernel
theorem d_M_request_254 : decode prog_10_method_26_code 254 = .ok (.iconst 2, 1) := by decide +kernel
theorem d_M_request_255 : decode prog_10_method_26_code 255 = .ok (.if_icmp .ne 7, 3) := by decide +kernel
theorem d_M_request_258 : decode prog_10_method_26_code 258 = .ok (.iconst 1, 1) := by decide +kernel
theorem d_M_request_259 : decode prog_10_method_26_code 259 = .ok (.goto 4, 3) := by decide +kernel
theorem d_M_request_262 : decode prog_10_method_26_code 262 = .ok (.iconst 0, 1) := by decide +kernel
theorem d_M_request_263 : decode prog_10_method_26_code 263 = .ok (.invokevirtual 138, 3) := by decide +kernel
theorem d_M_request_266 : decode prog_10_method_26_code 266 = .ok (.return_, 1) := by decide +kernel
theorem d_M_does_0 : decode prog_10_method_27_code 0 = .ok (.bipush 16, 2) := by decide +kernel
theorem d_M_does_2 : decode prog_10_method_27_code 2 = .ok (.iload_n 1, 1) := by decide +kernel
theorem d_M_does_3 : decode prog_10_method_27_code 3 = .ok (.imul, 1) := by decide +kernel
theorem d_M_does_4 : decode prog_10_method_27_code 4 = .ok (.aload_n 0, 1) := by decide +kernel
theorem d_M_does_5 : decode prog_10_method_27_code 5 = .ok (.getfield 58, 3) := by decide +kernel
theorem d_M_does_8 : decode prog_10_method_27_code 8 = .ok (.iload_n 1, 1) := by decide +kernel
theorem d_M_does_9 : decode prog_10_method_27_code 9 = .ok (.iaload, 1) := by decide +kernel
theorem d_M_does_10 : decode prog_10_method_27_code 10 = .ok (.iadd, 1) := by decide +kernel
theorem d_M_does_11 : decode prog_10_method_27_code 11 = .ok (.istore_n 2, 1) := by decide +kernel
theorem d_M_does_12 : decode prog_10_method_27_code 12 = .ok (.aload_n 0, 1) := by decide +kernel
theorem d_M_does_13 : decode prog_10_method_27_code 13 = .ok (.iload_n 1, 1) := by decide +kernel
theorem d_M_does_14 : decode prog_10_method_27_code 14 = .ok (.invokevirtual 135, 3) := by decide +kernel
theorem d_M_does_17 : decode prog_10_method_27_code 17 = .ok (.ifCond .eq 88, 3) := by decide +kernel
theorem d_M_does_20 : decode prog_10_method_27_code 20 = .ok (.iconst 4, 1) := by decide +kernel
theorem d_M_does_21 : decode prog_10_method_27_code 21 = .ok (.iload_n 1, 1) := by decide +kernel
theorem d_M_does_22 : decode prog_10_method_27_code 22 = .ok (.imul, 1) := by decide +kernel
theorem d_M_does_23 : decode prog_10_method_27_code 23 = .ok (.aload_n 0, 1) := by decide +kernel
theorem d_M_does_24 : decode prog_10_method_27_code 24 = .ok (.getfield 58, 3) := by decide +kernel
theorem d_M_does_27 : decode prog_10_method_27_code 27 = .ok (.iload_n 1, 1) := by decide +kernel
theorem d_M_does_28 : decode prog_10_method_27_code 28 = .ok (.iaload, 1) := by decide +kernel
theorem d_M_does_29 : decode prog_10_method_27_code 29 = .ok (.iadd, 1) := by decide +kernel
theorem d_M_does_30 : decode prog_10_method_27_code 30 = .ok (.istore_n 3, 1) := by decide +kernel
theorem d_M_does_31 : decode prog_10_method_27_code 31 = .ok (.aload_n 0, 1) := by decide +kernel
theorem d_M_does_32 : decode prog_10_method_27_code 32 = .ok (.getfield 55, 3) := by decide +kernel
theorem d_M_does_35 : decode prog_10_method_27_code 35 = .ok (.iload_n 1, 1) := by decide +kernel
theorem d_M_does_36 : decode prog_10_method_27_code 36 = .ok (.iaload, 1) := by decide +kernel
theorem d_M_does_37 : decode prog_10_method_27_code 37 = .ok (.iconst 1, 1) := by decide +kernel
theorem d_M_does_38 : decode prog_10_method_27_code 38 = .ok (.if_icmp .ne 35, 3) := by decide +kernel
theorem d_M_does_41 : decode prog_10_method_27_code 41 = .ok (.aload_n 0, 1) := by decide +kernel
theorem d_M_does_42 : decode prog_10_method_27_code 42 = .ok (.iload_n 1, 1) := by decide +kernel
theorem d_M_does_43 : decode prog_10_method_27_code 43 = .ok (.aload_n 0, 1) := by decide +kernel
theorem d_M_does_44 : decode prog_10_method_27_code 44 = .ok (.getfield 58, 3) := by decide +kernel
theorem d_M_does_47 : decode prog_10_method_27_code 47 = .ok (.iload_n 1, 1) := by decide +kernel
theorem d_M_does_48 : decode prog_10_method_27_code 48 = .ok (.iaload, 1) := by decide +kernel
theorem d_M_does_49 : decode prog_10_method_27_code 49 = .ok (.aload_n 0, 1) := by decide +kernel
theorem d_M_does_50 : decode prog_10_method_27_code 50 = .ok (.getfield 25, 3) := by decide +kernel
theorem d_M_does_53 : decode prog_10_method_27_code 53 = .ok (.iload_n 3, 1) := by decide +kernel
theorem d_M_does_54 : decode prog_10_method_27_code 54 = .ok (.iaload, 1) := by decide +kernel
theorem d_M_does_55 : decode prog_10_method_27_code 55 = .ok (.aload_n 0, 1) := by decide +kernel
theorem d_M_does_56 : decode prog_10_method_27_code 56 = .ok (.getfield 28, 3) := by decide +kernel
theorem d_M_does_59 : decode prog_10_method_27_code 59 = .ok (.iload_n 3, 1) := by decide +kernel
theorem d_M_does_60 : decode prog_10_method_27_code 60 = .ok (.iaload, 1) := by decide +kernel
theorem d_M_does_61 : decode prog_10_method_27_code 61 = .ok (.aload_n 0, 1) := by decide +kernel
theorem d_M_does_62 : decode prog_10_method_27_code 62 = .ok (.getfield 31, 3) := by decide +kernel
theorem d_M_does_65 : decode prog_10_method_27_code 65 = .ok (.iload_n 3, 1) := by decide +kernel
theorem d_M_does_66 : decode prog_10_method_27_code 66 = .ok (.iaload, 1) := by decide +kernel
theorem d_M_does_67 : decode prog_10_method_27_code 67 = .ok (.invokevirtual 146, 3) := by decide +kernel
theorem d_M_does_70 : decode prog_10_method_27_code 70 = .ok (.goto 32, 3) := by decide +kernel
theorem d_M_does_73 : decode prog_10_method_27_code 73 = .ok (.aload_n 0, 1) := by decide +kernel
theorem d_M_does_74 : decode prog_10_method_27_code 74 = .ok (.iload_n 1, 1) := by decide +kernel
theorem d_M_does_75 : decode prog_10_method_27_code 75 = .ok (.aload_n 0, 1) := by decide +kernel
theorem d_M_does_76 : decode prog_10_method_27_code 76 = .ok (.getfield 58, 3) := by decide +kernel
theorem d_M_does_79 : decode prog_10_method_27_code 79 = .ok (.iload_n 1, 1) := by decide +kernel
theorem d_M_does_80 : decode prog_10_method_27_code 80 = .ok (.iaload, 1) := by decide +kernel
theorem d_M_does_81 : decode prog_10_method_27_code 81 = .ok (.aload_n 0, 1) := by decide +kernel
theorem d_M_does_82 : decode prog_10_method_27_code 82 = .ok (.getfield 88, 3) := by decide +kernel
theorem d_M_does_85 : decode prog_10_method_27_code 85 = .ok (.iload_n 3, 1) := by decide +kernel
theorem d_M_does_86 : decode prog_10_method_27_code 86 = .ok (.iaload, 1) := by decide +kernel
theorem d_M_does_87 : decode prog_10_method_27_code 87 = .ok (.aload_n 0, 1) := by decide +kernel
theorem d_M_does_88 : decode prog_10_method_27_code 88 = .ok (.getfield 91, 3) := by decide +kernel
theorem d_M_does_91 : decode prog_10_method_27_code 91 = .ok (.iload_n 3, 1) := by decide +kernel
theorem d_M_does_92 : decode prog_10_method_27_code 92 = .ok (.iaload, 1) := by decide +kernel
theorem d_M_does_93 : decode prog_10_method_27_code 93 = .ok (.aload_n 0, 1) := by decide +kernel
theorem d_M_does_94 : decode prog_10_method_27_code 94 = .ok (.getfield 94, 3) := by decide +kernel
theorem d_M_does_97 : decode prog_10_method_27_code 97 = .ok (.iload_n 3, 1) := by decide +kernel
theorem d_M_does_98 : decode prog_10_method_27_code 98 = .ok (.iaload, 1) := by decide +kernel
theorem d_M_does_99 : decode prog_10_method_27_code 99 = .ok (.invokevirtual 150, 3) := by decide +kernel
theorem d_M_does_102 : decode prog_10_method_27_code 102 = .ok (.goto 245, 3) := by decide +kernel
theorem d_M_does_105 : decode prog_10_method_27_code 105 = .ok (.aload_n 0, 1) := by decide +kernel
theorem d_M_does_106 : decode prog_10_method_27_code 106 = .ok (.getfield 52, 3) := by decide +kernel
theorem d_M_does_109 : decode prog_10_method_27_code 109 = .ok (.iload_n 1, 1) := by decide +kernel
theorem d_M_does_110 : decode prog_10_method_27_code 110 = .ok (.iaload, 1) := by decide +kernel
theorem d_M_does_111 : decode prog_10_method_27_code 111 = .ok (.iconst 4, 1) := by decide +kernel
theorem d_M_does_112 : decode prog_10_method_27_code 112 = .ok (.if_icmp .ne 93, 3) := by decide +kernel
theorem d_M_does_115 : decode prog_10_method_27_code 115 = .ok (.iconst 0, 1) := by decide +kernel
theorem d_M_does_116 : decode prog_10_method_27_code 116 = .ok (.istore_n 3, 1) := by decide +kernel
theorem d_M_does_117 : decode prog_10_method_27_code 117 = .ok (.iload_n 3, 1) := by decide +kernel
theorem d_M_does_118 : decode prog_10_method_27_code 118 = .ok (.iconst 4, 1) := by decide +kernel
theorem d_M_does_119 : decode prog_10_method_27_code 119 = .ok (.if_icmp .ge 83, 3) := by decide +kernel
theorem d_M_does_122 : decode prog_10_method_27_code 122 = .ok (.iconst 4, 1) := by decide +kernel
theorem d_M_does_123 : decode prog_10_method_27_code 123 = .ok (.iload_n 1, 1) := by decide +kernel
theorem d_M_does_124 : decode prog_10_method_27_code 124 = .ok (.imul, 1) := by decide +kernel
theorem d_M_does_125 : decode prog_10_method_27_code 125 = .ok (.iload_n 3, 1) := by decide +kernel
theorem d_M_does_126 : decode prog_10_method_27_code 126 = .ok (.iadd, 1) := by decide +kernel
theorem d_M_does_127 : decode prog_10_method_27_code 127 = .ok (.istore 4, 2) := by decide +kernel
theorem d_M_does_129 : decode prog_10_method_27_code 129 = .ok (.aload_n 0, 1) := by decide +kernel
theorem d_M_does_130 : decode prog_10_method_27_code 130 = .ok (.getfield 55, 3) := by decide +kernel
theorem d_M_does_133 : decode prog_10_method_27_code 133 = .ok (.iload_n 1, 1) := by decide +kernel
theorem d_M_does_134 : decode prog_10_method_27_code 134 = .ok (.iaload, 1) := by decide +kernel
theorem d_M_does_135 : decode prog_10_method_27_code 135 = .ok (.iconst 1, 1) := by decide +kernel
theorem d_M_does_136 : decode prog_10_method_27_code 136 = .ok (.if_icmp .ne 33, 3) := by decide +kernel
theorem d_M_does_139 : decode prog_10_method_27_code 139 = .ok (.aload_n 0, 1) := by decide +kernel
theorem d_M_does_140 : decode prog_10_method_27_code 140 = .ok (.iload_n 1, 1) := by decide +kernel
theorem d_M_does_141 : decode prog_10_method_27_code 141 = .ok (.iload_n 3, 1) := by decide +kernel
theorem d_M_does_142 : decode prog_10_method_27_code 142 = .ok (.aload_n 0, 1) := by decide +kernel
theorem d_M_does_143 : decode prog_10_method_27_code 143 = .ok (.getfield 25, 3) := by decide +kernel
theorem d_M_does_146 : decode prog_10_method_27_code 146 = .ok (.iload 4, 2) := by decide +kernel
theorem d_M_does_148 : decode prog_10_method_27_code 148 = .ok (.iaload, 1) := by decide +kernel
theorem d_M_does_149 : decode prog_10_method_27_code 149 = .ok (.aload_n 0, 1) := by decide +kernel
theorem d_M_does_150 : decode prog_10_method_27_code 150 = .ok (.getfield 28, 3) := by decide +kernel
theorem d_M_does_153 : decode prog_10_method_27_code 153 = .ok (.iload 4, 2) := by decide +kernel
theorem d_M_does_155 : decode prog_10_method_27_code 155 = .ok (.iaload, 1) := by decide +kernel
theorem d_M_does_156 : decode prog_10_method_27_code 156 = .ok (.aload_n 0, 1) := by decide +kernel
theorem d_M_does_157 : decode prog_10_method_27_code 157 = .ok (.getfield 31, 3) := by decide +kernel
theorem d_M_does_160 : decode prog_10_method_27_code 160 = .ok (.iload 4, 2) := by decide +kernel
theorem d_M_does_162 : decode prog_10_method_27_code 162 = .ok (.iaload, 1) := by decide +kernel
theorem d_M_does_163 : decode prog_10_method_27_code 163 = .ok (.invokevirtual 146, 3) := by decide +kernel
theorem d_M_does_166 : decode prog_10_method_27_code 166 = .ok (.goto 30, 3) := by decide +kernel
theorem d_M_does_169 : decode prog_10_method_27_code 169 = .ok (.aload_n 0, 1) := by decide +kernel
theorem d_M_does_170 : decode prog_10_method_27_code 170 = .ok (.iload_n 1, 1) := by decide +kernel
theorem d_M_does_171 : decode prog_10_method_27_code 171 = .ok (.iload_n 3, 1) := by decide +kernel
theorem d_M_does_172 : decode prog_10_method_27_code 172 = .ok (.aload_n 0, 1) := by decide +kernel
theorem d_M_does_173 : decode prog_10_method_27_code 173 = .ok (.getfield 88, 3) := by decide +kernel
theorem d_M_does_176 : decode prog_10_method_27_code 176 = .ok (.iload 4, 2) := by decide +kernel
theorem d_M_does_178 : decode prog_10_method_27_code 178 = .ok (.iaload, 1) := by decide +kernel
theorem d_M_does_179 : decode prog_10_method_27_code 179 = .ok (.aload_n 0, 1) := by decide +kernel
theorem d_M_does_180 : decode prog_10_method_27_code 180 = .ok (.getfield 91, 3) := by decide +kernel
theorem d_M_does_183 : decode prog_10_method_27_code 183 = .ok (.iload 4, 2) := by decide +kernel
theorem d_M_does_185 : decode prog_10_method_27_code 185 = .ok (.iaload, 1) := by decide +kernel
theorem d_M_does_186 : decode prog_10_method_27_code 186 = .ok (.aload_n 0, 1) := by decide +kernel
theorem d_M_does_187 : decode prog_10_method_27_code 187 = .ok (.getfield 94, 3) := by decide +kernel
theorem d_M_does_190 : decode prog_10_method_27_code 190 = .ok (.iload 4, 2) := by decide +kernel
theorem d_M_does_192 : decode prog_10_method_27_code 192 = .ok (.iaload, 1) := by decide +kernel
theorem d_M_does_193 : decode prog_10_method_27_code 193 = .ok (.invokevirtual 150, 3) := by decide +kernel
theorem d_M_does_196 : decode prog_10_method_27_code 196 = .ok (.iinc 3 1, 3) := by decide +kernel
theorem d_M_does_199 : decode prog_10_method_27_code 199 = .ok (.goto (-82), 3) := by decide +kernel
theorem d_M_does_202 : decode prog_10_method_27_code 202 = .ok (.goto 145, 3) := by decide +kernel
theorem d_M_does_205 : decode prog_10_method_27_code 205 = .ok (.aload_n 0, 1) := by decide +kernel
theorem d_M_does_206 : decode prog_10_method_27_code 206 = .ok (.getfield 55, 3) := by decide +kernel
theorem d_M_does_209 : decode prog_10_method_27_code 209 = .ok (.iload_n 1, 1) := by decide +kernel
theorem d_M_does_210 : decode prog_10_method_27_code 210 = .ok (.iaload, 1) := by decide +kernel
theorem d_M_does_211 : decode prog_10_method_27_code 211 = .ok (.iconst 1, 1) := by decide +kernel
theorem d_M_does_212 : decode prog_10_method_27_code 212 = .ok (.if_icmp .ne 67, 3) := by decide +kernel
theorem d_M_does_215 : decode prog_10_method_27_code 215 = .ok (.aload_n 0, 1) := by decide +kernel
theorem d_M_does_216 : decode prog_10_method_27_code 216 = .ok (.getfield 76, 3) := by decide +kernel
theorem d_M_does_219 : decode prog_10_method_27_code 219 = .ok (.iload_n 1, 1) := by decide +kernel
theorem d_M_does_220 : decode prog_10_method_27_code 220 = .ok (.iaload, 1) := by decide +kernel
theorem d_M_does_221 : decode prog_10_method_27_code 221 = .ok (.aload_n 0, 1) := by decide +kernel
theorem d_M_does_222 : decode prog_10_method_27_code 222 = .ok (.getfield 40, 3) := by decide +kernel
theorem d_M_does_225 : decode prog_10_method_27_code 225 = .ok (.iload_n 2, 1) := by decide +kernel
theorem d_M_does_226 : decode prog_10_method_27_code 226 = .ok (.iaload, 1) := by decide +kernel
theorem d_M_does_227 : decode prog_10_method_27_code 227 = .ok (.if_icmp .le 52, 3) := by decide +kernel
theorem d_M_does_230 : decode prog_10_method_27_code 230 = .ok (.aload_n 0, 1) := by decide +kernel
theorem d_M_does_231 : decode prog_10_method_27_code 231 = .ok (.iload_n 1, 1) := by decide +kernel
theorem d_M_does_232 : decode prog_10_method_27_code 232 = .ok (.aload_n 0, 1) := by decide +kernel
theorem d_M_does_233 : decode prog_10_method_27_code 233 = .ok (.getfield 58, 3) := by decide +kernel
theorem d_M_does_236 : decode prog_10_method_27_code 236 = .ok (.iload_n 1, 1) := by decide +kernel
theorem d_M_does_237 : decode prog_10_method_27_code 237 = .ok (.iaload, 1) := by decide +kernel
theorem d_M_does_238 : decode prog_10_method_27_code 238 = .ok (.aload_n 0, 1) := by decide +kernel
theorem d_M_does_239 : decode prog_10_method_27_code 239 = .ok (.getfield 76, 3) := by decide +kernel
theorem d_M_does_242 : decode prog_10_method_27_code 242 = .ok (.iload_n 1, 1) := by decide +kernel
theorem d_M_does_243 : decode prog_10_method_27_code 243 = .ok (.iaload, 1) := by decide +kernel
theorem d_M_does_244 : decode prog_10_method_27_code 244 = .ok (.aload_n 0, 1) := by decide +kernel
theorem d_M_does_245 : decode prog_10_method_27_code 245 = .ok (.getfield 43, 3) := by decide +kernel
theorem d_M_does_248 : decode prog_10_method_27_code 248 = .ok (.iload_n 2, 1) := by decide +kernel
theorem d_M_does_249 : decode prog_10_method_27_code 249 = .ok (.iaload, 1) := by decide +kernel
theorem d_M_does_250 : decode prog_10_method_27_code 250 = .ok (.aload_n 0, 1) := by decide +kernel
theorem d_M_does_251 : decode prog_10_method_27_code 251 = .ok (.getfield 46, 3) := by decide +kernel
theorem d_M_does_254 : decode prog_10_method_27_code 254 = .ok (.iload_n 2, 1) := by decide +kernel
theorem d_M_does_255 : decode prog_10_method_27_code 255 = .ok (.iaload, 1) := by decide +kernel
theorem d_M_does_256 : decode prog_10_method_27_code 256 = .ok (.invokevirtual 153, 3) := by decide +kernel
theorem d_M_does_259 : decode prog_10_method_27_code 259 = .ok (.aload_n 0, 1) := by decide +kernel
theorem d_M_does_260 : decode prog_10_method_27_code 260 = .ok (.iload_n 1, 1) := by decide +kernel
theorem d_M_does_261 : decode prog_10_method_27_code 261 = .ok (.aload_n 0, 1) := by decide +kernel
theorem d_M_does_262 : decode prog_10_method_27_code 262 = .ok (.getfield 43, 3) := by decide +kernel
theorem d_M_does_265 : decode prog_10_method_27_code 265 = .ok (.iload_n 2, 1) := by decide +kernel
theorem d_M_does_266 : decode prog_10_method_27_code 266 = .ok (.iaload, 1) := by decide +kernel
theorem d_M_does_267 : decode prog_10_method_27_code 267 = .ok (.aload_n 0, 1) := by decide +kernel
theorem d_M_does_268 : decode prog_10_method_27_code 268 = .ok (.getfield 46, 3) := by decide +kernel
theorem d_M_does_271 : decode prog_10_method_27_code 271 = .ok (.iload_n 2, 1) := by decide +kernel
theorem d_M_does_272 : decode prog_10_method_27_code 272 = .ok (.iaload, 1) := by decide +kernel
theorem d_M_does_273 : decode prog_10_method_27_code 273 = .ok (.invokevirtual 156, 3) := by decide +kernel
theorem d_M_does_276 : decode prog_10_method_27_code 276 = .ok (.goto 71, 3) := by decide +kernel
theorem d_M_does_279 : decode prog_10_method_27_code 279 = .ok (.aload_n 0, 1) := by decide +kernel
theorem d_M_does_280 : decode prog_10_method_27_code 280 = .ok (.getfield 55, 3) := by decide +kernel
theorem d_M_does_283 : decode prog_10_method_27_code 283 = .ok (.iload_n 1, 1) := by decide +kernel
theorem d_M_does_284 : decode prog_10_method_27_code 284 = .ok (.iaload, 1) := by decide +kernel
theorem d_M_does_285 : decode prog_10_method_27_code 285 = .ok (.iconst 2, 1) := by decide +kernel
theorem d_M_does_286 : decode prog_10_method_27_code 286 = .ok (.if_icmp .ne 49, 3) := by decide +kernel
theorem d_M_does_289 : decode prog_10_method_27_code 289 = .ok (.aload_n 0, 1) := by decide +kernel
theorem d_M_does_290 : decode prog_10_method_27_code 290 = .ok (.getfield 76, 3) := by decide +kernel
theorem d_M_does_293 : decode prog_10_method_27_code 293 = .ok (.iload_n 1, 1) := by decide +kernel
theorem d_M_does_294 : decode prog_10_method_27_code 294 = .ok (.iaload, 1) := by decide +kernel
theorem d_M_does_295 : decode prog_10_method_27_code 295 = .ok (.aload_n 0, 1) := by decide +kernel
theorem d_M_does_296 : decode prog_10_method_27_code 296 = .ok (.getfield 40, 3) := by decide +kernel
theorem d_M_does_299 : decode prog_10_method_27_code 299 = .ok (.iload_n 2, 1) := by decide +kernel
theorem d_M_does_300 : decode prog_10_method_27_code 300 = .ok (.iaload, 1) := by decide +kernel
theorem d_M_does_301 : decode prog_10_method_27_code 301 = .ok (.if_icmp .lt 34, 3) := by decide +kernel
theorem d_M_does_304 : decode prog_10_method_27_code 304 = .ok (.aload_n 0, 1) := by decide +kernel
theorem d_M_does_305 : decode prog_10_method_27_code 305 = .ok (.iload_n 1, 1) := by decide +kernel
theorem d_M_does_306 : decode prog_10_method_27_code 306 = .ok (.aload_n 0, 1) := by decide +kernel
theorem d_M_does_307 : decode prog_10_method_27_code 307 = .ok (.getfield 58, 3) := by decide +kernel
theorem d_M_does_310 : decode prog_10_method_27_code 310 = .ok (.iload_n 1, 1) := by decide +kernel
theorem d_M_does_311 : decode prog_10_method_27_code 311 = .ok (.iaload, 1) := by decide +kernel
theorem d_M_does_312 : decode prog_10_method_27_code 312 = .ok (.aload_n 0, 1) := by decide +kernel
theorem d_M_does_313 : decode prog_10_method_27_code 313 = .ok (.getfield 76, 3) := by decide +kernel
theorem d_M_does_316 : decode prog_10_method_27_code 316 = .ok (.iload_n 1, 1) := by decide +kernel
theorem d_M_does_317 : decode prog_10_method_27_code 317 = .ok (.iaload, 1) := by decide +kernel
theorem d_M_does_318 : decode prog_10_method_27_code 318 = .ok (.aload_n 0, 1) := by decide +kernel
theorem d_M_does_319 : decode prog_10_method_27_code 319 = .ok (.getfield 76, 3) := by decide +kernel
theorem d_M_does_322 : decode prog_10_method_27_code 322 = .ok (.iload_n 1, 1) := by decide +kernel
theorem d_M_does_323 : decode prog_10_method_27_code 323 = .ok (.iaload, 1) := by decide +kernel
theorem d_M_does_324 : decode prog_10_method_27_code 324 = .ok (.aload_n 0, 1) := by decide +kernel
theorem d_M_does_325 : decode prog_10_method_27_code 325 = .ok (.iload_n 1, 1) := by decide +kernel
theorem d_M_does_326 : decode prog_10_method_27_code 326 = .ok (.invokevirtual 142, 3) := by decide +kernel
theorem d_M_does_329 : decode prog_10_method_27_code 329 = .ok (.invokevirtual 153, 3) := by decide +kernel
theorem d_M_does_332 : decode prog_10_method_27_code 332 = .ok (.goto 15, 3) := by decide +kernel
theorem d_M_does_335 : decode prog_10_method_27_code 335 = .ok (.aload_n 0, 1) := by decide +kernel
theorem d_M_does_336 : decode prog_10_method_27_code 336 = .ok (.iload_n 1, 1) := by decide +kernel
theorem d_M_does_337 : decode prog_10_method_27_code 337 = .ok (.aload_n 0, 1) := by decide +kernel
theorem d_M_does_338 : decode prog_10_method_27_code 338 = .ok (.getfield 40, 3) := by decide +kernel
theorem d_M_does_341 : decode prog_10_method_27_code 341 = .ok (.iload_n 2, 1) := by decide +kernel
theorem d_M_does_342 : decode prog_10_method_27_code 342 = .ok (.iaload, 1) := by decide +kernel
theorem d_M_does_343 : decode prog_10_method_27_code 343 = .ok (.invokevirtual 160, 3) := by decide +kernel
theorem d_M_does_346 : decode prog_10_method_27_code 346 = .ok (.return_, 1) := by decide +kernel
theorem d_M_does_347 : decode prog_10_method_27_code 347 = .ok (.aload_n 0, 1) := by decide +kernel
theorem d_M_does_348 : decode prog_10_method_27_code 348 = .ok (.iload_n 1, 1) := by decide +kernel
theorem d_M_does_349 : decode prog_10_method_27_code 349 = .ok (.invokevirtual 111, 3) := by decide +kernel
theorem d_M_does_352 : decode prog_10_method_27_code 352 = .ok (.ifCond .eq 15, 3) := by decide +kernel
theorem d_M_does_355 : decode prog_10_method_27_code 355 = .ok (.aload_n 0, 1) := by decide +kernel
theorem d_M_does_356 : decode prog_10_method_27_code 356 = .ok (.getfield 67, 3) := by decide +kernel
theorem d_M_does_359 : decode prog_10_method_27_code 359 = .ok (.iload_n 1, 1) := by decide +kernel
theorem d_M_does_360 : decode prog_10_method_27_code 360 = .ok (.dup2, 1) := by decide +kernel
theorem d_M_does_361 : decode prog_10_method_27_code 361 = .ok (.iaload, 1) := by decide +kernel
theorem d_M_does_362 : decode prog_10_method_27_code 362 = .ok (.iconst 1, 1) := by decide +kernel
theorem d_M_does_363 : decode prog_10_method_27_code 363 = .ok (.iload_n 1, 1) := by decide +kernel
theorem d_M_does_364 : decode prog_10_method_27_code 364 = .ok (.ishl, 1) := by decide +kernel
theorem d_M_does_365 : decode prog_10_method_27_code 365 = .ok (.ior, 1) := by decide +kernel
theorem d_M_does_366 : decode prog_10_method_27_code 366 = .ok (.iastore, 1) := by decide +kernel
theorem d_M_does_367 : decode prog_10_method_27_code 367 = .ok (.return_, 1) := by decide +kernel
theorem d_M_refused_0 : decode prog_10_method_28_code 0 = .ok (.iload_n 2, 1) := by decide +kernel
theorem d_M_refused_1 : decode prog_10_method_28_code 1 = .ok (.iconst 3, 1) := by decide +kernel
theorem d_M_refused_2 : decode prog_10_method_28_code 2 = .ok (.ishr, 1) := by decide +kernel
theorem d_M_refused_3 : decode prog_10_method_28_code 3 = .ok (.aload_n 0, 1) := by decide +kernel
theorem d_M_refused_4 : decode prog_10_method_28_code 4 = .ok (.getfield 16, 3) := by decide +kernel
theorem d_M_refused_7 : decode prog_10_method_28_code 7 = .ok (.iload_n 1, 1) := by decide +kernel
theorem d_M_refused_8 : decode prog_10_method_28_code 8 = .ok (.iaload, 1) := by decide +kernel
theorem d_M_refused_9 : decode prog_10_method_28_code 9 = .ok (.if_icmp .le 11, 3) := by decide +kernel
theorem d_M_refused_12 : decode prog_10_method_28_code 12 = .ok (.aload_n 0, 1) := by decide +kernel
theorem d_M_refused_13 : decode prog_10_method_28_code 13 = .ok (.iload_n 1, 1) := by decide +kernel
theorem d_M_refused_14 : decode prog_10_method_28_code 14 = .ok (.iload_n 2, 1) := by decide +kernel
theorem d_M_refused_15 : decode prog_10_method_28_code 15 = .ok (.iconst 3, 1) := by decide +kernel
theorem d_M_refused_16 : decode prog_10_method_28_code 16 = .ok (.ishr, 1) := by decide +kernel
theorem d_M_refused_17 : decode prog_10_method_28_code 17 = .ok (.invokevirtual 164, 3) := by decide +kernel
theorem d_M_refused_20 : decode prog_10_method_28_code 20 = .ok (.return_, 1) := by decide +kernel
theorem d_M_ask_0 : decode prog_10_method_29_code 0 = .ok (.iconst 0, 1) := by decide +kernel
theorem d_M_ask_1 : decode prog_10_method_29_code 1 = .ok (.istore_n 3, 1) := by decide +kernel
theorem d_M_ask_2 : decode prog_10_method_29_code 2 = .ok (.iload_n 3, 1) := by decide +kernel
theorem d_M_ask_3 : decode prog_10_method_29_code 3 = .ok (.bipush 8, 2) := by decide +kernel
theorem d_M_ask_5 : decode prog_10_method_29_code 5 = .ok (.if_icmp .ge 73, 3) := by decide +kernel
theorem d_M_ask_8 : decode prog_10_method_29_code 8 = .ok (.aload_n 0, 1) := by decide +kernel
theorem d_M_ask_9 : decode prog_10_method_29_code 9 = .ok (.iload_n 1, 1) := by decide +kernel
theorem d_M_ask_10 : decode prog_10_method_29_code 10 = .ok (.invokevirtual 111, 3) := by decide +kernel
theorem d_M_ask_13 : decode prog_10_method_29_code 13 = .ok (.ifCond .eq 65, 3) := by decide +kernel
theorem d_M_ask_16 : decode prog_10_method_29_code 16 = .ok (.iload_n 2, 1) := by decide +kernel
theorem d_M_ask_17 : decode prog_10_method_29_code 17 = .ok (.iload_n 3, 1) := by decide +kernel
theorem d_M_ask_18 : decode prog_10_method_29_code 18 = .ok (.ishr, 1) := by decide +kernel
theorem d_M_ask_19 : decode prog_10_method_29_code 19 = .ok (.iconst 1, 1) := by decide +kernel
theorem d_M_ask_20 : decode prog_10_method_29_code 20 = .ok (.iand, 1) := by decide +kernel
theorem d_M_ask_21 : decode prog_10_method_29_code 21 = .ok (.ifCond .eq 51, 3) := by decide +kernel
theorem d_M_ask_24 : decode prog_10_method_29_code 24 = .ok (.aload_n 0, 1) := by decide +kernel
theorem d_M_ask_25 : decode prog_10_method_29_code 25 = .ok (.getfield 64, 3) := by decide +kernel
theorem d_M_ask_28 : decode prog_10_method_29_code 28 = .ok (.iload_n 1, 1) := by decide +kernel
theorem d_M_ask_29 : decode prog_10_method_29_code 29 = .ok (.iaload, 1) := by decide +kernel
theorem d_M_ask_30 : decode prog_10_method_29_code 30 = .ok (.iload_n 3, 1) := by decide +kernel
theorem d_M_ask_31 : decode prog_10_method_29_code 31 = .ok (.ishr, 1) := by decide +kernel
theorem d_M_ask_32 : decode prog_10_method_29_code 32 = .ok (.iconst 1, 1) := by decide +kernel
theorem d_M_ask_33 : decode prog_10_method_29_code 33 = .ok (.iand, 1) := by decide +kernel
theorem d_M_ask_34 : decode prog_10_method_29_code 34 = .ok (.iconst 1, 1) := by decide +kernel
theorem d_M_ask_35 : decode prog_10_method_29_code 35 = .ok (.if_icmp .ne 6, 3) := by decide +kernel
theorem d_M_ask_38 : decode prog_10_method_29_code 38 = .ok (.goto 34, 3) := by decide +kernel
theorem d_M_ask_41 : decode prog_10_method_29_code 41 = .ok (.aload_n 0, 1) := by decide +kernel
theorem d_M_ask_42 : decode prog_10_method_29_code 42 = .ok (.getfield 64, 3) := by decide +kernel
theorem d_M_ask_45 : decode prog_10_method_29_code 45 = .ok (.iload_n 1, 1) := by decide +kernel
theorem d_M_ask_46 : decode prog_10_method_29_code 46 = .ok (.dup2, 1) := by decide +kernel
theorem d_M_ask_47 : decode prog_10_method_29_code 47 = .ok (.iaload, 1) := by decide +kernel
theorem d_M_ask_48 : decode prog_10_method_29_code 48 = .ok (.iconst 1, 1) := by decide +kernel
theorem d_M_ask_49 : decode prog_10_method_29_code 49 = .ok (.iload_n 3, 1) := by decide +kernel
theorem d_M_ask_50 : decode prog_10_method_29_code 50 = .ok (.ishl, 1) := by decide +kernel
theorem d_M_ask_51 : decode prog_10_method_29_code 51 = .ok (.ior, 1) := by decide +kernel
theorem d_M_ask_52 : decode prog_10_method_29_code 52 = .ok (.iastore, 1) := by decide +kernel
theorem d_M_ask_53 : decode prog_10_method_29_code 53 = .ok (.iload_n 3, 1) := by decide +kernel
theorem d_M_ask_54 : decode prog_10_method_29_code 54 = .ok (.iload_n 1, 1) := by decide +kernel
theorem d_M_ask_55 : decode prog_10_method_29_code 55 = .ok (.if_icmp .ne 11, 3) := by decide +kernel
theorem d_M_ask_58 : decode prog_10_method_29_code 58 = .ok (.aload_n 0, 1) := by decide +kernel
theorem d_M_ask_59 : decode prog_10_method_29_code 59 = .ok (.iload_n 1, 1) := by decide +kernel
theorem d_M_ask_60 : decode prog_10_method_29_code 60 = .ok (.invokevirtual 167, 3) := by decide +kernel
theorem d_M_ask_63 : decode prog_10_method_29_code 63 = .ok (.goto 9, 3) := by decide +kernel
theorem d_M_ask_66 : decode prog_10_method_29_code 66 = .ok (.aload_n 0, 1) := by decide +kernel
theorem d_M_ask_67 : decode prog_10_method_29_code 67 = .ok (.iload_n 1, 1) := by decide +kernel
theorem d_M_ask_68 : decode prog_10_method_29_code 68 = .ok (.iload_n 3, 1) := by decide +kernel
theorem d_M_ask_69 : decode prog_10_method_29_code 69 = .ok (.invokevirtual 170, 3) := by decide +kernel
theorem d_M_ask_72 : decode prog_10_method_29_code 72 = .ok (.iinc 3 1, 3) := by decide +kernel
theorem d_M_ask_75 : decode prog_10_method_29_code 75 = .ok (.goto (-73), 3) := by decide +kernel
theorem d_M_ask_78 : decode prog_10_method_29_code 78 = .ok (.return_, 1) := by decide +kernel
theorem d_M_wantedSet_0 : decode prog_10_method_30_code 0 = .ok (.aload_n 0, 1) := by decide +kernel
theorem d_M_wantedSet_1 : decode prog_10_method_30_code 1 = .ok (.iload_n 1, 1) := by decide +kernel
theorem d_M_wantedSet_2 : decode prog_10_method_30_code 2 = .ok (.invokevirtual 135, 3) := by decide +kernel
theorem d_M_wantedSet_5 : decode prog_10_method_30_code 5 = .ok (.ifCond .eq 9, 3) := by decide +kernel
theorem d_M_wantedSet_8 : decode prog_10_method_30_code 8 = .ok (.aload_n 0, 1) := by decide +kernel
theorem d_M_wantedSet_9 : decode prog_10_method_30_code 9 = .ok (.iload_n 1, 1) := by decide +kernel
theorem d_M_wantedSet_10 : decode prog_10_method_30_code 10 = .ok (.invokevirtual 173, 3) := by decide +kernel
theorem d_M_wantedSet_13 : decode prog_10_method_30_code 13 = .ok (.ireturn, 1) := by decide +kernel
theorem d_M_wantedSet_14 : decode prog_10_method_30_code 14 = .ok (.aload_n 0, 1) := by decide +kernel
theorem d_M_wantedSet_15 : decode prog_10_method_30_code 15 = .ok (.getfield 52, 3) := by decide +kernel
theorem d_M_wantedSet_18 : decode prog_10_method_30_code 18 = .ok (.iload_n 1, 1) := by decide +kernel
theorem d_M_wantedSet_19 : decode prog_10_method_30_code 19 = .ok (.iaload, 1) := by decide +kernel
theorem d_M_wantedSet_20 : decode prog_10_method_30_code 20 = .ok (.iconst 3, 1) := by decide +kernel
theorem d_M_wantedSet_21 : decode prog_10_method_30_code 21 = .ok (.if_icmp .ne 24, 3) := by decide +kernel
theorem d_M_wantedSet_24 : decode prog_10_method_30_code 24 = .ok (.aload_n 0, 1) := by decide +kernel
theorem d_M_wantedSet_25 : decode prog_10_method_30_code 25 = .ok (.getfield 37, 3) := by decide +kernel
theorem d_M_wantedSet_28 : decode prog_10_method_30_code 28 = .ok (.bipush 16, 2) := by decide +kernel
theorem d_M_wantedSet_30 : decode prog_10_method_30_code 30 = .ok (.iload_n 1, 1) := by decide +kernel
theorem d_M_wantedSet_31 : decode prog_10_method_30_code 31 = .ok (.imul, 1) := by decide +kernel
theorem d_M_wantedSet_32 : decode prog_10_method_30_code 32 = .ok (.aload_n 0, 1) := by decide +kernel
theorem d_M_wantedSet_33 : decode prog_10_method_30_code 33 = .ok (.getfield 79, 3) := by decide +kernel
theorem d_M_wantedSet_36 : decode prog_10_method_30_code 36 = .ok (.iload_n 1, 1) := by decide +kernel
theorem d_M_wantedSet_37 : decode prog_10_method_30_code 37 = .ok (.iaload, 1) := by decide +kernel
theorem d_M_wantedSet_38 : decode prog_10_method_30_code 38 = .ok (.iadd, 1) := by decide +kernel
theorem d_M_wantedSet_39 : decode prog_10_method_30_code 39 = .ok (.iaload, 1) := by decide +kernel
theorem d_M_wantedSet_40 : decode prog_10_method_30_code 40 = .ok (.sipush 255, 3) := by decide +kernel
theorem d_M_wantedSet_43 : decode prog_10_method_30_code 43 = .ok (.iand, 1) := by decide +kernel
theorem d_M_wantedSet_44 : decode prog_10_method_30_code 44 = .ok (.ireturn, 1) := by decide +kernel
theorem d_M_wantedSet_45 : decode prog_10_method_30_code 45 = .ok (.aload_n 0, 1) := by decide +kernel
theorem d_M_wantedSet_46 : decode prog_10_method_30_code 46 = .ok (.getfield 55, 3) := by decide +kernel
theorem d_M_wantedSet_49 : decode prog_10_method_30_code 49 = .ok (.iload_n 1, 1) := by decide +kernel
theorem d_M_wantedSet_50 : decode prog_10_method_30_code 50 = .ok (.iaload, 1) := by decide +kernel
theorem d_M_wantedSet_51 : decode prog_10_method_30_code 51 = .ok (.iconst 2, 1) := by decide +kernel
theorem d_M_wantedSet_52 : decode prog_10_method_30_code 52 = .ok (.if_icmp .ne 24, 3) := by decide +kernel
theorem d_M_wantedSet_55 : decode prog_10_method_30_code 55 = .ok (.aload_n 0, 1) := by decide +kernel
theorem d_M_wantedSet_56 : decode prog_10_method_30_code 56 = .ok (.getfield 37, 3) := by decide +kernel
theorem d_M_wantedSet_59 : decode prog_10_method_30_code 59 = .ok (.bipush 16, 2) := by decide +kernel
theorem d_M_wantedSet_61 : decode prog_10_method_30_code 61 = .ok (.iload_n 1, 1) := by decide +kernel
theorem d_M_wantedSet_62 : decode prog_10_method_30_code 62 = .ok (.imul, 1) := by decide +kernel
theorem d_M_wantedSet_63 : decode prog_10_method_30_code 63 = .ok (.aload_n 0, 1) := by decide +kernel
theorem d_M_wantedSet_64 : decode prog_10_method_30_code 64 = .ok (.getfield 58, 3) := by decide +kernel
theorem d_M_wantedSet_67 : decode prog_10_method_30_code 67 = .ok (.iload_n 1, 1) := by decide +kernel
theorem d_M_wantedSet_68 : decode prog_10_method_30_code 68 = .ok (.iaload, 1) := by decide +kernel
theorem d_M_wantedSet_69 : decode prog_10_method_30_code 69 = .ok (.iadd, 1) := by decide +kernel
theorem d_M_wantedSet_70 : decode prog_10_method_30_code 70 = .ok (.iaload, 1) := by decide +kernel
theorem d_M_wantedSet_71 : decode prog_10_method_30_code 71 = .ok (.sipush 255, 3) := by decide +kernel
theorem d_M_wantedSet_74 : decode prog_10_method_30_code 74 = .ok (.iand, 1) := by decide +kernel
theorem d_M_wantedSet_75 : decode prog_10_method_30_code 75 = .ok (.ireturn, 1) := by decide +kernel
theorem d_M_wantedSet_76 : decode prog_10_method_30_code 76 = .ok (.iconst 0, 1) := by decide +kernel
theorem d_M_wantedSet_77 : decode prog_10_method_30_code 77 = .ok (.istore_n 2, 1) := by decide +kernel
theorem d_M_wantedSet_78 : decode prog_10_method_30_code 78 = .ok (.iconst 0, 1) := by decide +kernel
theorem d_M_wantedSet_79 : decode prog_10_method_30_code 79 = .ok (.istore_n 3, 1) := by decide +kernel
theorem d_M_wantedSet_80 : decode prog_10_method_30_code 80 = .ok (.iload_n 3, 1) := by decide +kernel
theorem d_M_wantedSet_81 : decode prog_10_method_30_code 81 = .ok (.bipush 16, 2) := by decide +kernel
theorem d_M_wantedSet_83 : decode prog_10_method_30_code 83 = .ok (.if_icmp .ge 45, 3) := by decide +kernel
theorem d_M_wantedSet_86 : decode prog_10_method_30_code 86 = .ok (.iload_n 2, 1) := by decide +kernel
theorem d_M_wantedSet_87 : decode prog_10_method_30_code 87 = .ok (.aload_n 0, 1) := by decide +kernel
theorem d_M_wantedSet_88 : decode prog_10_method_30_code 88 = .ok (.getfield 73, 3) := by decide +kernel
theorem d_M_wantedSet_91 : decode prog_10_method_30_code 91 = .ok (.iload_n 1, 1) := by decide +kernel
theorem d_M_wantedSet_92 : decode prog_10_method_30_code 92 = .ok (.iaload, 1) := by decide +kernel
theorem d_M_wantedSet_93 : decode prog_10_method_30_code 93 = .ok (.iload_n 3, 1) := by decide +kernel
theorem d_M_wantedSet_94 : decode prog_10_method_30_code 94 = .ok (.ishr, 1) := by decide +kernel
theorem d_M_wantedSet_95 : decode prog_10_method_30_code 95 = .ok (.iconst 1, 1) := by decide +kernel
theorem d_M_wantedSet_96 : decode prog_10_method_30_code 96 = .ok (.iand, 1) := by decide +kernel
theorem d_M_wantedSet_97 : decode prog_10_method_30_code 97 = .ok (.iconst 1, 1) := by decide +kernel
theorem d_M_wantedSet_98 : decode prog_10_method_30_code 98 = .ok (.if_icmp .ne 21, 3) := by decide +kernel
theorem d_M_wantedSet_101 : decode prog_10_method_30_code 101 = .ok (.aload_n 0, 1) := by decide +kernel
theorem d_M_wantedSet_102 : decode prog_10_method_30_code 102 = .ok (.getfield 37, 3) := by decide +kernel
theorem d_M_wantedSet_105 : decode prog_10_method_30_code 105 = .ok (.bipush 16, 2) := by decide +kernel
theorem d_M_wantedSet_107 : decode prog_10_method_30_code 107 = .ok (.iload_n 1, 1) := by decide +kernel
theorem d_M_wantedSet_108 : decode prog_10_method_30_code 108 = .ok (.imul, 1) := by decide +kernel
theorem d_M_wantedSet_109 : decode prog_10_method_30_code 109 = .ok (.iload_n 3, 1) := by decide +kernel
theorem d_M_wantedSet_110 : decode prog_10_method_30_code 110 = .ok (.iadd, 1) := by decide +kernel
theorem d_M_wantedSet_111 : decode prog_10_method_30_code 111 = .ok (.iaload, 1) := by decide +kernel
theorem d_M_wantedSet_112 : decode prog_10_method_30_code 112 = .ok (.sipush 255, 3) := by decide +kernel
theorem d_M_wantedSet_115 : decode prog_10_method_30_code 115 = .ok (.iand, 1) := by decide +kernel
theorem d_M_wantedSet_116 : decode prog_10_method_30_code 116 = .ok (.goto 4, 3) := by decide +kernel
theorem d_M_wantedSet_119 : decode prog_10_method_30_code 119 = .ok (.iconst 0, 1) := by decide +kernel
theorem d_M_wantedSet_120 : decode prog_10_method_30_code 120 = .ok (.ior, 1) := by decide +kernel
theorem d_M_wantedSet_121 : decode prog_10_method_30_code 121 = .ok (.istore_n 2, 1) := by decide +kernel
theorem d_M_wantedSet_122 : decode prog_10_method_30_code 122 = .ok (.iinc 3 1, 3) := by decide +kernel
theorem d_M_wantedSet_125 : decode prog_10_method_30_code 125 = .ok (.goto (-45), 3) := by decide +kernel
theorem d_M_wantedSet_128 : decode prog_10_method_30_code 128 = .ok (.iload_n 2, 1) := by decide +kernel
theorem d_M_wantedSet_129 : decode prog_10_method_30_code 129 = .ok (.ireturn, 1) := by decide +kernel
theorem d_M_begins_0 : decode prog_10_method_31_code 0 = .ok (.aload_n 0, 1) := by decide +kernel
theorem d_M_begins_1 : decode prog_10_method_31_code 1 = .ok (.getfield 55, 3) := by decide +kernel
theorem d_M_begins_4 : decode prog_10_method_31_code 4 = .ok (.iload_n 1, 1) := by decide +kernel
theorem d_M_begins_5 : decode prog_10_method_31_code 5 = .ok (.iload_n 2, 1) := by decide +kernel
theorem d_M_begins_6 : decode prog_10_method_31_code 6 = .ok (.iastore, 1) := by decide +kernel
theorem d_M_begins_7 : decode prog_10_method_31_code 7 = .ok (.aload_n 0, 1) := by decide +kernel
theorem d_M_begins_8 : decode prog_10_method_31_code 8 = .ok (.getfield 22, 3) := by decide +kernel
theorem d_M_begins_11 : decode prog_10_method_31_code 11 = .ok (.iload_n 1, 1) := by decide +kernel
theorem d_M_begins_12 : decode prog_10_method_31_code 12 = .ok (.dup2, 1) := by decide +kernel
theorem d_M_begins_13 : decode prog_10_method_31_code 13 = .ok (.iaload, 1) := by decide +kernel
theorem d_M_begins_14 : decode prog_10_method_31_code 14 = .ok (.iconst 1, 1) := by decide +kernel
theorem d_M_begins_15 : decode prog_10_method_31_code 15 = .ok (.iadd, 1) := by decide +kernel
theorem d_M_begins_16 : decode prog_10_method_31_code 16 = .ok (.iastore, 1) := by decide +kernel
theorem d_M_begins_17 : decode prog_10_method_31_code 17 = .ok (.aload_n 0, 1) := by decide +kernel
theorem d_M_begins_18 : decode prog_10_method_31_code 18 = .ok (.getfield 64, 3) := by decide +kernel
theorem d_M_begins_21 : decode prog_10_method_31_code 21 = .ok (.iload_n 1, 1) := by decide +kernel
theorem d_M_begins_22 : decode prog_10_method_31_code 22 = .ok (.iconst 0, 1) := by decide +kernel
theorem d_M_begins_23 : decode prog_10_method_31_code 23 = .ok (.iastore, 1) := by decide +kernel
theorem d_M_begins_24 : decode prog_10_method_31_code 24 = .ok (.aload_n 0, 1) := by decide +kernel
theorem d_M_begins_25 : decode prog_10_method_31_code 25 = .ok (.getfield 67, 3) := by decide +kernel
theorem d_M_begins_28 : decode prog_10_method_31_code 28 = .ok (.iload_n 1, 1) := by decide +kernel
theorem d_M_begins_29 : decode prog_10_method_31_code 29 = .ok (.iconst 0, 1) := by decide +kernel
theorem d_M_begins_30 : decode prog_10_method_31_code 30 = .ok (.iastore, 1) := by decide +kernel
theorem d_M_begins_31 : decode prog_10_method_31_code 31 = .ok (.iload_n 2, 1) := by decide +kernel
theorem d_M_begins_32 : decode prog_10_method_31_code 32 = .ok (.iconst 1, 1) := by decide +kernel
theorem d_M_begins_33 : decode prog_10_method_31_code 33 = .ok (.if_icmp .ne 22, 3) := by decide +kernel
theorem d_M_begins_36 : decode prog_10_method_31_code 36 = .ok (.aload_n 0, 1) := by decide +kernel
theorem d_M_begins_37 : decode prog_10_method_31_code 37 = .ok (.iload_n 1, 1) := by decide +kernel
theorem d_M_begins_38 : decode prog_10_method_31_code 38 = .ok (.invokevirtual 176, 3) := by decide +kernel
theorem d_M_begins_41 : decode prog_10_method_31_code 41 = .ok (.aload_n 0, 1) := by decide +kernel
theorem d_M_begins_42 : decode prog_10_method_31_code 42 = .ok (.getfield 82, 3) := by decide +kernel
theorem d_M_begins_45 : decode prog_10_method_31_code 45 = .ok (.iload_n 1, 1) := by decide +kernel
theorem d_M_begins_46 : decode prog_10_method_31_code 46 = .ok (.iconst 0, 1) := by decide +kernel
theorem d_M_begins_47 : decode prog_10_method_31_code 47 = .ok (.iastore, 1) := by decide +kernel
theorem d_M_begins_48 : decode prog_10_method_31_code 48 = .ok (.aload_n 0, 1) := by decide +kernel
theorem d_M_begins_49 : decode prog_10_method_31_code 49 = .ok (.getfield 85, 3) := by decide +kernel
theorem d_M_begins_52 : decode prog_10_method_31_code 52 = .ok (.iload_n 1, 1) := by decide +kernel
theorem d_M_begins_53 : decode prog_10_method_31_code 53 = .ok (.iconst 0, 1) := by decide +kernel
theorem d_M_begins_54 : decode prog_10_method_31_code 54 = .ok (.iastore, 1) := by decide +kernel
theorem d_M_begins_55 : decode prog_10_method_31_code 55 = .ok (.iload_n 2, 1) := by decide +kernel
theorem d_M_begins_56 : decode prog_10_method_31_code 56 = .ok (.iconst 1, 1) := by decide +kernel
theorem d_M_begins_57 : decode prog_10_method_31_code 57 = .ok (.if_icmp .ne 52, 3) := by decide +kernel
theorem d_M_begins_60 : decode prog_10_method_31_code 60 = .ok (.aload_n 0, 1) := by decide +kernel
theorem d_M_begins_61 : decode prog_10_method_31_code 61 = .ok (.getfield 52, 3) := by decide +kernel
theorem d_M_begins_64 : decode prog_10_method_31_code 64 = .ok (.iload_n 1, 1) := by decide +kernel
theorem d_M_begins_65 : decode prog_10_method_31_code 65 = .ok (.iaload, 1) := by decide +kernel
theorem d_M_begins_66 : decode prog_10_method_31_code 66 = .ok (.iconst 3, 1) := by decide +kernel
theorem d_M_begins_67 : decode prog_10_method_31_code 67 = .ok (.if_icmp .ne 42, 3) := by decide +kernel
theorem d_M_begins_70 : decode prog_10_method_31_code 70 = .ok (.aload_n 0, 1) := by decide +kernel
theorem d_M_begins_71 : decode prog_10_method_31_code 71 = .ok (.iload_n 1, 1) := by decide +kernel
theorem d_M_begins_72 : decode prog_10_method_31_code 72 = .ok (.aload_n 0, 1) := by decide +kernel
theorem d_M_begins_73 : decode prog_10_method_31_code 73 = .ok (.getfield 16, 3) := by decide +kernel
theorem d_M_begins_76 : decode prog_10_method_31_code 76 = .ok (.iload_n 1, 1) := by decide +kernel
theorem d_M_begins_77 : decode prog_10_method_31_code 77 = .ok (.iaload, 1) := by decide +kernel
theorem d_M_begins_78 : decode prog_10_method_31_code 78 = .ok (.iconst 1, 1) := by decide +kernel
theorem d_M_begins_79 : decode prog_10_method_31_code 79 = .ok (.iadd, 1) := by decide +kernel
theorem d_M_begins_80 : decode prog_10_method_31_code 80 = .ok (.invokevirtual 164, 3) := by decide +kernel
theorem d_M_begins_83 : decode prog_10_method_31_code 83 = .ok (.aload_n 0, 1) := by decide +kernel
theorem d_M_begins_84 : decode prog_10_method_31_code 84 = .ok (.iload_n 1, 1) := by decide +kernel
theorem d_M_begins_85 : decode prog_10_method_31_code 85 = .ok (.invokevirtual 111, 3) := by decide +kernel
theorem d_M_begins_88 : decode prog_10_method_31_code 88 = .ok (.ifCond .ne 4, 3) := by decide +kernel
theorem d_M_begins_91 : decode prog_10_method_31_code 91 = .ok (.return_, 1) := by decide +kernel
theorem d_M_begins_92 : decode prog_10_method_31_code 92 = .ok (.aload_n 0, 1) := by decide +kernel
theorem d_M_begins_93 : decode prog_10_method_31_code 93 = .ok (.getfield 76, 3) := by decide +kernel
theorem d_M_begins_96 : decode prog_10_method_31_code 96 = .ok (.iload_n 1, 1) := by decide +kernel
theorem d_M_begins_97 : decode prog_10_method_31_code 97 = .ok (.bipush 8, 2) := by decide +kernel
theorem d_M_begins_99 : decode prog_10_method_31_code 99 = .ok (.aload_n 0, 1) := by decide +kernel
theorem d_M_begins_100 : decode prog_10_method_31_code 100 = .ok (.getfield 16, 3) := by decide +kernel
theorem d_M_begins_103 : decode prog_10_method_31_code 103 = .ok (.iload_n 1, 1) := by decide +kernel
theorem d_M_begins_104 : decode prog_10_method_31_code 104 = .ok (.iaload, 1) := by decide +kernel
theorem d_M_begins_105 : decode prog_10_method_31_code 105 = .ok (.imul, 1) := by decide +kernel
theorem d_M_begins_106 : decode prog_10_method_31_code 106 = .ok (.iload_n 1, 1) := by decide +kernel
theorem d_M_begins_107 : decode prog_10_method_31_code 107 = .ok (.iadd, 1) := by decide +kernel
theorem d_M_begins_108 : decode prog_10_method_31_code 108 = .ok (.iastore, 1) := by decide +kernel
theorem d_M_begins_109 : decode prog_10_method_31_code 109 = .ok (.aload_n 0, 1) := by decide +kernel
theorem d_M_begins_110 : decode prog_10_method_31_code 110 = .ok (.iload_n 1, 1) := by decide +kernel
theorem d_M_begins_111 : decode prog_10_method_31_code 111 = .ok (.aload_n 0, 1) := by decide +kernel
theorem d_M_begins_112 : decode prog_10_method_31_code 112 = .ok (.iload_n 1, 1) := by decide +kernel
theorem d_M_begins_113 : decode prog_10_method_31_code 113 = .ok (.invokevirtual 179, 3) := by decide +kernel
theorem d_M_begins_116 : decode prog_10_method_31_code 116 = .ok (.invokevirtual 182, 3) := by decide +kernel
theorem d_M_begins_119 : decode prog_10_method_31_code 119 = .ok (.return_, 1) := by decide +kernel
theorem d_M_isEnough_0 : decode prog_10_method_32_code 0 = .ok (.aload_n 0, 1) := by decide +kernel
theorem d_M_isEnough_1 : decode prog_10_method_32_code 1 = .ok (.getfield 67, 3) := by decide +kernel
theorem d_M_isEnough_4 : decode prog_10_method_32_code 4 = .ok (.iload_n 1, 1) := by decide +kernel
theorem d_M_isEnough_5 : decode prog_10_method_32_code 5 = .ok (.iaload, 1) := by decide +kernel
theorem d_M_isEnough_6 : decode prog_10_method_32_code 6 = .ok (.istore_n 2, 1) := by decide +kernel
theorem d_M_isEnough_7 : decode prog_10_method_32_code 7 = .ok (.aload_n 0, 1) := by decide +kernel
theorem d_M_isEnough_8 : decode prog_10_method_32_code 8 = .ok (.getfield 52, 3) := by decide +kernel
theorem d_M_isEnough_11 : decode prog_10_method_32_code 11 = .ok (.iload_n 1, 1) := by decide +kernel
theorem d_M_isEnough_12 : decode prog_10_method_32_code 12 = .ok (.iaload, 1) := by decide +kernel
theorem d_M_isEnough_13 : decode prog_10_method_32_code 13 = .ok (.iconst 3, 1) := by decide +kernel
theorem d_M_isEnough_14 : decode prog_10_method_32_code 14 = .ok (.if_icmp .ne 60, 3) := by decide +kernel
theorem d_M_isEnough_17 : decode prog_10_method_32_code 17 = .ok (.aload_n 0, 1) := by decide +kernel
theorem d_M_isEnough_18 : decode prog_10_method_32_code 18 = .ok (.getfield 37, 3) := by decide +kernel
theorem d_M_isEnough_21 : decode prog_10_method_32_code 21 = .ok (.bipush 16, 2) := by decide +kernel
theorem d_M_isEnough_23 : decode prog_10_method_32_code 23 = .ok (.iload_n 1, 1) := by decide +kernel
theorem d_M_isEnough_24 : decode prog_10_method_32_code 24 = .ok (.imul, 1) := by decide +kernel
theorem d_M_isEnough_25 : decode prog_10_method_32_code 25 = .ok (.aload_n 0, 1) := by decide +kernel
theorem d_M_isEnough_26 : decode prog_10_method_32_code 26 = .ok (.getfield 79, 3) := by decide +kernel
theorem d_M_isEnough_29 : decode prog_10_method_32_code 29 = .ok (.iload_n 1, 1) := by decide +kernel
theorem d_M_isEnough_30 : decode prog_10_method_32_code 30 = .ok (.iaload, 1) := by decide +kernel
theorem d_M_isEnough_31 : decode prog_10_method_32_code 31 = .ok (.iadd, 1) := by decide +kernel
theorem d_M_isEnough_32 : decode prog_10_method_32_code 32 = .ok (.iaload, 1) := by decide +kernel
theorem d_M_isEnough_33 : decode prog_10_method_32_code 33 = .ok (.istore_n 3, 1) := by decide +kernel
theorem d_M_isEnough_34 : decode prog_10_method_32_code 34 = .ok (.iload_n 2, 1) := by decide +kernel
theorem d_M_isEnough_35 : decode prog_10_method_32_code 35 = .ok (.iload_n 3, 1) := by decide +kernel
theorem d_M_isEnough_36 : decode prog_10_method_32_code 36 = .ok (.iand, 1) := by decide +kernel
theorem d_M_isEnough_37 : decode prog_10_method_32_code 37 = .ok (.sipush 255, 3) := by decide +kernel
theorem d_M_isEnough_40 : decode prog_10_method_32_code 40 = .ok (.iand, 1) := by decide +kernel
theorem d_M_isEnough_41 : decode prog_10_method_32_code 41 = .ok (.invokestatic 185, 3) := by decide +kernel
theorem d_M_isEnough_44 : decode prog_10_method_32_code 44 = .ok (.aload_n 0, 1) := by decide +kernel
theorem d_M_isEnough_45 : decode prog_10_method_32_code 45 = .ok (.getfield 55, 3) := by decide +kernel
theorem d_M_isEnough_48 : decode prog_10_method_32_code 48 = .ok (.iload_n 1, 1) := by decide +kernel
theorem d_M_isEnough_49 : decode prog_10_method_32_code 49 = .ok (.iaload, 1) := by decide +kernel
theorem d_M_isEnough_50 : decode prog_10_method_32_code 50 = .ok (.iconst 1, 1) := by decide +kernel
theorem d_M_isEnough_51 : decode prog_10_method_32_code 51 = .ok (.if_icmp .ne 10, 3) := by decide +kernel
theorem d_M_isEnough_54 : decode prog_10_method_32_code 54 = .ok (.iload_n 3, 1) := by decide +kernel
theorem d_M_isEnough_55 : decode prog_10_method_32_code 55 = .ok (.invokestatic 188, 3) := by decide +kernel
theorem d_M_isEnough_58 : decode prog_10_method_32_code 58 = .ok (.goto 7, 3) := by decide +kernel
theorem d_M_isEnough_61 : decode prog_10_method_32_code 61 = .ok (.iload_n 3, 1) := by decide +kernel
theorem d_M_isEnough_62 : decode prog_10_method_32_code 62 = .ok (.invokestatic 191, 3) := by decide +kernel
theorem d_M_isEnough_65 : decode prog_10_method_32_code 65 = .ok (.if_icmp .lt 7, 3) := by decide +kernel
theorem d_M_isEnough_68 : decode prog_10_method_32_code 68 = .ok (.iconst 1, 1) := by decide +kernel
theorem d_M_isEnough_69 : decode prog_10_method_32_code 69 = .ok (.goto 4, 3) := by decide +kernel
theorem d_M_isEnough_72 : decode prog_10_method_32_code 72 = .ok (.iconst 0, 1) := by decide +kernel
theorem d_M_isEnough_73 : decode prog_10_method_32_code 73 = .ok (.ireturn, 1) := by decide +kernel
theorem d_M_isEnough_74 : decode prog_10_method_32_code 74 = .ok (.aload_n 0, 1) := by decide +kernel
theorem d_M_isEnough_75 : decode prog_10_method_32_code 75 = .ok (.getfield 52, 3) := by decide +kernel
theorem d_M_isEnough_78 : decode prog_10_method_32_code 78 = .ok (.iload_n 1, 1) := by decide +kernel
theorem d_M_isEnough_79 : decode prog_10_method_32_code 79 = .ok (.iaload, 1) := by decide +kernel
theorem d_M_isEnough_80 : decode prog_10_method_32_code 80 = .ok (.iconst 4, 1) := by decide +kernel
theorem d_M_isEnough_81 : decode prog_10_method_32_code 81 = .ok (.if_icmp .ne 53, 3) := by decide +kernel
theorem d_M_isEnough_84 : decode prog_10_method_32_code 84 = .ok (.aload_n 0, 1) := by decide +kernel
theorem d_M_isEnough_85 : decode prog_10_method_32_code 85 = .ok (.getfield 55, 3) := by decide +kernel
theorem d_M_isEnough_88 : decode prog_10_method_32_code 88 = .ok (.iload_n 1, 1) := by decide +kernel
theorem d_M_isEnough_89 : decode prog_10_method_32_code 89 = .ok (.iaload, 1) := by decide +kernel
theorem d_M_isEnough_90 : decode prog_10_method_32_code 90 = .ok (.iconst 2, 1) := by decide +kernel
theorem d_M_isEnough_91 : decode prog_10_method_32_code 91 = .ok (.if_icmp .ne 43, 3) := by decide +kernel
theorem d_M_isEnough_94 : decode prog_10_method_32_code 94 = .ok (.aload_n 0, 1) := by decide +kernel
theorem d_M_isEnough_95 : decode prog_10_method_32_code 95 = .ok (.getfield 37, 3) := by decide +kernel
theorem d_M_isEnough_98 : decode prog_10_method_32_code 98 = .ok (.bipush 16, 2) := by decide +kernel
theorem d_M_isEnough_100 : decode prog_10_method_32_code 100 = .ok (.iload_n 1, 1) := by decide +kernel
theorem d_M_isEnough_101 : decode prog_10_method_32_code 101 = .ok (.imul, 1) := by decide +kernel
theorem d_M_isEnough_102 : decode prog_10_method_32_code 102 = .ok (.aload_n 0, 1) := by decide +kernel
theorem d_M_isEnough_103 : decode prog_10_method_32_code 103 = .ok (.getfield 58, 3) := by decide +kernel
theorem d_M_isEnough_106 : decode prog_10_method_32_code 106 = .ok (.iload_n 1, 1) := by decide +kernel
theorem d_M_isEnough_107 : decode prog_10_method_32_code 107 = .ok (.iaload, 1) := by decide +kernel
theorem d_M_isEnough_108 : decode prog_10_method_32_code 108 = .ok (.iadd, 1) := by decide +kernel
theorem d_M_isEnough_109 : decode prog_10_method_32_code 109 = .ok (.iaload, 1) := by decide +kernel
theorem d_M_isEnough_110 : decode prog_10_method_32_code 110 = .ok (.istore_n 3, 1) := by decide +kernel
theorem d_M_isEnough_111 : decode prog_10_method_32_code 111 = .ok (.iload_n 2, 1) := by decide +kernel
theorem d_M_isEnough_112 : decode prog_10_method_32_code 112 = .ok (.iload_n 3, 1) := by decide +kernel
theorem d_M_isEnough_113 : decode prog_10_method_32_code 113 = .ok (.iand, 1) := by decide +kernel
theorem d_M_isEnough_114 : decode prog_10_method_32_code 114 = .ok (.sipush 255, 3) := by decide +kernel
theorem d_M_isEnough_117 : decode prog_10_method_32_code 117 = .ok (.iand, 1) := by decide +kernel
theorem d_M_isEnough_118 : decode prog_10_method_32_code 118 = .ok (.invokestatic 185, 3) := by decide +kernel
theorem d_M_isEnough_121 : decode prog_10_method_32_code 121 = .ok (.iload_n 3, 1) := by decide +kernel
theorem d_M_isEnough_122 : decode prog_10_method_32_code 122 = .ok (.invokestatic 191, 3) := by decide +kernel
theorem d_M_isEnough_125 : decode prog_10_method_32_code 125 = .ok (.if_icmp .lt 7, 3) := by decide +kernel
theorem d_M_isEnough_128 : decode prog_10_method_32_code 128 = .ok (.iconst 1, 1) := by decide +kernel
theorem d_M_isEnough_129 : decode prog_10_method_32_code 129 = .ok (.goto 4, 3) := by decide +kernel
theorem d_M_isEnough_132 : decode prog_10_method_32_code 132 = .ok (.iconst 0, 1) := by decide +kernel
theorem d_M_isEnough_133 : decode prog_10_method_32_code 133 = .ok (.ireturn, 1) := by decide +kernel
theorem d_M_isEnough_134 : decode prog_10_method_32_code 134 = .ok (.iconst 1, 1) := by decide +kernel
theorem d_M_isEnough_135 : decode prog_10_method_32_code 135 = .ok (.istore_n 3, 1) := by decide +kernel
theorem d_M_isEnough_136 : decode prog_10_method_32_code 136 = .ok (.iconst 0, 1) := by decide +kernel
theorem d_M_isEnough_137 : decode prog_10_method_32_code 137 = .ok (.istore 4, 2) := by decide +kernel
theorem d_M_isEnough_139 : decode prog_10_method_32_code 139 = .ok (.iload 4, 2) := by decide +kernel
theorem d_M_isEnough_141 : decode prog_10_method_32_code 141 = .ok (.bipush 16, 2) := by decide +kernel
theorem d_M_isEnough_143 : decode prog_10_method_32_code 143 = .ok (.if_icmp .ge 173, 3) := by decide +kernel
theorem d_M_isEnough_146 : decode prog_10_method_32_code 146 = .ok (.aload_n 0, 1) := by decide +kernel
theorem d_M_isEnough_147 : decode prog_10_method_32_code 147 = .ok (.getfield 37, 3) := by decide +kernel
theorem d_M_isEnough_150 : decode prog_10_method_32_code 150 = .ok (.bipush 16, 2) := by decide +kernel
theorem d_M_isEnough_152 : decode prog_10_method_32_code 152 = .ok (.iload_n 1, 1) := by decide +kernel
theorem d_M_isEnough_153 : decode prog_10_method_32_code 153 = .ok (.imul, 1) := by decide +kernel
theorem d_M_isEnough_154 : decode prog_10_method_32_code 154 = .ok (.iload 4, 2) := by decide +kernel
theorem d_M_isEnough_156 : decode prog_10_method_32_code 156 = .ok (.iadd, 1) := by decide +kernel
theorem d_M_isEnough_157 : decode prog_10_method_32_code 157 = .ok (.iaload, 1) := by decide +kernel
theorem d_M_isEnough_158 : decode prog_10_method_32_code 158 = .ok (.istore 5, 2) := by decide +kernel
theorem d_M_isEnough_160 : decode prog_10_method_32_code 160 = .ok (.aload_n 0, 1) := by decide +kernel
theorem d_M_isEnough_161 : decode prog_10_method_32_code 161 = .ok (.iload_n 1, 1) := by decide +kernel
theorem d_M_isEnough_162 : decode prog_10_method_32_code 162 = .ok (.invokevirtual 135, 3) := by decide +kernel
theorem d_M_isEnough_165 : decode prog_10_method_32_code 165 = .ok (.ifCond .eq 27, 3) := by decide +kernel
theorem d_M_isEnough_168 : decode prog_10_method_32_code 168 = .ok (.aload_n 0, 1) := by decide +kernel
theorem d_M_isEnough_169 : decode prog_10_method_32_code 169 = .ok (.getfield 34, 3) := by decide +kernel
theorem d_M_isEnough_172 : decode prog_10_method_32_code 172 = .ok (.bipush 16, 2) := by decide +kernel
theorem d_M_isEnough_174 : decode prog_10_method_32_code 174 = .ok (.iload_n 1, 1) := by decide +kernel
theorem d_M_isEnough_175 : decode prog_10_method_32_code 175 = .ok (.imul, 1) := by decide +kernel
theorem d_M_isEnough_176 : decode prog_10_method_32_code 176 = .ok (.iload 4, 2) := by decide +kernel
theorem d_M_isEnough_178 : decode prog_10_method_32_code 178 = .ok (.iadd, 1) := by decide +kernel
theorem d_M_isEnough_179 : decode prog_10_method_32_code 179 = .ok (.iaload, 1) := by decide +kernel
theorem d_M_isEnough_180 : decode prog_10_method_32_code 180 = .ok (.iconst 1, 1) := by decide +kernel
theorem d_M_isEnough_181 : decode prog_10_method_32_code 181 = .ok (.if_icmp .ne 7, 3) := by decide +kernel
theorem d_M_isEnough_184 : decode prog_10_method_32_code 184 = .ok (.iconst 1, 1) := by decide +kernel
theorem d_M_isEnough_185 : decode prog_10_method_32_code 185 = .ok (.goto 27, 3) := by decide +kernel
theorem d_M_isEnough_188 : decode prog_10_method_32_code 188 = .ok (.iconst 0, 1) := by decide +kernel
theorem d_M_isEnough_189 : decode prog_10_method_32_code 189 = .ok (.goto 23, 3) := by decide +kernel
theorem d_M_isEnough_192 : decode prog_10_method_32_code 192 = .ok (.aload_n 0, 1) := by decide +kernel
theorem d_M_isEnough_193 : decode prog_10_method_32_code 193 = .ok (.getfield 73, 3) := by decide +kernel
theorem d_M_isEnough_196 : decode prog_10_method_32_code 196 = .ok (.iload_n 1, 1) := by decide +kernel
theorem d_M_isEnough_197 : decode prog_10_method_32_code 197 = .ok (.iaload, 1) := by decide +kernel
theorem d_M_isEnough_198 : decode prog_10_method_32_code 198 = .ok (.iload 4, 2) := by decide +kernel
theorem d_M_isEnough_200 : decode prog_10_method_32_code 200 = .ok (.ishr, 1) := by decide +kernel
theorem d_M_isEnough_201 : decode prog_10_method_32_code 201 = .ok (.iconst 1, 1) := by decide +kernel
theorem d_M_isEnough_202 : decode prog_10_method_32_code 202 = .ok (.iand, 1) := by decide +kernel
theorem d_M_isEnough_203 : decode prog_10_method_32_code 203 = .ok (.iconst 1, 1) := by decide +kernel
theorem d_M_isEnough_204 : decode prog_10_method_32_code 204 = .ok (.if_icmp .ne 7, 3) := by decide +kernel
theorem d_M_isEnough_207 : decode prog_10_method_32_code 207 = .ok (.iconst 1, 1) := by decide +kernel
theorem d_M_isEnough_208 : decode prog_10_method_32_code 208 = .ok (.goto 4, 3) := by decide +kernel
theorem d_M_isEnough_211 : decode prog_10_method_32_code 211 = .ok (.iconst 0, 1) := by decide +kernel
theorem d_M_isEnough_212 : decode prog_10_method_32_code 212 = .ok (.istore 6, 2) := by decide +kernel
theorem d_M_isEnough_214 : decode prog_10_method_32_code 214 = .ok (.iload 6, 2) := by decide +kernel
theorem d_M_isEnough_216 : decode prog_10_method_32_code 216 = .ok (.ifCond .ne 6, 3) := by decide +kernel
theorem d_M_isEnough_219 : decode prog_10_method_32_code 219 = .ok (.goto 91, 3) := by decide +kernel
theorem d_M_isEnough_222 : decode prog_10_method_32_code 222 = .ok (.aload_n 0, 1) := by decide +kernel
theorem d_M_isEnough_223 : decode prog_10_method_32_code 223 = .ok (.iload_n 1, 1) := by decide +kernel
theorem d_M_isEnough_224 : decode prog_10_method_32_code 224 = .ok (.invokevirtual 135, 3) := by decide +kernel
theorem d_M_isEnough_227 : decode prog_10_method_32_code 227 = .ok (.ifCond .eq 29, 3) := by decide +kernel
theorem d_M_isEnough_230 : decode prog_10_method_32_code 230 = .ok (.aload_n 0, 1) := by decide +kernel
theorem d_M_isEnough_231 : decode prog_10_method_32_code 231 = .ok (.getfield 55, 3) := by decide +kernel
theorem d_M_isEnough_234 : decode prog_10_method_32_code 234 = .ok (.iload_n 1, 1) := by decide +kernel
theorem d_M_isEnough_235 : decode prog_10_method_32_code 235 = .ok (.iaload, 1) := by decide +kernel
theorem d_M_isEnough_236 : decode prog_10_method_32_code 236 = .ok (.iconst 1, 1) := by decide +kernel
theorem d_M_isEnough_237 : decode prog_10_method_32_code 237 = .ok (.if_icmp .ne 11, 3) := by decide +kernel
theorem d_M_isEnough_240 : decode prog_10_method_32_code 240 = .ok (.iload 5, 2) := by decide +kernel
theorem d_M_isEnough_242 : decode prog_10_method_32_code 242 = .ok (.invokestatic 188, 3) := by decide +kernel
theorem d_M_isEnough_245 : decode prog_10_method_32_code 245 = .ok (.goto 37, 3) := by decide +kernel
theorem d_M_isEnough_248 : decode prog_10_method_32_code 248 = .ok (.iload 5, 2) := by decide +kernel
theorem d_M_isEnough_250 : decode prog_10_method_32_code 250 = .ok (.invokestatic 191, 3) := by decide +kernel
theorem d_M_isEnough_253 : decode prog_10_method_32_code 253 = .ok (.goto 29, 3) := by decide +kernel
theorem d_M_isEnough_256 : decode prog_10_method_32_code 256 = .ok (.iload 5, 2) := by decide +kernel
theorem d_M_isEnough_258 : decode prog_10_method_32_code 258 = .ok (.invokestatic 188, 3) := by decide +kernel
theorem d_M_isEnough_261 : decode prog_10_method_32_code 261 = .ok (.iload 5, 2) := by decide +kernel
theorem d_M_isEnough_263 : decode prog_10_method_32_code 263 = .ok (.invokestatic 191, 3) := by decide +kernel
theorem d_M_isEnough_266 : decode prog_10_method_32_code 266 = .ok (.if_icmp .le 11, 3) := by decide +kernel
theorem d_M_isEnough_269 : decode prog_10_method_32_code 269 = .ok (.iload 5, 2) := by decide +kernel
theorem d_M_isEnough_271 : decode prog_10_method_32_code 271 = .ok (.invokestatic 188, 3) := by decide +kernel
theorem d_M_isEnough_274 : decode prog_10_method_32_code 274 = .ok (.goto 8, 3) := by decide +kernel
theorem d_M_isEnough_277 : decode prog_10_method_32_code 277 = .ok (.iload 5, 2) := by decide +kernel
theorem d_M_isEnough_279 : decode prog_10_method_32_code 279 = .ok (.invokestatic 191, 3) := by decide +kernel
theorem d_M_isEnough_282 : decode prog_10_method_32_code 282 = .ok (.istore 7, 2) := by decide +kernel
theorem d_M_isEnough_284 : decode prog_10_method_32_code 284 = .ok (.iload_n 3, 1) := by decide +kernel
theorem d_M_isEnough_285 : decode prog_10_method_32_code 285 = .ok (.ifCond .eq 23, 3) := by decide +kernel
theorem d_M_isEnough_288 : decode prog_10_method_32_code 288 = .ok (.iload_n 2, 1) := by decide +kernel
theorem d_M_isEnough_289 : decode prog_10_method_32_code 289 = .ok (.iload 5, 2) := by decide +kernel
theorem d_M_isEnough_291 : decode prog_10_method_32_code 291 = .ok (.iand, 1) := by decide +kernel
theorem d_M_isEnough_292 : decode prog_10_method_32_code 292 = .ok (.sipush 255, 3) := by decide +kernel
theorem d_M_isEnough_295 : decode prog_10_method_32_code 295 = .ok (.iand, 1) := by decide +kernel
theorem d_M_isEnough_296 : decode prog_10_method_32_code 296 = .ok (.invokestatic 185, 3) := by decide +kernel
theorem d_M_isEnough_299 : decode prog_10_method_32_code 299 = .ok (.iload 7, 2) := by decide +kernel
theorem d_M_isEnough_301 : decode prog_10_method_32_code 301 = .ok (.if_icmp .lt 7, 3) := by decide +kernel
theorem d_M_isEnough_304 : decode prog_10_method_32_code 304 = .ok (.iconst 1, 1) := by decide +kernel
theorem d_M_isEnough_305 : decode prog_10_method_32_code 305 = .ok (.goto 4, 3) := by decide +kernel
theorem d_M_isEnough_308 : decode prog_10_method_32_code 308 = .ok (.iconst 0, 1) := by decide +kernel
theorem d_M_isEnough_309 : decode prog_10_method_32_code 309 = .ok (.istore_n 3, 1) := by decide +kernel
theorem d_M_isEnough_310 : decode prog_10_method_32_code 310 = .ok (.iinc 4 1, 3) := by decide +kernel
theorem d_M_isEnough_313 : decode prog_10_method_32_code 313 = .ok (.goto (-174), 3) := by decide +kernel
theorem d_M_isEnough_316 : decode prog_10_method_32_code 316 = .ok (.iload_n 3, 1) := by decide +kernel
theorem d_M_isEnough_317 : decode prog_10_method_32_code 317 = .ok (.ireturn, 1) := by decide +kernel
theorem d_M_goesOn_0 : decode prog_10_method_33_code 0 = .ok (.aload_n 0, 1) := by decide +kernel
theorem d_M_goesOn_1 : decode prog_10_method_33_code 1 = .ok (.iload_n 1, 1) := by decide +kernel
theorem d_M_goesOn_2 : decode prog_10_method_33_code 2 = .ok (.invokevirtual 111, 3) := by decide +kernel
theorem d_M_goesOn_5 : decode prog_10_method_33_code 5 = .ok (.ifCond .eq 46, 3) := by decide +kernel
theorem d_M_goesOn_8 : decode prog_10_method_33_code 8 = .ok (.aload_n 0, 1) := by decide +kernel
theorem d_M_goesOn_9 : decode prog_10_method_33_code 9 = .ok (.getfield 55, 3) := by decide +kernel
theorem d_M_goesOn_12 : decode prog_10_method_33_code 12 = .ok (.iload_n 1, 1) := by decide +kernel
theorem d_M_goesOn_13 : decode prog_10_method_33_code 13 = .ok (.iaload, 1) := by decide +kernel
theorem d_M_goesOn_14 : decode prog_10_method_33_code 14 = .ok (.ifCond .le 37, 3) := by decide +kernel
theorem d_M_goesOn_17 : decode prog_10_method_33_code 17 = .ok (.aload_n 0, 1) := by decide +kernel
theorem d_M_goesOn_18 : decode prog_10_method_33_code 18 = .ok (.iload_n 1, 1) := by decide +kernel
theorem d_M_goesOn_19 : decode prog_10_method_33_code 19 = .ok (.invokevirtual 194, 3) := by decide +kernel
theorem d_M_goesOn_22 : decode prog_10_method_33_code 22 = .ok (.ifCond .eq 29, 3) := by decide +kernel
theorem d_M_goesOn_25 : decode prog_10_method_33_code 25 = .ok (.aload_n 0, 1) := by decide +kernel
theorem d_M_goesOn_26 : decode prog_10_method_33_code 26 = .ok (.getfield 55, 3) := by decide +kernel
theorem d_M_goesOn_29 : decode prog_10_method_33_code 29 = .ok (.iload_n 1, 1) := by decide +kernel
theorem d_M_goesOn_30 : decode prog_10_method_33_code 30 = .ok (.iaload, 1) := by decide +kernel
theorem d_M_goesOn_31 : decode prog_10_method_33_code 31 = .ok (.iconst 1, 1) := by decide +kernel
theorem d_M_goesOn_32 : decode prog_10_method_33_code 32 = .ok (.if_icmp .ne 11, 3) := by decide +kernel
theorem d_M_goesOn_35 : decode prog_10_method_33_code 35 = .ok (.aload_n 0, 1) := by decide +kernel
theorem d_M_goesOn_36 : decode prog_10_method_33_code 36 = .ok (.iload_n 1, 1) := by decide +kernel
theorem d_M_goesOn_37 : decode prog_10_method_33_code 37 = .ok (.invokevirtual 197, 3) := by decide +kernel
theorem d_M_goesOn_40 : decode prog_10_method_33_code 40 = .ok (.goto (-40), 3) := by decide +kernel
theorem d_M_goesOn_43 : decode prog_10_method_33_code 43 = .ok (.aload_n 0, 1) := by decide +kernel
theorem d_M_goesOn_44 : decode prog_10_method_33_code 44 = .ok (.iload_n 1, 1) := by decide +kernel
theorem d_M_goesOn_45 : decode prog_10_method_33_code 45 = .ok (.invokevirtual 200, 3) := by decide +kernel
theorem d_M_goesOn_48 : decode prog_10_method_33_code 48 = .ok (.goto (-48), 3) := by decide +kernel
theorem d_M_goesOn_51 : decode prog_10_method_33_code 51 = .ok (.return_, 1) := by decide +kernel
theorem d_M_second_0 : decode prog_10_method_34_code 0 = .ok (.aload_n 0, 1) := by decide +kernel
theorem d_M_second_1 : decode prog_10_method_34_code 1 = .ok (.iload_n 1, 1) := by decide +kernel
theorem d_M_second_2 : decode prog_10_method_34_code 2 = .ok (.invokevirtual 135, 3) := by decide +kernel
theorem d_M_second_5 : decode prog_10_method_34_code 5 = .ok (.ifCond .eq 91, 3) := by decide +kernel
theorem d_M_second_8 : decode prog_10_method_34_code 8 = .ok (.iconst 4, 1) := by decide +kernel
theorem d_M_second_9 : decode prog_10_method_34_code 9 = .ok (.iload_n 1, 1) := by decide +kernel
theorem d_M_second_10 : decode prog_10_method_34_code 10 = .ok (.imul, 1) := by decide +kernel
theorem d_M_second_11 : decode prog_10_method_34_code 11 = .ok (.aload_n 0, 1) := by decide +kernel
theorem d_M_second_12 : decode prog_10_method_34_code 12 = .ok (.getfield 58, 3) := by decide +kernel
theorem d_M_second_15 : decode prog_10_method_34_code 15 = .ok (.iload_n 1, 1) := by decide +kernel
theorem d_M_second_16 : decode prog_10_method_34_code 16 = .ok (.iaload, 1) := by decide +kernel
theorem d_M_second_17 : decode prog_10_method_34_code 17 = .ok (.iadd, 1) := by decide +kernel
theorem d_M_second_18 : decode prog_10_method_34_code 18 = .ok (.istore_n 2, 1) := by decide +kernel
theorem d_M_second_19 : decode prog_10_method_34_code 19 = .ok (.aload_n 0, 1) := by decide +kernel
theorem d_M_second_20 : decode prog_10_method_34_code 20 = .ok (.getfield 52, 3) := by decide +kernel
theorem d_M_second_23 : decode prog_10_method_34_code 23 = .ok (.iload_n 1, 1) := by decide +kernel
theorem d_M_second_24 : decode prog_10_method_34_code 24 = .ok (.iaload, 1) := by decide +kernel
theorem d_M_second_25 : decode prog_10_method_34_code 25 = .ok (.iconst 2, 1) := by decide +kernel
theorem d_M_second_26 : decode prog_10_method_34_code 26 = .ok (.if_icmp .ne 32, 3) := by decide +kernel
theorem d_M_second_29 : decode prog_10_method_34_code 29 = .ok (.aload_n 0, 1) := by decide +kernel
theorem d_M_second_30 : decode prog_10_method_34_code 30 = .ok (.getfield 88, 3) := by decide +kernel
theorem d_M_second_33 : decode prog_10_method_34_code 33 = .ok (.iload_n 2, 1) := by decide +kernel
theorem d_M_second_34 : decode prog_10_method_34_code 34 = .ok (.dup2, 1) := by decide +kernel
theorem d_M_second_35 : decode prog_10_method_34_code 35 = .ok (.iaload, 1) := by decide +kernel
theorem d_M_second_36 : decode prog_10_method_34_code 36 = .ok (.iconst 1, 1) := by decide +kernel
theorem d_M_second_37 : decode prog_10_method_34_code 37 = .ok (.iadd, 1) := by decide +kernel
theorem d_M_second_38 : decode prog_10_method_34_code 38 = .ok (.iastore, 1) := by decide +kernel
theorem d_M_second_39 : decode prog_10_method_34_code 39 = .ok (.aload_n 0, 1) := by decide +kernel
theorem d_M_second_40 : decode prog_10_method_34_code 40 = .ok (.getfield 91, 3) := by decide +kernel
theorem d_M_second_43 : decode prog_10_method_34_code 43 = .ok (.iload_n 2, 1) := by decide +kernel
theorem d_M_second_44 : decode prog_10_method_34_code 44 = .ok (.iload_n 1, 1) := by decide +kernel
theorem d_M_second_45 : decode prog_10_method_34_code 45 = .ok (.iastore, 1) := by decide +kernel
theorem d_M_second_46 : decode prog_10_method_34_code 46 = .ok (.aload_n 0, 1) := by decide +kernel
theorem d_M_second_47 : decode prog_10_method_34_code 47 = .ok (.getfield 94, 3) := by decide +kernel
theorem d_M_second_50 : decode prog_10_method_34_code 50 = .ok (.iload_n 2, 1) := by decide +kernel
theorem d_M_second_51 : decode prog_10_method_34_code 51 = .ok (.aload_n 0, 1) := by decide +kernel
theorem d_M_second_52 : decode prog_10_method_34_code 52 = .ok (.getfield 70, 3) := by decide +kernel
theorem d_M_second_55 : decode prog_10_method_34_code 55 = .ok (.iload_n 1, 1) := by decide +kernel
theorem d_M_second_56 : decode prog_10_method_34_code 56 = .ok (.iaload, 1) := by decide +kernel
theorem d_M_second_57 : decode prog_10_method_34_code 57 = .ok (.iastore, 1) := by decide +kernel
theorem d_M_second_58 : decode prog_10_method_34_code 58 = .ok (.aload_n 0, 1) := by decide +kernel
theorem d_M_second_59 : decode prog_10_method_34_code 59 = .ok (.iload_n 1, 1) := by decide +kernel
theorem d_M_second_60 : decode prog_10_method_34_code 60 = .ok (.aload_n 0, 1) := by decide +kernel
theorem d_M_second_61 : decode prog_10_method_34_code 61 = .ok (.getfield 58, 3) := by decide +kernel
theorem d_M_second_64 : decode prog_10_method_34_code 64 = .ok (.iload_n 1, 1) := by decide +kernel
theorem d_M_second_65 : decode prog_10_method_34_code 65 = .ok (.iaload, 1) := by decide +kernel
theorem d_M_second_66 : decode prog_10_method_34_code 66 = .ok (.aload_n 0, 1) := by decide +kernel
theorem d_M_second_67 : decode prog_10_method_34_code 67 = .ok (.getfield 88, 3) := by decide +kernel
theorem d_M_second_70 : decode prog_10_method_34_code 70 = .ok (.iload_n 2, 1) := by decide +kernel
theorem d_M_second_71 : decode prog_10_method_34_code 71 = .ok (.iaload, 1) := by decide +kernel
theorem d_M_second_72 : decode prog_10_method_34_code 72 = .ok (.aload_n 0, 1) := by decide +kernel
theorem d_M_second_73 : decode prog_10_method_34_code 73 = .ok (.getfield 91, 3) := by decide +kernel
theorem d_M_second_76 : decode prog_10_method_34_code 76 = .ok (.iload_n 2, 1) := by decide +kernel
theorem d_M_second_77 : decode prog_10_method_34_code 77 = .ok (.iaload, 1) := by decide +kernel
theorem d_M_second_78 : decode prog_10_method_34_code 78 = .ok (.aload_n 0, 1) := by decide +kernel
theorem d_M_second_79 : decode prog_10_method_34_code 79 = .ok (.getfield 94, 3) := by decide +kernel
theorem d_M_second_82 : decode prog_10_method_34_code 82 = .ok (.iload_n 2, 1) := by decide +kernel
theorem d_M_second_83 : decode prog_10_method_34_code 83 = .ok (.iaload, 1) := by decide +kernel
theorem d_M_second_84 : decode prog_10_method_34_code 84 = .ok (.invokevirtual 150, 3) := by decide +kernel
theorem d_M_second_87 : decode prog_10_method_34_code 87 = .ok (.aload_n 0, 1) := by decide +kernel
theorem d_M_second_88 : decode prog_10_method_34_code 88 = .ok (.iload_n 1, 1) := by decide +kernel
theorem d_M_second_89 : decode prog_10_method_34_code 89 = .ok (.invokevirtual 111, 3) := by decide +kernel
theorem d_M_second_92 : decode prog_10_method_34_code 92 = .ok (.ifCond .ne 4, 3) := by decide +kernel
theorem d_M_second_95 : decode prog_10_method_34_code 95 = .ok (.return_, 1) := by decide +kernel
theorem d_M_second_96 : decode prog_10_method_34_code 96 = .ok (.aload_n 0, 1) := by decide +kernel
theorem d_M_second_97 : decode prog_10_method_34_code 97 = .ok (.iload_n 1, 1) := by decide +kernel
theorem d_M_second_98 : decode prog_10_method_34_code 98 = .ok (.iconst 2, 1) := by decide +kernel
theorem d_M_second_99 : decode prog_10_method_34_code 99 = .ok (.invokevirtual 203, 3) := by decide +kernel
theorem d_M_second_102 : decode prog_10_method_34_code 102 = .ok (.return_, 1) := by decide +kernel
theorem d_M_ends_0 : decode prog_10_method_35_code 0 = .ok (.aload_n 0, 1) := by decide +kernel
theorem d_M_ends_1 : decode prog_10_method_35_code 1 = .ok (.getfield 52, 3) := by decide +kernel
theorem d_M_ends_4 : decode prog_10_method_35_code 4 = .ok (.iload_n 1, 1) := by decide +kernel
theorem d_M_ends_5 : decode prog_10_method_35_code 5 = .ok (.iaload, 1) := by decide +kernel
theorem d_M_ends_6 : decode prog_10_method_35_code 6 = .ok (.iconst 3, 1) := by decide +kernel
theorem d_M_ends_7 : decode prog_10_method_35_code 7 = .ok (.if_icmp .ne 35, 3) := by decide +kernel
theorem d_M_ends_10 : decode prog_10_method_35_code 10 = .ok (.aload_n 0, 1) := by decide +kernel
theorem d_M_ends_11 : decode prog_10_method_35_code 11 = .ok (.iload_n 1, 1) := by decide +kernel
theorem d_M_ends_12 : decode prog_10_method_35_code 12 = .ok (.aload_n 0, 1) := by decide +kernel
theorem d_M_ends_13 : decode prog_10_method_35_code 13 = .ok (.getfield 58, 3) := by decide +kernel
theorem d_M_ends_16 : decode prog_10_method_35_code 16 = .ok (.iload_n 1, 1) := by decide +kernel
theorem d_M_ends_17 : decode prog_10_method_35_code 17 = .ok (.iaload, 1) := by decide +kernel
theorem d_M_ends_18 : decode prog_10_method_35_code 18 = .ok (.iconst 1, 1) := by decide +kernel
theorem d_M_ends_19 : decode prog_10_method_35_code 19 = .ok (.aload_n 0, 1) := by decide +kernel
theorem d_M_ends_20 : decode prog_10_method_35_code 20 = .ok (.iload_n 1, 1) := by decide +kernel
theorem d_M_ends_21 : decode prog_10_method_35_code 21 = .ok (.invokevirtual 142, 3) := by decide +kernel
theorem d_M_ends_24 : decode prog_10_method_35_code 24 = .ok (.invokevirtual 206, 3) := by decide +kernel
theorem d_M_ends_27 : decode prog_10_method_35_code 27 = .ok (.aload_n 0, 1) := by decide +kernel
theorem d_M_ends_28 : decode prog_10_method_35_code 28 = .ok (.iload_n 1, 1) := by decide +kernel
theorem d_M_ends_29 : decode prog_10_method_35_code 29 = .ok (.invokevirtual 111, 3) := by decide +kernel
theorem d_M_ends_32 : decode prog_10_method_35_code 32 = .ok (.ifCond .ne 4, 3) := by decide +kernel
theorem d_M_ends_35 : decode prog_10_method_35_code 35 = .ok (.return_, 1) := by decide +kernel
theorem d_M_ends_36 : decode prog_10_method_35_code 36 = .ok (.aload_n 0, 1) := by decide +kernel
theorem d_M_ends_37 : decode prog_10_method_35_code 37 = .ok (.iload_n 1, 1) := by decide +kernel
theorem d_M_ends_38 : decode prog_10_method_35_code 38 = .ok (.invokevirtual 210, 3) := by decide +kernel
theorem d_M_ends_41 : decode prog_10_method_35_code 41 = .ok (.return_, 1) := by decide +kernel
theorem d_M_ends_42 : decode prog_10_method_35_code 42 = .ok (.aload_n 0, 1) := by decide +kernel
theorem d_M_ends_43 : decode prog_10_method_35_code 43 = .ok (.iload_n 1, 1) := by decide +kernel
theorem d_M_ends_44 : decode prog_10_method_35_code 44 = .ok (.invokevirtual 135, 3) := by decide +kernel
theorem d_M_ends_47 : decode prog_10_method_35_code 47 = .ok (.ifCond .eq 27, 3) := by decide +kernel
theorem d_M_ends_50 : decode prog_10_method_35_code 50 = .ok (.aload_n 0, 1) := by decide +kernel
theorem d_M_ends_51 : decode prog_10_method_35_code 51 = .ok (.getfield 61, 3) := by decide +kernel
theorem d_M_ends_54 : decode prog_10_method_35_code 54 = .ok (.iload_n 1, 1) := by decide +kernel
theorem d_M_ends_55 : decode prog_10_method_35_code 55 = .ok (.aload_n 0, 1) := by decide +kernel
theorem d_M_ends_56 : decode prog_10_method_35_code 56 = .ok (.getfield 94, 3) := by decide +kernel
theorem d_M_ends_59 : decode prog_10_method_35_code 59 = .ok (.iconst 4, 1) := by decide +kernel
theorem d_M_ends_60 : decode prog_10_method_35_code 60 = .ok (.iload_n 1, 1) := by decide +kernel
theorem d_M_ends_61 : decode prog_10_method_35_code 61 = .ok (.imul, 1) := by decide +kernel
theorem d_M_ends_62 : decode prog_10_method_35_code 62 = .ok (.aload_n 0, 1) := by decide +kernel
theorem d_M_ends_63 : decode prog_10_method_35_code 63 = .ok (.getfield 58, 3) := by decide +kernel
theorem d_M_ends_66 : decode prog_10_method_35_code 66 = .ok (.iload_n 1, 1) := by decide +kernel
theorem d_M_ends_67 : decode prog_10_method_35_code 67 = .ok (.iaload, 1) := by decide +kernel
theorem d_M_ends_68 : decode prog_10_method_35_code 68 = .ok (.iadd, 1) := by decide +kernel
theorem d_M_ends_69 : decode prog_10_method_35_code 69 = .ok (.iaload, 1) := by decide +kernel
theorem d_M_ends_70 : decode prog_10_method_35_code 70 = .ok (.iastore, 1) := by decide +kernel
theorem d_M_ends_71 : decode prog_10_method_35_code 71 = .ok (.goto 93, 3) := by decide +kernel
theorem d_M_ends_74 : decode prog_10_method_35_code 74 = .ok (.iconst 0, 1) := by decide +kernel
theorem d_M_ends_75 : decode prog_10_method_35_code 75 = .ok (.istore_n 2, 1) := by decide +kernel
theorem d_M_ends_76 : decode prog_10_method_35_code 76 = .ok (.iload_n 2, 1) := by decide +kernel
theorem d_M_ends_77 : decode prog_10_method_35_code 77 = .ok (.bipush 16, 2) := by decide +kernel
theorem d_M_ends_79 : decode prog_10_method_35_code 79 = .ok (.if_icmp .ge 61, 3) := by decide +kernel
theorem d_M_ends_82 : decode prog_10_method_35_code 82 = .ok (.aload_n 0, 1) := by decide +kernel
theorem d_M_ends_83 : decode prog_10_method_35_code 83 = .ok (.iload_n 1, 1) := by decide +kernel
theorem d_M_ends_84 : decode prog_10_method_35_code 84 = .ok (.invokevirtual 111, 3) := by decide +kernel
theorem d_M_ends_87 : decode prog_10_method_35_code 87 = .ok (.ifCond .eq 53, 3) := by decide +kernel
theorem d_M_ends_90 : decode prog_10_method_35_code 90 = .ok (.bipush 16, 2) := by decide +kernel
theorem d_M_ends_92 : decode prog_10_method_35_code 92 = .ok (.iload_n 1, 1) := by decide +kernel
theorem d_M_ends_93 : decode prog_10_method_35_code 93 = .ok (.imul, 1) := by decide +kernel
theorem d_M_ends_94 : decode prog_10_method_35_code 94 = .ok (.iload_n 2, 1) := by decide +kernel
theorem d_M_ends_95 : decode prog_10_method_35_code 95 = .ok (.iadd, 1) := by decide +kernel
theorem d_M_ends_96 : decode prog_10_method_35_code 96 = .ok (.istore_n 3, 1) := by decide +kernel
theorem d_M_ends_97 : decode prog_10_method_35_code 97 = .ok (.aload_n 0, 1) := by decide +kernel
theorem d_M_ends_98 : decode prog_10_method_35_code 98 = .ok (.getfield 73, 3) := by decide +kernel
theorem d_M_ends_101 : decode prog_10_method_35_code 101 = .ok (.iload_n 1, 1) := by decide +kernel
theorem d_M_ends_102 : decode prog_10_method_35_code 102 = .ok (.iaload, 1) := by decide +kernel
theorem d_M_ends_103 : decode prog_10_method_35_code 103 = .ok (.iload_n 2, 1) := by decide +kernel
theorem d_M_ends_104 : decode prog_10_method_35_code 104 = .ok (.ishr, 1) := by decide +kernel
theorem d_M_ends_105 : decode prog_10_method_35_code 105 = .ok (.iconst 1, 1) := by decide +kernel
theorem d_M_ends_106 : decode prog_10_method_35_code 106 = .ok (.iand, 1) := by decide +kernel
theorem d_M_ends_107 : decode prog_10_method_35_code 107 = .ok (.iconst 1, 1) := by decide +kernel
theorem d_M_ends_108 : decode prog_10_method_35_code 108 = .ok (.if_icmp .ne 26, 3) := by decide +kernel
theorem d_M_ends_111 : decode prog_10_method_35_code 111 = .ok (.aload_n 0, 1) := by decide +kernel
theorem d_M_ends_112 : decode prog_10_method_35_code 112 = .ok (.getfield 34, 3) := by decide +kernel
theorem d_M_ends_115 : decode prog_10_method_35_code 115 = .ok (.iload_n 3, 1) := by decide +kernel
theorem d_M_ends_116 : decode prog_10_method_35_code 116 = .ok (.iaload, 1) := by decide +kernel
theorem d_M_ends_117 : decode prog_10_method_35_code 117 = .ok (.iconst 1, 1) := by decide +kernel
theorem d_M_ends_118 : decode prog_10_method_35_code 118 = .ok (.if_icmp .ne 16, 3) := by decide +kernel
theorem d_M_ends_121 : decode prog_10_method_35_code 121 = .ok (.aload_n 0, 1) := by decide +kernel
theorem d_M_ends_122 : decode prog_10_method_35_code 122 = .ok (.iload_n 1, 1) := by decide +kernel
theorem d_M_ends_123 : decode prog_10_method_35_code 123 = .ok (.iload_n 2, 1) := by decide +kernel
theorem d_M_ends_124 : decode prog_10_method_35_code 124 = .ok (.iconst 2, 1) := by decide +kernel
theorem d_M_ends_125 : decode prog_10_method_35_code 125 = .ok (.aload_n 0, 1) := by decide +kernel
theorem d_M_ends_126 : decode prog_10_method_35_code 126 = .ok (.getfield 37, 3) := by decide +kernel
theorem d_M_ends_129 : decode prog_10_method_35_code 129 = .ok (.iload_n 3, 1) := by decide +kernel
theorem d_M_ends_130 : decode prog_10_method_35_code 130 = .ok (.iaload, 1) := by decide +kernel
theorem d_M_ends_131 : decode prog_10_method_35_code 131 = .ok (.invokevirtual 206, 3) := by decide +kernel
theorem d_M_ends_134 : decode prog_10_method_35_code 134 = .ok (.iinc 2 1, 3) := by decide +kernel
theorem d_M_ends_137 : decode prog_10_method_35_code 137 = .ok (.goto (-61), 3) := by decide +kernel
theorem d_M_ends_140 : decode prog_10_method_35_code 140 = .ok (.aload_n 0, 1) := by decide +kernel
theorem d_M_ends_141 : decode prog_10_method_35_code 141 = .ok (.iload_n 1, 1) := by decide +kernel
theorem d_M_ends_142 : decode prog_10_method_35_code 142 = .ok (.invokevirtual 111, 3) := by decide +kernel
theorem d_M_ends_145 : decode prog_10_method_35_code 145 = .ok (.ifCond .ne 4, 3) := by decide +kernel
theorem d_M_ends_148 : decode prog_10_method_35_code 148 = .ok (.return_, 1) := by decide +kernel
theorem d_M_ends_149 : decode prog_10_method_35_code 149 = .ok (.aload_n 0, 1) := by decide +kernel
theorem d_M_ends_150 : decode prog_10_method_35_code 150 = .ok (.getfield 61, 3) := by decide +kernel
theorem d_M_ends_153 : decode prog_10_method_35_code 153 = .ok (.iload_n 1, 1) := by decide +kernel
theorem d_M_ends_154 : decode prog_10_method_35_code 154 = .ok (.aload_n 0, 1) := by decide +kernel
theorem d_M_ends_155 : decode prog_10_method_35_code 155 = .ok (.getfield 73, 3) := by decide +kernel
theorem d_M_ends_158 : decode prog_10_method_35_code 158 = .ok (.iload_n 1, 1) := by decide +kernel
theorem d_M_ends_159 : decode prog_10_method_35_code 159 = .ok (.iaload, 1) := by decide +kernel
theorem d_M_ends_160 : decode prog_10_method_35_code 160 = .ok (.invokestatic 213, 3) := by decide +kernel
theorem d_M_ends_163 : decode prog_10_method_35_code 163 = .ok (.iastore, 1) := by decide +kernel
theorem d_M_ends_164 : decode prog_10_method_35_code 164 = .ok (.aload_n 0, 1) := by decide +kernel
theorem d_M_ends_165 : decode prog_10_method_35_code 165 = .ok (.getfield 55, 3) := by decide +kernel
theorem d_M_ends_168 : decode prog_10_method_35_code 168 = .ok (.iload_n 1, 1) := by decide +kernel
theorem d_M_ends_169 : decode prog_10_method_35_code 169 = .ok (.iconst 0, 1) := by decide +kernel
theorem d_M_ends_170 : decode prog_10_method_35_code 170 = .ok (.iastore, 1) := by decide +kernel
theorem d_M_ends_171 : decode prog_10_method_35_code 171 = .ok (.return_, 1) := by decide +kernel
theorem d_M_many16_0 : decode prog_10_method_36_code 0 = .ok (.iconst 0, 1) := by decide +kernel
theorem d_M_many16_1 : decode prog_10_method_36_code 1 = .ok (.istore_n 1, 1) := by decide +kernel
theorem d_M_many16_2 : decode prog_10_method_36_code 2 = .ok (.iconst 0, 1) := by decide +kernel
theorem d_M_many16_3 : decode prog_10_method_36_code 3 = .ok (.istore_n 2, 1) := by decide +kernel
theorem d_M_many16_4 : decode prog_10_method_36_code 4 = .ok (.iload_n 2, 1) := by decide +kernel
theorem d_M_many16_5 : decode prog_10_method_36_code 5 = .ok (.bipush 16, 2) := by decide +kernel
theorem d_M_many16_7 : decode prog_10_method_36_code 7 = .ok (.if_icmp .ge 17, 3) := by decide +kernel
theorem d_M_many16_10 : decode prog_10_method_36_code 10 = .ok (.iload_n 1, 1) := by decide +kernel
theorem d_M_many16_11 : decode prog_10_method_36_code 11 = .ok (.iload_n 0, 1) := by decide +kernel
theorem d_M_many16_12 : decode prog_10_method_36_code 12 = .ok (.iload_n 2, 1) := by decide +kernel
theorem d_M_many16_13 : decode prog_10_method_36_code 13 = .ok (.ishr, 1) := by decide +kernel
theorem d_M_many16_14 : decode prog_10_method_36_code 14 = .ok (.iconst 1, 1) := by decide +kernel
theorem d_M_many16_15 : decode prog_10_method_36_code 15 = .ok (.iand, 1) := by decide +kernel
theorem d_M_many16_16 : decode prog_10_method_36_code 16 = .ok (.iadd, 1) := by decide +kernel
theorem d_M_many16_17 : decode prog_10_method_36_code 17 = .ok (.istore_n 1, 1) := by decide +kernel
theorem d_M_many16_18 : decode prog_10_method_36_code 18 = .ok (.iinc 2 1, 3) := by decide +kernel
theorem d_M_many16_21 : decode prog_10_method_36_code 21 = .ok (.goto (-17), 3) := by decide +kernel
theorem d_M_many16_24 : decode prog_10_method_36_code 24 = .ok (.iload_n 1, 1) := by decide +kernel
theorem d_M_many16_25 : decode prog_10_method_36_code 25 = .ok (.ireturn, 1) := by decide +kernel
theorem d_M_proposed_0 : decode prog_10_method_37_code 0 = .ok (.aload_n 0, 1) := by decide +kernel
theorem d_M_proposed_1 : decode prog_10_method_37_code 1 = .ok (.getfield 61, 3) := by decide +kernel
theorem d_M_proposed_4 : decode prog_10_method_37_code 4 = .ok (.iload_n 1, 1) := by decide +kernel
theorem d_M_proposed_5 : decode prog_10_method_37_code 5 = .ok (.aload_n 0, 1) := by decide +kernel
theorem d_M_proposed_6 : decode prog_10_method_37_code 6 = .ok (.getfield 37, 3) := by decide +kernel
theorem d_M_proposed_9 : decode prog_10_method_37_code 9 = .ok (.bipush 16, 2) := by decide +kernel
theorem d_M_proposed_11 : decode prog_10_method_37_code 11 = .ok (.iload_n 1, 1) := by decide +kernel
theorem d_M_proposed_12 : decode prog_10_method_37_code 12 = .ok (.imul, 1) := by decide +kernel
theorem d_M_proposed_13 : decode prog_10_method_37_code 13 = .ok (.aload_n 0, 1) := by decide +kernel
theorem d_M_proposed_14 : decode prog_10_method_37_code 14 = .ok (.getfield 58, 3) := by decide +kernel
theorem d_M_proposed_17 : decode prog_10_method_37_code 17 = .ok (.iload_n 1, 1) := by decide +kernel
theorem d_M_proposed_18 : decode prog_10_method_37_code 18 = .ok (.iaload, 1) := by decide +kernel
theorem d_M_proposed_19 : decode prog_10_method_37_code 19 = .ok (.iadd, 1) := by decide +kernel
theorem d_M_proposed_20 : decode prog_10_method_37_code 20 = .ok (.iaload, 1) := by decide +kernel
theorem d_M_proposed_21 : decode prog_10_method_37_code 21 = .ok (.aload_n 0, 1) := by decide +kernel
theorem d_M_proposed_22 : decode prog_10_method_37_code 22 = .ok (.getfield 70, 3) := by decide +kernel
theorem d_M_proposed_25 : decode prog_10_method_37_code 25 = .ok (.iload_n 1, 1) := by decide +kernel
theorem d_M_proposed_26 : decode prog_10_method_37_code 26 = .ok (.iaload, 1) := by decide +kernel
theorem d_M_proposed_27 : decode prog_10_method_37_code 27 = .ok (.if_icmp .ne 7, 3) := by decide +kernel
theorem d_M_proposed_30 : decode prog_10_method_37_code 30 = .ok (.iconst 1, 1) := by decide +kernel
theorem d_M_proposed_31 : decode prog_10_method_37_code 31 = .ok (.goto 4, 3) := by decide +kernel
theorem d_M_proposed_34 : decode prog_10_method_37_code 34 = .ok (.iconst 0, 1) := by decide +kernel
theorem d_M_proposed_35 : decode prog_10_method_37_code 35 = .ok (.iastore, 1) := by decide +kernel
theorem d_M_proposed_36 : decode prog_10_method_37_code 36 = .ok (.aload_n 0, 1) := by decide +kernel
theorem d_M_proposed_37 : decode prog_10_method_37_code 37 = .ok (.getfield 55, 3) := by decide +kernel
theorem d_M_proposed_40 : decode prog_10_method_37_code 40 = .ok (.iload_n 1, 1) := by decide +kernel
theorem d_M_proposed_41 : decode prog_10_method_37_code 41 = .ok (.iconst 0, 1) := by decide +kernel
theorem d_M_proposed_42 : decode prog_10_method_37_code 42 = .ok (.iastore, 1) := by decide +kernel
theorem d_M_proposed_43 : decode prog_10_method_37_code 43 = .ok (.return_, 1) := by decide +kernel
theorem d_M_looks_0 : decode prog_10_method_38_code 0 = .ok (.aload_n 0, 1) := by decide +kernel
theorem d_M_looks_1 : decode prog_10_method_38_code 1 = .ok (.getfield 55, 3) := by decide +kernel
theorem d_M_looks_4 : decode prog_10_method_38_code 4 = .ok (.iload_n 1, 1) := by decide +kernel
theorem d_M_looks_5 : decode prog_10_method_38_code 5 = .ok (.iaload, 1) := by decide +kernel
theorem d_M_looks_6 : decode prog_10_method_38_code 6 = .ok (.ifCond .ne 4, 3) := by decide +kernel
theorem d_M_looks_9 : decode prog_10_method_38_code 9 = .ok (.return_, 1) := by decide +kernel
theorem d_M_looks_10 : decode prog_10_method_38_code 10 = .ok (.aload_n 0, 1) := by decide +kernel
theorem d_M_looks_11 : decode prog_10_method_38_code 11 = .ok (.iload_n 1, 1) := by decide +kernel
theorem d_M_looks_12 : decode prog_10_method_38_code 12 = .ok (.invokevirtual 135, 3) := by decide +kernel
theorem d_M_looks_15 : decode prog_10_method_38_code 15 = .ok (.ifCond .eq 39, 3) := by decide +kernel
theorem d_M_looks_18 : decode prog_10_method_38_code 18 = .ok (.aload_n 0, 1) := by decide +kernel
theorem d_M_looks_19 : decode prog_10_method_38_code 19 = .ok (.getfield 55, 3) := by decide +kernel
theorem d_M_looks_22 : decode prog_10_method_38_code 22 = .ok (.iload_n 1, 1) := by decide +kernel
theorem d_M_looks_23 : decode prog_10_method_38_code 23 = .ok (.iaload, 1) := by decide +kernel
theorem d_M_looks_24 : decode prog_10_method_38_code 24 = .ok (.iconst 1, 1) := by decide +kernel
theorem d_M_looks_25 : decode prog_10_method_38_code 25 = .ok (.if_icmp .ne 16, 3) := by decide +kernel
theorem d_M_looks_28 : decode prog_10_method_38_code 28 = .ok (.iload_n 2, 1) := by decide +kernel
theorem d_M_looks_29 : decode prog_10_method_38_code 29 = .ok (.ifCond .eq 12, 3) := by decide +kernel
theorem d_M_looks_32 : decode prog_10_method_38_code 32 = .ok (.aload_n 0, 1) := by decide +kernel
theorem d_M_looks_33 : decode prog_10_method_38_code 33 = .ok (.iload_n 1, 1) := by decide +kernel
theorem d_M_looks_34 : decode prog_10_method_38_code 34 = .ok (.iconst 1, 1) := by decide +kernel
theorem d_M_looks_35 : decode prog_10_method_38_code 35 = .ok (.invokevirtual 203, 3) := by decide +kernel
theorem d_M_looks_38 : decode prog_10_method_38_code 38 = .ok (.goto 50, 3) := by decide +kernel
theorem d_M_looks_41 : decode prog_10_method_38_code 41 = .ok (.aload_n 0, 1) := by decide +kernel
theorem d_M_looks_42 : decode prog_10_method_38_code 42 = .ok (.iload_n 1, 1) := by decide +kernel
theorem d_M_looks_43 : decode prog_10_method_38_code 43 = .ok (.aload_n 0, 1) := by decide +kernel
theorem d_M_looks_44 : decode prog_10_method_38_code 44 = .ok (.iload_n 1, 1) := by decide +kernel
theorem d_M_looks_45 : decode prog_10_method_38_code 45 = .ok (.invokevirtual 173, 3) := by decide +kernel
theorem d_M_looks_48 : decode prog_10_method_38_code 48 = .ok (.invokevirtual 182, 3) := by decide +kernel
theorem d_M_looks_51 : decode prog_10_method_38_code 51 = .ok (.goto 37, 3) := by decide +kernel
theorem d_M_looks_54 : decode prog_10_method_38_code 54 = .ok (.aload_n 0, 1) := by decide +kernel
theorem d_M_looks_55 : decode prog_10_method_38_code 55 = .ok (.getfield 52, 3) := by decide +kernel
theorem d_M_looks_58 : decode prog_10_method_38_code 58 = .ok (.iload_n 1, 1) := by decide +kernel
theorem d_M_looks_59 : decode prog_10_method_38_code 59 = .ok (.iaload, 1) := by decide +kernel
theorem d_M_looks_60 : decode prog_10_method_38_code 60 = .ok (.iconst 3, 1) := by decide +kernel
theorem d_M_looks_61 : decode prog_10_method_38_code 61 = .ok (.if_icmp .ne 27, 3) := by decide +kernel
theorem d_M_looks_64 : decode prog_10_method_38_code 64 = .ok (.aload_n 0, 1) := by decide +kernel
theorem d_M_looks_65 : decode prog_10_method_38_code 65 = .ok (.getfield 34, 3) := by decide +kernel
theorem d_M_looks_68 : decode prog_10_method_38_code 68 = .ok (.bipush 16, 2) := by decide +kernel
theorem d_M_looks_70 : decode prog_10_method_38_code 70 = .ok (.iload_n 1, 1) := by decide +kernel
theorem d_M_looks_71 : decode prog_10_method_38_code 71 = .ok (.imul, 1) := by decide +kernel
theorem d_M_looks_72 : decode prog_10_method_38_code 72 = .ok (.aload_n 0, 1) := by decide +kernel
theorem d_M_looks_73 : decode prog_10_method_38_code 73 = .ok (.getfield 58, 3) := by decide +kernel
theorem d_M_looks_76 : decode prog_10_method_38_code 76 = .ok (.iload_n 1, 1) := by decide +kernel
theorem d_M_looks_77 : decode prog_10_method_38_code 77 = .ok (.iaload, 1) := by decide +kernel
theorem d_M_looks_78 : decode prog_10_method_38_code 78 = .ok (.iadd, 1) := by decide +kernel
theorem d_M_looks_79 : decode prog_10_method_38_code 79 = .ok (.iaload, 1) := by decide +kernel
theorem d_M_looks_80 : decode prog_10_method_38_code 80 = .ok (.ifCond .eq 8, 3) := by decide +kernel
theorem d_M_looks_83 : decode prog_10_method_38_code 83 = .ok (.aload_n 0, 1) := by decide +kernel
theorem d_M_looks_84 : decode prog_10_method_38_code 84 = .ok (.iload_n 1, 1) := by decide +kernel
theorem d_M_looks_85 : decode prog_10_method_38_code 85 = .ok (.invokevirtual 210, 3) := by decide +kernel
theorem d_M_looks_88 : decode prog_10_method_38_code 88 = .ok (.aload_n 0, 1) := by decide +kernel
theorem d_M_looks_89 : decode prog_10_method_38_code 89 = .ok (.iload_n 1, 1) := by decide +kernel
theorem d_M_looks_90 : decode prog_10_method_38_code 90 = .ok (.invokevirtual 216, 3) := by decide +kernel
theorem d_M_looks_93 : decode prog_10_method_38_code 93 = .ok (.return_, 1) := by decide +kernel
theorem d_M_counts_0 : decode prog_10_method_39_code 0 = .ok (.aload_n 0, 1) := by decide +kernel
theorem d_M_counts_1 : decode prog_10_method_39_code 1 = .ok (.getfield 55, 3) := by decide +kernel
theorem d_M_counts_4 : decode prog_10_method_39_code 4 = .ok (.iload_n 1, 1) := by decide +kernel
theorem d_M_counts_5 : decode prog_10_method_39_code 5 = .ok (.iaload, 1) := by decide +kernel
theorem d_M_counts_6 : decode prog_10_method_39_code 6 = .ok (.ifCond .le 55, 3) := by decide +kernel
theorem d_M_counts_9 : decode prog_10_method_39_code 9 = .ok (.aload_n 0, 1) := by decide +kernel
theorem d_M_counts_10 : decode prog_10_method_39_code 10 = .ok (.getfield 100, 3) := by decide +kernel
theorem d_M_counts_13 : decode prog_10_method_39_code 13 = .ok (.iconst 3, 1) := by decide +kernel
theorem d_M_counts_14 : decode prog_10_method_39_code 14 = .ok (.iaload, 1) := by decide +kernel
theorem d_M_counts_15 : decode prog_10_method_39_code 15 = .ok (.aload_n 0, 1) := by decide +kernel
theorem d_M_counts_16 : decode prog_10_method_39_code 16 = .ok (.getfield 13, 3) := by decide +kernel
theorem d_M_counts_19 : decode prog_10_method_39_code 19 = .ok (.iload_n 1, 1) := by decide +kernel
theorem d_M_counts_20 : decode prog_10_method_39_code 20 = .ok (.iaload, 1) := by decide +kernel
theorem d_M_counts_21 : decode prog_10_method_39_code 21 = .ok (.if_icmp .ne 40, 3) := by decide +kernel
theorem d_M_counts_24 : decode prog_10_method_39_code 24 = .ok (.aload_n 0, 1) := by decide +kernel
theorem d_M_counts_25 : decode prog_10_method_39_code 25 = .ok (.getfield 100, 3) := by decide +kernel
theorem d_M_counts_28 : decode prog_10_method_39_code 28 = .ok (.iconst 4, 1) := by decide +kernel
theorem d_M_counts_29 : decode prog_10_method_39_code 29 = .ok (.iaload, 1) := by decide +kernel
theorem d_M_counts_30 : decode prog_10_method_39_code 30 = .ok (.aload_n 0, 1) := by decide +kernel
theorem d_M_counts_31 : decode prog_10_method_39_code 31 = .ok (.getfield 22, 3) := by decide +kernel
theorem d_M_counts_34 : decode prog_10_method_39_code 34 = .ok (.iload_n 1, 1) := by decide +kernel
theorem d_M_counts_35 : decode prog_10_method_39_code 35 = .ok (.iaload, 1) := by decide +kernel
theorem d_M_counts_36 : decode prog_10_method_39_code 36 = .ok (.if_icmp .ne 25, 3) := by decide +kernel
theorem d_M_counts_39 : decode prog_10_method_39_code 39 = .ok (.aload_n 0, 1) := by decide +kernel
theorem d_M_counts_40 : decode prog_10_method_39_code 40 = .ok (.getfield 67, 3) := by decide +kernel
theorem d_M_counts_43 : decode prog_10_method_39_code 43 = .ok (.iload_n 1, 1) := by decide +kernel
theorem d_M_counts_44 : decode prog_10_method_39_code 44 = .ok (.iaload, 1) := by decide +kernel
theorem d_M_counts_45 : decode prog_10_method_39_code 45 = .ok (.aload_n 0, 1) := by decide +kernel
theorem d_M_counts_46 : decode prog_10_method_39_code 46 = .ok (.getfield 100, 3) := by decide +kernel
theorem d_M_counts_49 : decode prog_10_method_39_code 49 = .ok (.iconst 1, 1) := by decide +kernel
theorem d_M_counts_50 : decode prog_10_method_39_code 50 = .ok (.iaload, 1) := by decide +kernel
theorem d_M_counts_51 : decode prog_10_method_39_code 51 = .ok (.ishr, 1) := by decide +kernel
theorem d_M_counts_52 : decode prog_10_method_39_code 52 = .ok (.iconst 1, 1) := by decide +kernel
theorem d_M_counts_53 : decode prog_10_method_39_code 53 = .ok (.iand, 1) := by decide +kernel
theorem d_M_counts_54 : decode prog_10_method_39_code 54 = .ok (.ifCond .ne 7, 3) := by decide +kernel
theorem d_M_counts_57 : decode prog_10_method_39_code 57 = .ok (.iconst 1, 1) := by decide +kernel
theorem d_M_counts_58 : decode prog_10_method_39_code 58 = .ok (.goto 4, 3) := by decide +kernel
theorem d_M_counts_61 : decode prog_10_method_39_code 61 = .ok (.iconst 0, 1) := by decide +kernel
theorem d_M_counts_62 : decode prog_10_method_39_code 62 = .ok (.ireturn, 1) := by decide +kernel
theorem d_M_answer_0 : decode prog_10_method_40_code 0 = .ok (.aload_n 0, 1) := by decide +kernel
theorem d_M_answer_1 : decode prog_10_method_40_code 1 = .ok (.iload_n 1, 1) := by decide +kernel
theorem d_M_answer_2 : decode prog_10_method_40_code 2 = .ok (.iload_n 2, 1) := by decide +kernel
theorem d_M_answer_3 : decode prog_10_method_40_code 3 = .ok (.aload_n 0, 1) := by decide +kernel
theorem d_M_answer_4 : decode prog_10_method_40_code 4 = .ok (.getfield 100, 3) := by decide +kernel
theorem d_M_answer_7 : decode prog_10_method_40_code 7 = .ok (.iconst 1, 1) := by decide +kernel
theorem d_M_answer_8 : decode prog_10_method_40_code 8 = .ok (.iaload, 1) := by decide +kernel
theorem d_M_answer_9 : decode prog_10_method_40_code 9 = .ok (.aload_n 0, 1) := by decide +kernel
theorem d_M_answer_10 : decode prog_10_method_40_code 10 = .ok (.getfield 100, 3) := by decide +kernel
theorem d_M_answer_13 : decode prog_10_method_40_code 13 = .ok (.iconst 3, 1) := by decide +kernel
theorem d_M_answer_14 : decode prog_10_method_40_code 14 = .ok (.iaload, 1) := by decide +kernel
theorem d_M_answer_15 : decode prog_10_method_40_code 15 = .ok (.aload_n 0, 1) := by decide +kernel
theorem d_M_answer_16 : decode prog_10_method_40_code 16 = .ok (.getfield 100, 3) := by decide +kernel
theorem d_M_answer_19 : decode prog_10_method_40_code 19 = .ok (.iconst 4, 1) := by decide +kernel
theorem d_M_answer_20 : decode prog_10_method_40_code 20 = .ok (.iaload, 1) := by decide +kernel
theorem d_M_answer_21 : decode prog_10_method_40_code 21 = .ok (.iload 7, 2) := by decide +kernel
theorem d_M_answer_23 : decode prog_10_method_40_code 23 = .ok (.iload_n 3, 1) := by decide +kernel
theorem d_M_answer_24 : decode prog_10_method_40_code 24 = .ok (.iload 4, 2) := by decide +kernel
theorem d_M_answer_26 : decode prog_10_method_40_code 26 = .ok (.iload 5, 2) := by decide +kernel
theorem d_M_answer_28 : decode prog_10_method_40_code 28 = .ok (.iload 6, 2) := by decide +kernel
theorem d_M_answer_30 : decode prog_10_method_40_code 30 = .ok (.iconst 0, 1) := by decide +kernel
theorem d_M_answer_31 : decode prog_10_method_40_code 31 = .ok (.invokevirtual 138, 3) := by decide +kernel
theorem d_M_answer_34 : decode prog_10_method_40_code 34 = .ok (.return_, 1) := by decide +kernel
theorem d_M_hasAnswered_0 : decode prog_10_method_41_code 0 = .ok (.aload_n 0, 1) := by decide +kernel
theorem d_M_hasAnswered_1 : decode prog_10_method_41_code 1 = .ok (.getfield 67, 3) := by decide +kernel
theorem d_M_hasAnswered_4 : decode prog_10_method_41_code 4 = .ok (.iload_n 1, 1) := by decide +kernel
theorem d_M_hasAnswered_5 : decode prog_10_method_41_code 5 = .ok (.dup2, 1) := by decide +kernel
theorem d_M_hasAnswered_6 : decode prog_10_method_41_code 6 = .ok (.iaload, 1) := by decide +kernel
theorem d_M_hasAnswered_7 : decode prog_10_method_41_code 7 = .ok (.iconst 1, 1) := by decide +kernel
theorem d_M_hasAnswered_8 : decode prog_10_method_41_code 8 = .ok (.aload_n 0, 1) := by decide +kernel
theorem d_M_hasAnswered_9 : decode prog_10_method_41_code 9 = .ok (.getfield 100, 3) := by decide +kernel
theorem d_M_hasAnswered_12 : decode prog_10_method_41_code 12 = .ok (.iconst 1, 1) := by decide +kernel
theorem d_M_hasAnswered_13 : decode prog_10_method_41_code 13 = .ok (.iaload, 1) := by decide +kernel
theorem d_M_hasAnswered_14 : decode prog_10_method_41_code 14 = .ok (.ishl, 1) := by decide +kernel
theorem d_M_hasAnswered_15 : decode prog_10_method_41_code 15 = .ok (.ior, 1) := by decide +kernel
theorem d_M_hasAnswered_16 : decode prog_10_method_41_code 16 = .ok (.iastore, 1) := by decide +kernel
theorem d_M_hasAnswered_17 : decode prog_10_method_41_code 17 = .ok (.aload_n 0, 1) := by decide +kernel
theorem d_M_hasAnswered_18 : decode prog_10_method_41_code 18 = .ok (.iload_n 1, 1) := by decide +kernel
theorem d_M_hasAnswered_19 : decode prog_10_method_41_code 19 = .ok (.invokevirtual 216, 3) := by decide +kernel
theorem d_M_hasAnswered_22 : decode prog_10_method_41_code 22 = .ok (.return_, 1) := by decide +kernel
theorem d_M_storeAll_0 : decode prog_10_method_42_code 0 = .ok (.iconst 0, 1) := by decide +kernel
theorem d_M_storeAll_1 : decode prog_10_method_42_code 1 = .ok (.istore_n 2, 1) := by decide +kernel
theorem d_M_storeAll_2 : decode prog_10_method_42_code 2 = .ok (.iload_n 2, 1) := by decide +kernel
theorem d_M_storeAll_3 : decode prog_10_method_42_code 3 = .ok (.iconst 4, 1) := by decide +kernel
theorem d_M_storeAll_4 : decode prog_10_method_42_code 4 = .ok (.if_icmp .ge 52, 3) := by decide +kernel
theorem d_M_storeAll_7 : decode prog_10_method_42_code 7 = .ok (.aload_n 0, 1) := by decide +kernel
theorem d_M_storeAll_8 : decode prog_10_method_42_code 8 = .ok (.iload_n 1, 1) := by decide +kernel
theorem d_M_storeAll_9 : decode prog_10_method_42_code 9 = .ok (.iload_n 2, 1) := by decide +kernel
theorem d_M_storeAll_10 : decode prog_10_method_42_code 10 = .ok (.aload_n 0, 1) := by decide +kernel
theorem d_M_storeAll_11 : decode prog_10_method_42_code 11 = .ok (.getfield 100, 3) := by decide +kernel
theorem d_M_storeAll_14 : decode prog_10_method_42_code 14 = .ok (.bipush 41, 2) := by decide +kernel
theorem d_M_storeAll_16 : decode prog_10_method_42_code 16 = .ok (.iconst 3, 1) := by decide +kernel
theorem d_M_storeAll_17 : decode prog_10_method_42_code 17 = .ok (.iload_n 2, 1) := by decide +kernel
theorem d_M_storeAll_18 : decode prog_10_method_42_code 18 = .ok (.imul, 1) := by decide +kernel
theorem d_M_storeAll_19 : decode prog_10_method_42_code 19 = .ok (.iadd, 1) := by decide +kernel
theorem d_M_storeAll_20 : decode prog_10_method_42_code 20 = .ok (.iaload, 1) := by decide +kernel
theorem d_M_storeAll_21 : decode prog_10_method_42_code 21 = .ok (.aload_n 0, 1) := by decide +kernel
theorem d_M_storeAll_22 : decode prog_10_method_42_code 22 = .ok (.getfield 100, 3) := by decide +kernel
theorem d_M_storeAll_25 : decode prog_10_method_42_code 25 = .ok (.bipush 41, 2) := by decide +kernel
theorem d_M_storeAll_27 : decode prog_10_method_42_code 27 = .ok (.iconst 3, 1) := by decide +kernel
theorem d_M_storeAll_28 : decode prog_10_method_42_code 28 = .ok (.iload_n 2, 1) := by decide +kernel
theorem d_M_storeAll_29 : decode prog_10_method_42_code 29 = .ok (.imul, 1) := by decide +kernel
theorem d_M_storeAll_30 : decode prog_10_method_42_code 30 = .ok (.iadd, 1) := by decide +kernel
theorem d_M_storeAll_31 : decode prog_10_method_42_code 31 = .ok (.iconst 1, 1) := by decide +kernel
theorem d_M_storeAll_32 : decode prog_10_method_42_code 32 = .ok (.iadd, 1) := by decide +kernel
theorem d_M_storeAll_33 : decode prog_10_method_42_code 33 = .ok (.iaload, 1) := by decide +kernel
theorem d_M_storeAll_34 : decode prog_10_method_42_code 34 = .ok (.aload_n 0, 1) := by decide +kernel
theorem d_M_storeAll_35 : decode prog_10_method_42_code 35 = .ok (.getfield 100, 3) := by decide +kernel
theorem d_M_storeAll_38 : decode prog_10_method_42_code 38 = .ok (.bipush 41, 2) := by decide +kernel
theorem d_M_storeAll_40 : decode prog_10_method_42_code 40 = .ok (.iconst 3, 1) := by decide +kernel
theorem d_M_storeAll_41 : decode prog_10_method_42_code 41 = .ok (.iload_n 2, 1) := by decide +kernel
theorem d_M_storeAll_42 : decode prog_10_method_42_code 42 = .ok (.imul, 1) := by decide +kernel
theorem d_M_storeAll_43 : decode prog_10_method_42_code 43 = .ok (.iadd, 1) := by decide +kernel
theorem d_M_storeAll_44 : decode prog_10_method_42_code 44 = .ok (.iconst 2, 1) := by decide +kernel
theorem d_M_storeAll_45 : decode prog_10_method_42_code 45 = .ok (.iadd, 1) := by decide +kernel
theorem d_M_storeAll_46 : decode prog_10_method_42_code 46 = .ok (.iaload, 1) := by decide +kernel
theorem d_M_storeAll_47 : decode prog_10_method_42_code 47 = .ok (.invokevirtual 150, 3) := by decide +kernel
theorem d_M_storeAll_50 : decode prog_10_method_42_code 50 = .ok (.iinc 2 1, 3) := by decide +kernel
theorem d_M_storeAll_53 : decode prog_10_method_42_code 53 = .ok (.goto (-51), 3) := by decide +kernel
theorem d_M_storeAll_56 : decode prog_10_method_42_code 56 = .ok (.return_, 1) := by decide +kernel
theorem d_M_merges_0 : decode prog_10_method_43_code 0 = .ok (.iconst 0, 1) := by decide +kernel
theorem d_M_merges_1 : decode prog_10_method_43_code 1 = .ok (.istore_n 2, 1) := by decide +kernel
theorem d_M_merges_2 : decode prog_10_method_43_code 2 = .ok (.iconst 0, 1) := by decide +kernel
theorem d_M_merges_3 : decode prog_10_method_43_code 3 = .ok (.istore_n 3, 1) := by decide +kernel
theorem d_M_merges_4 : decode prog_10_method_43_code 4 = .ok (.iconst 0, 1) := by decide +kernel
theorem d_M_merges_5 : decode prog_10_method_43_code 5 = .ok (.istore 4, 2) := by decide +kernel
theorem d_M_merges_7 : decode prog_10_method_43_code 7 = .ok (.iload 4, 2) := by decide +kernel
theorem d_M_merges_9 : decode prog_10_method_43_code 9 = .ok (.bipush 16, 2) := by decide +kernel
theorem d_M_merges_11 : decode prog_10_method_43_code 11 = .ok (.if_icmp .ge 88, 3) := by decide +kernel
theorem d_M_merges_14 : decode prog_10_method_43_code 14 = .ok (.bipush 16, 2) := by decide +kernel
theorem d_M_merges_16 : decode prog_10_method_43_code 16 = .ok (.iload_n 1, 1) := by decide +kernel
theorem d_M_merges_17 : decode prog_10_method_43_code 17 = .ok (.imul, 1) := by decide +kernel
theorem d_M_merges_18 : decode prog_10_method_43_code 18 = .ok (.iload 4, 2) := by decide +kernel
theorem d_M_merges_20 : decode prog_10_method_43_code 20 = .ok (.iadd, 1) := by decide +kernel
theorem d_M_merges_21 : decode prog_10_method_43_code 21 = .ok (.istore 5, 2) := by decide +kernel
theorem d_M_merges_23 : decode prog_10_method_43_code 23 = .ok (.aload_n 0, 1) := by decide +kernel
theorem d_M_merges_24 : decode prog_10_method_43_code 24 = .ok (.getfield 100, 3) := by decide +kernel
theorem d_M_merges_27 : decode prog_10_method_43_code 27 = .ok (.bipush 9, 2) := by decide +kernel
theorem d_M_merges_29 : decode prog_10_method_43_code 29 = .ok (.iconst 2, 1) := by decide +kernel
theorem d_M_merges_30 : decode prog_10_method_43_code 30 = .ok (.iload 4, 2) := by decide +kernel
theorem d_M_merges_32 : decode prog_10_method_43_code 32 = .ok (.imul, 1) := by decide +kernel
theorem d_M_merges_33 : decode prog_10_method_43_code 33 = .ok (.iadd, 1) := by decide +kernel
theorem d_M_merges_34 : decode prog_10_method_43_code 34 = .ok (.iaload, 1) := by decide +kernel
theorem d_M_merges_35 : decode prog_10_method_43_code 35 = .ok (.aload_n 0, 1) := by decide +kernel
theorem d_M_merges_36 : decode prog_10_method_43_code 36 = .ok (.getfield 34, 3) := by decide +kernel
theorem d_M_merges_39 : decode prog_10_method_43_code 39 = .ok (.iload 5, 2) := by decide +kernel
theorem d_M_merges_41 : decode prog_10_method_43_code 41 = .ok (.iaload, 1) := by decide +kernel
theorem d_M_merges_42 : decode prog_10_method_43_code 42 = .ok (.if_icmp .le 7, 3) := by decide +kernel
theorem d_M_merges_45 : decode prog_10_method_43_code 45 = .ok (.iconst 1, 1) := by decide +kernel
theorem d_M_merges_46 : decode prog_10_method_43_code 46 = .ok (.goto 4, 3) := by decide +kernel
theorem d_M_merges_49 : decode prog_10_method_43_code 49 = .ok (.iconst 0, 1) := by decide +kernel
theorem d_M_merges_50 : decode prog_10_method_43_code 50 = .ok (.istore 6, 2) := by decide +kernel
theorem d_M_merges_52 : decode prog_10_method_43_code 52 = .ok (.iload_n 2, 1) := by decide +kernel
theorem d_M_merges_53 : decode prog_10_method_43_code 53 = .ok (.ifCond .ne 8, 3) := by decide +kernel
theorem d_M_merges_56 : decode prog_10_method_43_code 56 = .ok (.iload 6, 2) := by decide +kernel
theorem d_M_merges_58 : decode prog_10_method_43_code 58 = .ok (.ifCond .eq 7, 3) := by decide +kernel
theorem d_M_merges_61 : decode prog_10_method_43_code 61 = .ok (.iconst 1, 1) := by decide +kernel
theorem d_M_merges_62 : decode prog_10_method_43_code 62 = .ok (.goto 4, 3) := by decide +kernel
theorem d_M_merges_65 : decode prog_10_method_43_code 65 = .ok (.iconst 0, 1) := by decide +kernel
theorem d_M_merges_66 : decode prog_10_method_43_code 66 = .ok (.istore_n 2, 1) := by decide +kernel
theorem d_M_merges_67 : decode prog_10_method_43_code 67 = .ok (.iload_n 3, 1) := by decide +kernel
theorem d_M_merges_68 : decode prog_10_method_43_code 68 = .ok (.ifCond .ne 19, 3) := by decide +kernel
theorem d_M_merges_71 : decode prog_10_method_43_code 71 = .ok (.iload 6, 2) := by decide +kernel
theorem d_M_merges_73 : decode prog_10_method_43_code 73 = .ok (.ifCond .eq 18, 3) := by decide +kernel
theorem d_M_merges_76 : decode prog_10_method_43_code 76 = .ok (.aload_n 0, 1) := by decide +kernel
theorem d_M_merges_77 : decode prog_10_method_43_code 77 = .ok (.getfield 34, 3) := by decide +kernel
theorem d_M_merges_80 : decode prog_10_method_43_code 80 = .ok (.iload 5, 2) := by decide +kernel
theorem d_M_merges_82 : decode prog_10_method_43_code 82 = .ok (.iaload, 1) := by decide +kernel
theorem d_M_merges_83 : decode prog_10_method_43_code 83 = .ok (.iconst 1, 1) := by decide +kernel
theorem d_M_merges_84 : decode prog_10_method_43_code 84 = .ok (.if_icmp .ne 7, 3) := by decide +kernel
theorem d_M_merges_87 : decode prog_10_method_43_code 87 = .ok (.iconst 1, 1) := by decide +kernel
theorem d_M_merges_88 : decode prog_10_method_43_code 88 = .ok (.goto 4, 3) := by decide +kernel
theorem d_M_merges_91 : decode prog_10_method_43_code 91 = .ok (.iconst 0, 1) := by decide +kernel
theorem d_M_merges_92 : decode prog_10_method_43_code 92 = .ok (.istore_n 3, 1) := by decide +kernel
theorem d_M_merges_93 : decode prog_10_method_43_code 93 = .ok (.iinc 4 1, 3) := by decide +kernel
theorem d_M_merges_96 : decode prog_10_method_43_code 96 = .ok (.goto (-89), 3) := by decide +kernel
theorem d_M_merges_99 : decode prog_10_method_43_code 99 = .ok (.iload_n 2, 1) := by decide +kernel
theorem d_M_merges_100 : decode prog_10_method_43_code 100 = .ok (.ifCond .eq 11, 3) := by decide +kernel
theorem d_M_merges_103 : decode prog_10_method_43_code 103 = .ok (.aload_n 0, 1) := by decide +kernel
theorem d_M_merges_104 : decode prog_10_method_43_code 104 = .ok (.iload_n 1, 1) := by decide +kernel
theorem d_M_merges_105 : decode prog_10_method_43_code 105 = .ok (.invokevirtual 122, 3) := by decide +kernel
theorem d_M_merges_108 : decode prog_10_method_43_code 108 = .ok (.ifCond .ne 4, 3) := by decide +kernel
theorem d_M_merges_111 : decode prog_10_method_43_code 111 = .ok (.return_, 1) := by decide +kernel
theorem d_M_merges_112 : decode prog_10_method_43_code 112 = .ok (.iconst 0, 1) := by decide +kernel
theorem d_M_merges_113 : decode prog_10_method_43_code 113 = .ok (.istore 4, 2) := by decide +kernel
theorem d_M_merges_115 : decode prog_10_method_43_code 115 = .ok (.iload 4, 2) := by decide +kernel
theorem d_M_merges_117 : decode prog_10_method_43_code 117 = .ok (.bipush 16, 2) := by decide +kernel
theorem d_M_merges_119 : decode prog_10_method_43_code 119 = .ok (.if_icmp .ge 83, 3) := by decide +kernel
theorem d_M_merges_122 : decode prog_10_method_43_code 122 = .ok (.bipush 16, 2) := by decide +kernel
theorem d_M_merges_124 : decode prog_10_method_43_code 124 = .ok (.iload_n 1, 1) := by decide +kernel
theorem d_M_merges_125 : decode prog_10_method_43_code 125 = .ok (.imul, 1) := by decide +kernel
theorem d_M_merges_126 : decode prog_10_method_43_code 126 = .ok (.iload 4, 2) := by decide +kernel
theorem d_M_merges_128 : decode prog_10_method_43_code 128 = .ok (.iadd, 1) := by decide +kernel
theorem d_M_merges_129 : decode prog_10_method_43_code 129 = .ok (.istore 5, 2) := by decide +kernel
theorem d_M_merges_131 : decode prog_10_method_43_code 131 = .ok (.aload_n 0, 1) := by decide +kernel
theorem d_M_merges_132 : decode prog_10_method_43_code 132 = .ok (.getfield 100, 3) := by decide +kernel
theorem d_M_merges_135 : decode prog_10_method_43_code 135 = .ok (.bipush 9, 2) := by decide +kernel
theorem d_M_merges_137 : decode prog_10_method_43_code 137 = .ok (.iconst 2, 1) := by decide +kernel
theorem d_M_merges_138 : decode prog_10_method_43_code 138 = .ok (.iload 4, 2) := by decide +kernel
theorem d_M_merges_140 : decode prog_10_method_43_code 140 = .ok (.imul, 1) := by decide +kernel
theorem d_M_merges_141 : decode prog_10_method_43_code 141 = .ok (.iadd, 1) := by decide +kernel
theorem d_M_merges_142 : decode prog_10_method_43_code 142 = .ok (.iaload, 1) := by decide +kernel
theorem d_M_merges_143 : decode prog_10_method_43_code 143 = .ok (.aload_n 0, 1) := by decide +kernel
theorem d_M_merges_144 : decode prog_10_method_43_code 144 = .ok (.getfield 34, 3) := by decide +kernel
theorem d_M_merges_147 : decode prog_10_method_43_code 147 = .ok (.iload 5, 2) := by decide +kernel
theorem d_M_merges_149 : decode prog_10_method_43_code 149 = .ok (.iaload, 1) := by decide +kernel
theorem d_M_merges_150 : decode prog_10_method_43_code 150 = .ok (.if_icmp .gt 6, 3) := by decide +kernel
theorem d_M_merges_153 : decode prog_10_method_43_code 153 = .ok (.goto 43, 3) := by decide +kernel
theorem d_M_merges_156 : decode prog_10_method_43_code 156 = .ok (.aload_n 0, 1) := by decide +kernel
theorem d_M_merges_157 : decode prog_10_method_43_code 157 = .ok (.getfield 34, 3) := by decide +kernel
theorem d_M_merges_160 : decode prog_10_method_43_code 160 = .ok (.iload 5, 2) := by decide +kernel
theorem d_M_merges_162 : decode prog_10_method_43_code 162 = .ok (.aload_n 0, 1) := by decide +kernel
theorem d_M_merges_163 : decode prog_10_method_43_code 163 = .ok (.getfield 100, 3) := by decide +kernel
theorem d_M_merges_166 : decode prog_10_method_43_code 166 = .ok (.bipush 9, 2) := by decide +kernel
theorem d_M_merges_168 : decode prog_10_method_43_code 168 = .ok (.iconst 2, 1) := by decide +kernel
theorem d_M_merges_169 : decode prog_10_method_43_code 169 = .ok (.iload 4, 2) := by decide +kernel
theorem d_M_merges_171 : decode prog_10_method_43_code 171 = .ok (.imul, 1) := by decide +kernel
theorem d_M_merges_172 : decode prog_10_method_43_code 172 = .ok (.iadd, 1) := by decide +kernel
theorem d_M_merges_173 : decode prog_10_method_43_code 173 = .ok (.iaload, 1) := by decide +kernel
theorem d_M_merges_174 : decode prog_10_method_43_code 174 = .ok (.iastore, 1) := by decide +kernel
theorem d_M_merges_175 : decode prog_10_method_43_code 175 = .ok (.aload_n 0, 1) := by decide +kernel
theorem d_M_merges_176 : decode prog_10_method_43_code 176 = .ok (.getfield 37, 3) := by decide +kernel
theorem d_M_merges_179 : decode prog_10_method_43_code 179 = .ok (.iload 5, 2) := by decide +kernel
theorem d_M_merges_181 : decode prog_10_method_43_code 181 = .ok (.aload_n 0, 1) := by decide +kernel
theorem d_M_merges_182 : decode prog_10_method_43_code 182 = .ok (.getfield 100, 3) := by decide +kernel
theorem d_M_merges_185 : decode prog_10_method_43_code 185 = .ok (.bipush 9, 2) := by decide +kernel
theorem d_M_merges_187 : decode prog_10_method_43_code 187 = .ok (.iconst 2, 1) := by decide +kernel
theorem d_M_merges_188 : decode prog_10_method_43_code 188 = .ok (.iload 4, 2) := by decide +kernel
theorem d_M_merges_190 : decode prog_10_method_43_code 190 = .ok (.imul, 1) := by decide +kernel
theorem d_M_merges_191 : decode prog_10_method_43_code 191 = .ok (.iadd, 1) := by decide +kernel
theorem d_M_merges_192 : decode prog_10_method_43_code 192 = .ok (.iconst 1, 1) := by decide +kernel
theorem d_M_merges_193 : decode prog_10_method_43_code 193 = .ok (.iadd, 1) := by decide +kernel
theorem d_M_merges_194 : decode prog_10_method_43_code 194 = .ok (.iaload, 1) := by decide +kernel
theorem d_M_merges_195 : decode prog_10_method_43_code 195 = .ok (.iastore, 1) := by decide +kernel
theorem d_M_merges_196 : decode prog_10_method_43_code 196 = .ok (.iinc 4 1, 3) := by decide +kernel
theorem d_M_merges_199 : decode prog_10_method_43_code 199 = .ok (.goto (-84), 3) := by decide +kernel
theorem d_M_merges_202 : decode prog_10_method_43_code 202 = .ok (.aload_n 0, 1) := by decide +kernel
theorem d_M_merges_203 : decode prog_10_method_43_code 203 = .ok (.iload_n 1, 1) := by decide +kernel
theorem d_M_merges_204 : decode prog_10_method_43_code 204 = .ok (.iload_n 3, 1) := by decide +kernel
theorem d_M_merges_205 : decode prog_10_method_43_code 205 = .ok (.invokevirtual 219, 3) := by decide +kernel
theorem d_M_merges_208 : decode prog_10_method_43_code 208 = .ok (.return_, 1) := by decide +kernel
theorem d_M_handles_0 : decode prog_10_method_44_code 0 = .ok (.bipush 16, 2) := by decide +kernel
theorem d_M_handles_2 : decode prog_10_method_44_code 2 = .ok (.iload_n 1, 1) := by decide +kernel
theorem d_M_handles_3 : decode prog_10_method_44_code 3 = .ok (.imul, 1) := by decide +kernel
theorem d_M_handles_4 : decode prog_10_method_44_code 4 = .ok (.aload_n 0, 1) := by decide +kernel
theorem d_M_handles_5 : decode prog_10_method_44_code 5 = .ok (.getfield 100, 3) := by decide +kernel
theorem d_M_handles_8 : decode prog_10_method_44_code 8 = .ok (.iconst 5, 1) := by decide +kernel
theorem d_M_handles_9 : decode prog_10_method_44_code 9 = .ok (.iaload, 1) := by decide +kernel
theorem d_M_handles_10 : decode prog_10_method_44_code 10 = .ok (.iadd, 1) := by decide +kernel
theorem d_M_handles_11 : decode prog_10_method_44_code 11 = .ok (.istore_n 2, 1) := by decide +kernel
theorem d_M_handles_12 : decode prog_10_method_44_code 12 = .ok (.iconst 4, 1) := by decide +kernel
theorem d_M_handles_13 : decode prog_10_method_44_code 13 = .ok (.iload_n 1, 1) := by decide +kernel
theorem d_M_handles_14 : decode prog_10_method_44_code 14 = .ok (.imul, 1) := by decide +kernel
theorem d_M_handles_15 : decode prog_10_method_44_code 15 = .ok (.aload_n 0, 1) := by decide +kernel
theorem d_M_handles_16 : decode prog_10_method_44_code 16 = .ok (.getfield 100, 3) := by decide +kernel
theorem d_M_handles_19 : decode prog_10_method_44_code 19 = .ok (.iconst 5, 1) := by decide +kernel
theorem d_M_handles_20 : decode prog_10_method_44_code 20 = .ok (.iaload, 1) := by decide +kernel
theorem d_M_handles_21 : decode prog_10_method_44_code 21 = .ok (.iconst 3, 1) := by decide +kernel
theorem d_M_handles_22 : decode prog_10_method_44_code 22 = .ok (.iand, 1) := by decide +kernel
theorem d_M_handles_23 : decode prog_10_method_44_code 23 = .ok (.iadd, 1) := by decide +kernel
theorem d_M_handles_24 : decode prog_10_method_44_code 24 = .ok (.istore_n 3, 1) := by decide +kernel
theorem d_M_handles_25 : decode prog_10_method_44_code 25 = .ok (.aload_n 0, 1) := by decide +kernel
theorem d_M_handles_26 : decode prog_10_method_44_code 26 = .ok (.getfield 100, 3) := by decide +kernel
theorem d_M_handles_29 : decode prog_10_method_44_code 29 = .ok (.iconst 0, 1) := by decide +kernel
theorem d_M_handles_30 : decode prog_10_method_44_code 30 = .ok (.iaload, 1) := by decide +kernel
theorem d_M_handles_31 : decode prog_10_method_44_code 31 = .ok (.tableswitch 244 1 15 #[73, 244, 107, 244, 161, 244, 161, 244, 244, 170, 244, 185, 244, 213, 221], 73) := by decide +kernel
theorem d_M_handles_104 : decode prog_10_method_44_code 104 = .ok (.aload_n 0, 1) := by decide +kernel
theorem d_M_handles_105 : decode prog_10_method_44_code 105 = .ok (.iconst 2, 1) := by decide +kernel
theorem d_M_handles_106 : decode prog_10_method_44_code 106 = .ok (.iload_n 1, 1) := by decide +kernel
theorem d_M_handles_107 : decode prog_10_method_44_code 107 = .ok (.aload_n 0, 1) := by decide +kernel
theorem d_M_handles_108 : decode prog_10_method_44_code 108 = .ok (.getfield 25, 3) := by decide +kernel
