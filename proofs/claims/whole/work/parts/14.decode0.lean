theorem zd_La_law_0 : decode code 0 = .ok (.new 8, 3) := by decide +kernel
theorem zd_La_law_3 : decode code 3 = .ok (.dup, 1) := by decide +kernel
theorem zd_La_law_4 : decode code 4 = .ok (.invokespecial 61, 3) := by decide +kernel
theorem zd_La_law_7 : decode code 7 = .ok (.astore_n 1, 1) := by decide +kernel
theorem zd_La_law_8 : decode code 8 = .ok (.new 62, 3) := by decide +kernel
theorem zd_La_law_11 : decode code 11 = .ok (.dup, 1) := by decide +kernel
theorem zd_La_law_12 : decode code 12 = .ok (.invokespecial 64, 3) := by decide +kernel
theorem zd_La_law_15 : decode code 15 = .ok (.astore_n 2, 1) := by decide +kernel
theorem zd_La_law_16 : decode code 16 = .ok (.iconst 1, 1) := by decide +kernel
theorem zd_La_law_17 : decode code 17 = .ok (.newarray .long, 2) := by decide +kernel
theorem zd_La_law_19 : decode code 19 = .ok (.astore_n 3, 1) := by decide +kernel
theorem zd_La_law_20 : decode code 20 = .ok (.iconst 0, 1) := by decide +kernel
theorem zd_La_law_21 : decode code 21 = .ok (.istore 4, 2) := by decide +kernel
theorem zd_La_law_23 : decode code 23 = .ok (.iload 4, 2) := by decide +kernel
theorem zd_La_law_25 : decode code 25 = .ok (.aload_n 0, 1) := by decide +kernel
theorem zd_La_law_26 : decode code 26 = .ok (.arraylength, 1) := by decide +kernel
theorem zd_La_law_27 : decode code 27 = .ok (.iconst 4, 1) := by decide +kernel
theorem zd_La_law_28 : decode code 28 = .ok (.isub, 1) := by decide +kernel
theorem zd_La_law_29 : decode code 29 = .ok (.if_icmp .gt 896, 3) := by decide +kernel
theorem zd_La_law_32 : decode code 32 = .ok (.aload_n 0, 1) := by decide +kernel
theorem zd_La_law_33 : decode code 33 = .ok (.iload 4, 2) := by decide +kernel
theorem zd_La_law_35 : decode code 35 = .ok (.iaload, 1) := by decide +kernel
theorem zd_La_law_36 : decode code 36 = .ok (.bipush 15, 2) := by decide +kernel
theorem zd_La_law_38 : decode code 38 = .ok (.iand, 1) := by decide +kernel
theorem zd_La_law_39 : decode code 39 = .ok (.tableswitch 880 0 13 #[69, 129, 197, 233, 297, 361, 425, 464, 532, 607, 663, 731, 787, 855], 69) := by decide +kernel
theorem zd_La_law_108 : decode code 108 = .ok (.aload_n 1, 1) := by decide +kernel
theorem zd_La_law_109 : decode code 109 = .ok (.aload_n 0, 1) := by decide +kernel
theorem zd_La_law_110 : decode code 110 = .ok (.iload 4, 2) := by decide +kernel
theorem zd_La_law_112 : decode code 112 = .ok (.iconst 1, 1) := by decide +kernel
theorem zd_La_law_113 : decode code 113 = .ok (.iadd, 1) := by decide +kernel
theorem zd_La_law_114 : decode code 114 = .ok (.iaload, 1) := by decide +kernel
theorem zd_La_law_115 : decode code 115 = .ok (.aload_n 0, 1) := by decide +kernel
theorem zd_La_law_116 : decode code 116 = .ok (.iload 4, 2) := by decide +kernel
theorem zd_La_law_118 : decode code 118 = .ok (.iconst 2, 1) := by decide +kernel
theorem zd_La_law_119 : decode code 119 = .ok (.iadd, 1) := by decide +kernel
theorem zd_La_law_120 : decode code 120 = .ok (.iaload, 1) := by decide +kernel
theorem zd_La_law_121 : decode code 121 = .ok (.aload_n 0, 1) := by decide +kernel
theorem zd_La_law_122 : decode code 122 = .ok (.iload 4, 2) := by decide +kernel
theorem zd_La_law_124 : decode code 124 = .ok (.iconst 3, 1) := by decide +kernel
theorem zd_La_law_125 : decode code 125 = .ok (.iadd, 1) := by decide +kernel
theorem zd_La_law_126 : decode code 126 = .ok (.iaload, 1) := by decide +kernel
theorem zd_La_law_127 : decode code 127 = .ok (.invokestatic 65, 3) := by decide +kernel
theorem zd_La_law_130 : decode code 130 = .ok (.istore 5, 2) := by decide +kernel
theorem zd_La_law_132 : decode code 132 = .ok (.aload_n 2, 1) := by decide +kernel
theorem zd_La_law_133 : decode code 133 = .ok (.aload_n 0, 1) := by decide +kernel
theorem zd_La_law_134 : decode code 134 = .ok (.iload 4, 2) := by decide +kernel
theorem zd_La_law_136 : decode code 136 = .ok (.iconst 1, 1) := by decide +kernel
theorem zd_La_law_137 : decode code 137 = .ok (.iadd, 1) := by decide +kernel
theorem zd_La_law_138 : decode code 138 = .ok (.iaload, 1) := by decide +kernel
theorem zd_La_law_139 : decode code 139 = .ok (.aload_n 0, 1) := by decide +kernel
theorem zd_La_law_140 : decode code 140 = .ok (.iload 4, 2) := by decide +kernel
theorem zd_La_law_142 : decode code 142 = .ok (.iconst 2, 1) := by decide +kernel
theorem zd_La_law_143 : decode code 143 = .ok (.iadd, 1) := by decide +kernel
theorem zd_La_law_144 : decode code 144 = .ok (.iaload, 1) := by decide +kernel
theorem zd_La_law_145 : decode code 145 = .ok (.aload_n 0, 1) := by decide +kernel
theorem zd_La_law_146 : decode code 146 = .ok (.iload 4, 2) := by decide +kernel
theorem zd_La_law_148 : decode code 148 = .ok (.iconst 3, 1) := by decide +kernel
theorem zd_La_law_149 : decode code 149 = .ok (.iadd, 1) := by decide +kernel
theorem zd_La_law_150 : decode code 150 = .ok (.iaload, 1) := by decide +kernel
theorem zd_La_law_151 : decode code 151 = .ok (.invokevirtual 70, 3) := by decide +kernel
theorem zd_La_law_154 : decode code 154 = .ok (.aload_n 2, 1) := by decide +kernel
theorem zd_La_law_155 : decode code 155 = .ok (.invokevirtual 71, 3) := by decide +kernel
theorem zd_La_law_158 : decode code 158 = .ok (.iload 5, 2) := by decide +kernel
theorem zd_La_law_160 : decode code 160 = .ok (.if_icmp .eq 5, 3) := by decide +kernel
theorem zd_La_law_163 : decode code 163 = .ok (.iconst 0, 1) := by decide +kernel
theorem zd_La_law_164 : decode code 164 = .ok (.ireturn, 1) := by decide +kernel
theorem zd_La_law_165 : decode code 165 = .ok (.goto 754, 3) := by decide +kernel
theorem zd_La_law_168 : decode code 168 = .ok (.aload_n 1, 1) := by decide +kernel
theorem zd_La_law_169 : decode code 169 = .ok (.aload_n 0, 1) := by decide +kernel
theorem zd_La_law_170 : decode code 170 = .ok (.iload 4, 2) := by decide +kernel
theorem zd_La_law_172 : decode code 172 = .ok (.iconst 1, 1) := by decide +kernel
theorem zd_La_law_173 : decode code 173 = .ok (.iadd, 1) := by decide +kernel
theorem zd_La_law_174 : decode code 174 = .ok (.iaload, 1) := by decide +kernel
theorem zd_La_law_175 : decode code 175 = .ok (.aload_n 0, 1) := by decide +kernel
theorem zd_La_law_176 : decode code 176 = .ok (.iload 4, 2) := by decide +kernel
theorem zd_La_law_178 : decode code 178 = .ok (.iconst 2, 1) := by decide +kernel
theorem zd_La_law_179 : decode code 179 = .ok (.iadd, 1) := by decide +kernel
theorem zd_La_law_180 : decode code 180 = .ok (.iaload, 1) := by decide +kernel
theorem zd_La_law_181 : decode code 181 = .ok (.aload_n 3, 1) := by decide +kernel
theorem zd_La_law_182 : decode code 182 = .ok (.invokestatic 75, 3) := by decide +kernel
theorem zd_La_law_185 : decode code 185 = .ok (.istore 5, 2) := by decide +kernel
theorem zd_La_law_187 : decode code 187 = .ok (.aload_n 2, 1) := by decide +kernel
theorem zd_La_law_188 : decode code 188 = .ok (.aload_n 0, 1) := by decide +kernel
theorem zd_La_law_189 : decode code 189 = .ok (.iload 4, 2) := by decide +kernel
theorem zd_La_law_191 : decode code 191 = .ok (.iconst 1, 1) := by decide +kernel
theorem zd_La_law_192 : decode code 192 = .ok (.iadd, 1) := by decide +kernel
theorem zd_La_law_193 : decode code 193 = .ok (.iaload, 1) := by decide +kernel
theorem zd_La_law_194 : decode code 194 = .ok (.aload_n 0, 1) := by decide +kernel
theorem zd_La_law_195 : decode code 195 = .ok (.iload 4, 2) := by decide +kernel
theorem zd_La_law_197 : decode code 197 = .ok (.iconst 2, 1) := by decide +kernel
theorem zd_La_law_198 : decode code 198 = .ok (.iadd, 1) := by decide +kernel
theorem zd_La_law_199 : decode code 199 = .ok (.iaload, 1) := by decide +kernel
theorem zd_La_law_200 : decode code 200 = .ok (.invokevirtual 78, 3) := by decide +kernel
theorem zd_La_law_203 : decode code 203 = .ok (.istore 6, 2) := by decide +kernel
theorem zd_La_law_205 : decode code 205 = .ok (.aload_n 2, 1) := by decide +kernel
theorem zd_La_law_206 : decode code 206 = .ok (.invokevirtual 71, 3) := by decide +kernel
theorem zd_La_law_209 : decode code 209 = .ok (.iload 5, 2) := by decide +kernel
theorem zd_La_law_211 : decode code 211 = .ok (.if_icmp .eq 5, 3) := by decide +kernel
theorem zd_La_law_214 : decode code 214 = .ok (.iconst 0, 1) := by decide +kernel
theorem zd_La_law_215 : decode code 215 = .ok (.ireturn, 1) := by decide +kernel
theorem zd_La_law_216 : decode code 216 = .ok (.iload 5, 2) := by decide +kernel
theorem zd_La_law_218 : decode code 218 = .ok (.ifCond .ne 15, 3) := by decide +kernel
theorem zd_La_law_221 : decode code 221 = .ok (.aload_n 3, 1) := by decide +kernel
theorem zd_La_law_222 : decode code 222 = .ok (.iconst 0, 1) := by decide +kernel
theorem zd_La_law_223 : decode code 223 = .ok (.laload, 1) := by decide +kernel
theorem zd_La_law_224 : decode code 224 = .ok (.iload 6, 2) := by decide +kernel
theorem zd_La_law_226 : decode code 226 = .ok (.i2l, 1) := by decide +kernel
theorem zd_La_law_227 : decode code 227 = .ok (.lcmp, 1) := by decide +kernel
theorem zd_La_law_228 : decode code 228 = .ok (.ifCond .eq 5, 3) := by decide +kernel
theorem zd_La_law_231 : decode code 231 = .ok (.iconst 0, 1) := by decide +kernel
theorem zd_La_law_232 : decode code 232 = .ok (.ireturn, 1) := by decide +kernel
theorem zd_La_law_233 : decode code 233 = .ok (.goto 686, 3) := by decide +kernel
theorem zd_La_law_236 : decode code 236 = .ok (.aload_n 1, 1) := by decide +kernel
theorem zd_La_law_237 : decode code 237 = .ok (.aload_n 0, 1) := by decide +kernel
theorem zd_La_law_238 : decode code 238 = .ok (.iload 4, 2) := by decide +kernel
theorem zd_La_law_240 : decode code 240 = .ok (.iconst 1, 1) := by decide +kernel
theorem zd_La_law_241 : decode code 241 = .ok (.iadd, 1) := by decide +kernel
theorem zd_La_law_242 : decode code 242 = .ok (.iaload, 1) := by decide +kernel
theorem zd_La_law_243 : decode code 243 = .ok (.invokestatic 79, 3) := by decide +kernel
theorem zd_La_law_246 : decode code 246 = .ok (.istore 5, 2) := by decide +kernel
theorem zd_La_law_248 : decode code 248 = .ok (.aload_n 2, 1) := by decide +kernel
theorem zd_La_law_249 : decode code 249 = .ok (.aload_n 0, 1) := by decide +kernel
theorem zd_La_law_250 : decode code 250 = .ok (.iload 4, 2) := by decide +kernel
theorem zd_La_law_252 : decode code 252 = .ok (.iconst 1, 1) := by decide +kernel
theorem zd_La_law_253 : decode code 253 = .ok (.iadd, 1) := by decide +kernel
theorem zd_La_law_254 : decode code 254 = .ok (.iaload, 1) := by decide +kernel
theorem zd_La_law_255 : decode code 255 = .ok (.invokevirtual 82, 3) := by decide +kernel
theorem zd_La_law_258 : decode code 258 = .ok (.aload_n 2, 1) := by decide +kernel
theorem zd_La_law_259 : decode code 259 = .ok (.invokevirtual 71, 3) := by decide +kernel
theorem zd_La_law_262 : decode code 262 = .ok (.iload 5, 2) := by decide +kernel
theorem zd_La_law_264 : decode code 264 = .ok (.if_icmp .eq 5, 3) := by decide +kernel
theorem zd_La_law_267 : decode code 267 = .ok (.iconst 0, 1) := by decide +kernel
theorem zd_La_law_268 : decode code 268 = .ok (.ireturn, 1) := by decide +kernel
theorem zd_La_law_269 : decode code 269 = .ok (.goto 650, 3) := by decide +kernel
theorem zd_La_law_272 : decode code 272 = .ok (.aload_n 1, 1) := by decide +kernel
theorem zd_La_law_273 : decode code 273 = .ok (.aload_n 0, 1) := by decide +kernel
theorem zd_La_law_274 : decode code 274 = .ok (.iload 4, 2) := by decide +kernel
theorem zd_La_law_276 : decode code 276 = .ok (.iconst 1, 1) := by decide +kernel
theorem zd_La_law_277 : decode code 277 = .ok (.iadd, 1) := by decide +kernel
theorem zd_La_law_278 : decode code 278 = .ok (.iaload, 1) := by decide +kernel
