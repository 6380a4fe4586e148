theorem dL_why_201 : decode cL_why 201 = .ok (.iload 4, 2) := by decide +kernel
theorem dL_why_203 : decode cL_why 203 = .ok (.if_icmp .eq 45, 3) := by decide +kernel
theorem dL_why_206 : decode cL_why 206 = .ok (.aload_n 2, 1) := by decide +kernel
theorem dL_why_207 : decode cL_why 207 = .ok (.bipush 6, 2) := by decide +kernel
theorem dL_why_209 : decode cL_why 209 = .ok (.iload 8, 2) := by decide +kernel
theorem dL_why_211 : decode cL_why 211 = .ok (.imul, 1) := by decide +kernel
theorem dL_why_212 : decode cL_why 212 = .ok (.iconst 4, 1) := by decide +kernel
theorem dL_why_213 : decode cL_why 213 = .ok (.iadd, 1) := by decide +kernel
theorem dL_why_214 : decode cL_why 214 = .ok (.iaload, 1) := by decide +kernel
theorem dL_why_215 : decode cL_why 215 = .ok (.ifCond .ne 33, 3) := by decide +kernel
theorem dL_why_218 : decode cL_why 218 = .ok (.aload_n 3, 1) := by decide +kernel
theorem dL_why_219 : decode cL_why 219 = .ok (.iload 8, 2) := by decide +kernel
theorem dL_why_221 : decode cL_why 221 = .ok (.iaload, 1) := by decide +kernel
theorem dL_why_222 : decode cL_why 222 = .ok (.iload 5, 2) := by decide +kernel
theorem dL_why_224 : decode cL_why 224 = .ok (.iload 7, 2) := by decide +kernel
theorem dL_why_226 : decode cL_why 226 = .ok (.invokestatic 8, 3) := by decide +kernel
theorem dL_why_229 : decode cL_why 229 = .ok (.invokestatic 26, 3) := by decide +kernel
theorem dL_why_232 : decode cL_why 232 = .ok (.ifCond .eq 16, 3) := by decide +kernel
theorem dL_why_235 : decode cL_why 235 = .ok (.aload_n 2, 1) := by decide +kernel
theorem dL_why_236 : decode cL_why 236 = .ok (.iload 8, 2) := by decide +kernel
theorem dL_why_238 : decode cL_why 238 = .ok (.iload 4, 2) := by decide +kernel
theorem dL_why_240 : decode cL_why 240 = .ok (.invokestatic 30, 3) := by decide +kernel
theorem dL_why_243 : decode cL_why 243 = .ok (.ifCond .eq 5, 3) := by decide +kernel
theorem dL_why_246 : decode cL_why 246 = .ok (.iconst 5, 1) := by decide +kernel
theorem dL_why_247 : decode cL_why 247 = .ok (.ireturn, 1) := by decide +kernel
theorem dL_why_248 : decode cL_why 248 = .ok (.iinc 8 1, 3) := by decide +kernel
theorem dL_why_251 : decode cL_why 251 = .ok (.goto (-60), 3) := by decide +kernel
theorem dL_why_254 : decode cL_why 254 = .ok (.iinc 7 1, 3) := by decide +kernel
theorem dL_why_257 : decode cL_why 257 = .ok (.goto (-76), 3) := by decide +kernel
theorem dL_why_260 : decode cL_why 260 = .ok (.iconst 0, 1) := by decide +kernel
theorem dL_why_261 : decode cL_why 261 = .ok (.ireturn, 1) := by decide +kernel
theorem dL_minute_0 : decode cL_minute 0 = .ok (.iconst 0, 1) := by decide +kernel
theorem dL_minute_1 : decode cL_minute 1 = .ok (.istore 4, 2) := by decide +kernel
theorem dL_minute_3 : decode cL_minute 3 = .ok (.iload 4, 2) := by decide +kernel
theorem dL_minute_5 : decode cL_minute 5 = .ok (.aload_n 0, 1) := by decide +kernel
theorem dL_minute_6 : decode cL_minute 6 = .ok (.iconst 0, 1) := by decide +kernel
theorem dL_minute_7 : decode cL_minute 7 = .ok (.iaload, 1) := by decide +kernel
theorem dL_minute_8 : decode cL_minute 8 = .ok (.if_icmp .ge 174, 3) := by decide +kernel
theorem dL_minute_11 : decode cL_minute 11 = .ok (.aload_n 0, 1) := by decide +kernel
theorem dL_minute_12 : decode cL_minute 12 = .ok (.bipush 9, 2) := by decide +kernel
theorem dL_minute_14 : decode cL_minute 14 = .ok (.iaload, 1) := by decide +kernel
theorem dL_minute_15 : decode cL_minute 15 = .ok (.ineg, 1) := by decide +kernel
theorem dL_minute_16 : decode cL_minute 16 = .ok (.istore 5, 2) := by decide +kernel
theorem dL_minute_18 : decode cL_minute 18 = .ok (.iconst 0, 1) := by decide +kernel
theorem dL_minute_19 : decode cL_minute 19 = .ok (.istore 6, 2) := by decide +kernel
theorem dL_minute_21 : decode cL_minute 21 = .ok (.iload 6, 2) := by decide +kernel
theorem dL_minute_23 : decode cL_minute 23 = .ok (.aload_n 0, 1) := by decide +kernel
theorem dL_minute_24 : decode cL_minute 24 = .ok (.iconst 1, 1) := by decide +kernel
theorem dL_minute_25 : decode cL_minute 25 = .ok (.iaload, 1) := by decide +kernel
theorem dL_minute_26 : decode cL_minute 26 = .ok (.if_icmp .ge 87, 3) := by decide +kernel
theorem dL_minute_29 : decode cL_minute 29 = .ok (.aload_n 2, 1) := by decide +kernel
theorem dL_minute_30 : decode cL_minute 30 = .ok (.bipush 6, 2) := by decide +kernel
theorem dL_minute_32 : decode cL_minute 32 = .ok (.iload 6, 2) := by decide +kernel
theorem dL_minute_34 : decode cL_minute 34 = .ok (.imul, 1) := by decide +kernel
theorem dL_minute_35 : decode cL_minute 35 = .ok (.iconst 4, 1) := by decide +kernel
theorem dL_minute_36 : decode cL_minute 36 = .ok (.iadd, 1) := by decide +kernel
theorem dL_minute_37 : decode cL_minute 37 = .ok (.iaload, 1) := by decide +kernel
theorem dL_minute_38 : decode cL_minute 38 = .ok (.ifCond .ne 69, 3) := by decide +kernel
theorem dL_minute_41 : decode cL_minute 41 = .ok (.aload_n 2, 1) := by decide +kernel
theorem dL_minute_42 : decode cL_minute 42 = .ok (.bipush 6, 2) := by decide +kernel
theorem dL_minute_44 : decode cL_minute 44 = .ok (.iload 6, 2) := by decide +kernel
theorem dL_minute_46 : decode cL_minute 46 = .ok (.imul, 1) := by decide +kernel
theorem dL_minute_47 : decode cL_minute 47 = .ok (.iconst 2, 1) := by decide +kernel
theorem dL_minute_48 : decode cL_minute 48 = .ok (.iadd, 1) := by decide +kernel
theorem dL_minute_49 : decode cL_minute 49 = .ok (.iaload, 1) := by decide +kernel
theorem dL_minute_50 : decode cL_minute 50 = .ok (.aload_n 0, 1) := by decide +kernel
theorem dL_minute_51 : decode cL_minute 51 = .ok (.iconst 2, 1) := by decide +kernel
theorem dL_minute_52 : decode cL_minute 52 = .ok (.iaload, 1) := by decide +kernel
theorem dL_minute_53 : decode cL_minute 53 = .ok (.if_icmp .gt 54, 3) := by decide +kernel
theorem dL_minute_56 : decode cL_minute 56 = .ok (.aload_n 3, 1) := by decide +kernel
theorem dL_minute_57 : decode cL_minute 57 = .ok (.iload 6, 2) := by decide +kernel
theorem dL_minute_59 : decode cL_minute 59 = .ok (.iaload, 1) := by decide +kernel
theorem dL_minute_60 : decode cL_minute 60 = .ok (.iload 4, 2) := by decide +kernel
theorem dL_minute_62 : decode cL_minute 62 = .ok (.invokestatic 26, 3) := by decide +kernel
theorem dL_minute_65 : decode cL_minute 65 = .ok (.ifCond .eq 42, 3) := by decide +kernel
theorem dL_minute_68 : decode cL_minute 68 = .ok (.aload_n 0, 1) := by decide +kernel
theorem dL_minute_69 : decode cL_minute 69 = .ok (.bipush 7, 2) := by decide +kernel
theorem dL_minute_71 : decode cL_minute 71 = .ok (.iaload, 1) := by decide +kernel
theorem dL_minute_72 : decode cL_minute 72 = .ok (.aload_n 3, 1) := by decide +kernel
theorem dL_minute_73 : decode cL_minute 73 = .ok (.iload 6, 2) := by decide +kernel
theorem dL_minute_75 : decode cL_minute 75 = .ok (.iaload, 1) := by decide +kernel
theorem dL_minute_76 : decode cL_minute 76 = .ok (.invokestatic 14, 3) := by decide +kernel
theorem dL_minute_79 : decode cL_minute 79 = .ok (.iconst 1, 1) := by decide +kernel
theorem dL_minute_80 : decode cL_minute 80 = .ok (.if_icmp .le 10, 3) := by decide +kernel
theorem dL_minute_83 : decode cL_minute 83 = .ok (.aload_n 0, 1) := by decide +kernel
theorem dL_minute_84 : decode cL_minute 84 = .ok (.bipush 8, 2) := by decide +kernel
theorem dL_minute_86 : decode cL_minute 86 = .ok (.iaload, 1) := by decide +kernel
theorem dL_minute_87 : decode cL_minute 87 = .ok (.goto 4, 3) := by decide +kernel
theorem dL_minute_90 : decode cL_minute 90 = .ok (.iconst 0, 1) := by decide +kernel
theorem dL_minute_91 : decode cL_minute 91 = .ok (.iadd, 1) := by decide +kernel
theorem dL_minute_92 : decode cL_minute 92 = .ok (.istore 5, 2) := by decide +kernel
theorem dL_minute_94 : decode cL_minute 94 = .ok (.aload_n 1, 1) := by decide +kernel
theorem dL_minute_95 : decode cL_minute 95 = .ok (.bipush 6, 2) := by decide +kernel
theorem dL_minute_97 : decode cL_minute 97 = .ok (.iload 4, 2) := by decide +kernel
theorem dL_minute_99 : decode cL_minute 99 = .ok (.imul, 1) := by decide +kernel
theorem dL_minute_100 : decode cL_minute 100 = .ok (.iconst 5, 1) := by decide +kernel
theorem dL_minute_101 : decode cL_minute 101 = .ok (.iadd, 1) := by decide +kernel
theorem dL_minute_102 : decode cL_minute 102 = .ok (.dup2, 1) := by decide +kernel
theorem dL_minute_103 : decode cL_minute 103 = .ok (.iaload, 1) := by decide +kernel
theorem dL_minute_104 : decode cL_minute 104 = .ok (.iconst 1, 1) := by decide +kernel
theorem dL_minute_105 : decode cL_minute 105 = .ok (.iadd, 1) := by decide +kernel
theorem dL_minute_106 : decode cL_minute 106 = .ok (.iastore, 1) := by decide +kernel
theorem dL_minute_107 : decode cL_minute 107 = .ok (.iinc 6 1, 3) := by decide +kernel
theorem dL_minute_110 : decode cL_minute 110 = .ok (.goto (-89), 3) := by decide +kernel
theorem dL_minute_113 : decode cL_minute 113 = .ok (.aload_n 1, 1) := by decide +kernel
theorem dL_minute_114 : decode cL_minute 114 = .ok (.bipush 6, 2) := by decide +kernel
theorem dL_minute_116 : decode cL_minute 116 = .ok (.iload 4, 2) := by decide +kernel
theorem dL_minute_118 : decode cL_minute 118 = .ok (.imul, 1) := by decide +kernel
theorem dL_minute_119 : decode cL_minute 119 = .ok (.iconst 3, 1) := by decide +kernel
theorem dL_minute_120 : decode cL_minute 120 = .ok (.iadd, 1) := by decide +kernel
theorem dL_minute_121 : decode cL_minute 121 = .ok (.dup2, 1) := by decide +kernel
theorem dL_minute_122 : decode cL_minute 122 = .ok (.iaload, 1) := by decide +kernel
theorem dL_minute_123 : decode cL_minute 123 = .ok (.iload 5, 2) := by decide +kernel
theorem dL_minute_125 : decode cL_minute 125 = .ok (.iadd, 1) := by decide +kernel
theorem dL_minute_126 : decode cL_minute 126 = .ok (.iastore, 1) := by decide +kernel
theorem dL_minute_127 : decode cL_minute 127 = .ok (.aload_n 1, 1) := by decide +kernel
theorem dL_minute_128 : decode cL_minute 128 = .ok (.bipush 6, 2) := by decide +kernel
theorem dL_minute_130 : decode cL_minute 130 = .ok (.iload 4, 2) := by decide +kernel
theorem dL_minute_132 : decode cL_minute 132 = .ok (.imul, 1) := by decide +kernel
theorem dL_minute_133 : decode cL_minute 133 = .ok (.iconst 3, 1) := by decide +kernel
theorem dL_minute_134 : decode cL_minute 134 = .ok (.iadd, 1) := by decide +kernel
theorem dL_minute_135 : decode cL_minute 135 = .ok (.iaload, 1) := by decide +kernel
theorem dL_minute_136 : decode cL_minute 136 = .ok (.sipush 1000, 3) := by decide +kernel
theorem dL_minute_139 : decode cL_minute 139 = .ok (.if_icmp .le 15, 3) := by decide +kernel
theorem dL_minute_142 : decode cL_minute 142 = .ok (.aload_n 1, 1) := by decide +kernel
theorem dL_minute_143 : decode cL_minute 143 = .ok (.bipush 6, 2) := by decide +kernel
theorem dL_minute_145 : decode cL_minute 145 = .ok (.iload 4, 2) := by decide +kernel
theorem dL_minute_147 : decode cL_minute 147 = .ok (.imul, 1) := by decide +kernel
theorem dL_minute_148 : decode cL_minute 148 = .ok (.iconst 3, 1) := by decide +kernel
theorem dL_minute_149 : decode cL_minute 149 = .ok (.iadd, 1) := by decide +kernel
theorem dL_minute_150 : decode cL_minute 150 = .ok (.sipush 1000, 3) := by decide +kernel
theorem dL_minute_153 : decode cL_minute 153 = .ok (.iastore, 1) := by decide +kernel
theorem dL_minute_154 : decode cL_minute 154 = .ok (.aload_n 1, 1) := by decide +kernel
theorem dL_minute_155 : decode cL_minute 155 = .ok (.bipush 6, 2) := by decide +kernel
theorem dL_minute_157 : decode cL_minute 157 = .ok (.iload 4, 2) := by decide +kernel
theorem dL_minute_159 : decode cL_minute 159 = .ok (.imul, 1) := by decide +kernel
theorem dL_minute_160 : decode cL_minute 160 = .ok (.iconst 3, 1) := by decide +kernel
theorem dL_minute_161 : decode cL_minute 161 = .ok (.iadd, 1) := by decide +kernel
theorem dL_minute_162 : decode cL_minute 162 = .ok (.iaload, 1) := by decide +kernel
theorem dL_minute_163 : decode cL_minute 163 = .ok (.ifCond .ge 13, 3) := by decide +kernel
theorem dL_minute_166 : decode cL_minute 166 = .ok (.aload_n 1, 1) := by decide +kernel
theorem dL_minute_167 : decode cL_minute 167 = .ok (.bipush 6, 2) := by decide +kernel
theorem dL_minute_169 : decode cL_minute 169 = .ok (.iload 4, 2) := by decide +kernel
theorem dL_minute_171 : decode cL_minute 171 = .ok (.imul, 1) := by decide +kernel
theorem dL_minute_172 : decode cL_minute 172 = .ok (.iconst 3, 1) := by decide +kernel
theorem dL_minute_173 : decode cL_minute 173 = .ok (.iadd, 1) := by decide +kernel
theorem dL_minute_174 : decode cL_minute 174 = .ok (.iconst 0, 1) := by decide +kernel
theorem dL_minute_175 : decode cL_minute 175 = .ok (.iastore, 1) := by decide +kernel
theorem dL_minute_176 : decode cL_minute 176 = .ok (.iinc 4 1, 3) := by decide +kernel
theorem dL_minute_179 : decode cL_minute 179 = .ok (.goto (-176), 3) := by decide +kernel
theorem dL_minute_182 : decode cL_minute 182 = .ok (.aload_n 0, 1) := by decide +kernel
theorem dL_minute_183 : decode cL_minute 183 = .ok (.iconst 2, 1) := by decide +kernel
theorem dL_minute_184 : decode cL_minute 184 = .ok (.dup2, 1) := by decide +kernel
theorem dL_minute_185 : decode cL_minute 185 = .ok (.iaload, 1) := by decide +kernel
theorem dL_minute_186 : decode cL_minute 186 = .ok (.iconst 1, 1) := by decide +kernel
theorem dL_minute_187 : decode cL_minute 187 = .ok (.iadd, 1) := by decide +kernel
theorem dL_minute_188 : decode cL_minute 188 = .ok (.iastore, 1) := by decide +kernel
theorem dL_minute_189 : decode cL_minute 189 = .ok (.iconst 0, 1) := by decide +kernel
theorem dL_minute_190 : decode cL_minute 190 = .ok (.istore 4, 2) := by decide +kernel
theorem dL_minute_192 : decode cL_minute 192 = .ok (.iconst 0, 1) := by decide +kernel
theorem dL_minute_193 : decode cL_minute 193 = .ok (.istore 5, 2) := by decide +kernel
theorem dL_minute_195 : decode cL_minute 195 = .ok (.iload 5, 2) := by decide +kernel
theorem dL_minute_197 : decode cL_minute 197 = .ok (.aload_n 0, 1) := by decide +kernel
theorem dL_minute_198 : decode cL_minute 198 = .ok (.iconst 1, 1) := by decide +kernel
theorem dL_minute_199 : decode cL_minute 199 = .ok (.iaload, 1) := by decide +kernel
theorem dL_minute_200 : decode cL_minute 200 = .ok (.if_icmp .ge 89, 3) := by decide +kernel
theorem dL_minute_203 : decode cL_minute 203 = .ok (.aload_n 2, 1) := by decide +kernel
theorem dL_minute_204 : decode cL_minute 204 = .ok (.bipush 6, 2) := by decide +kernel
theorem dL_minute_206 : decode cL_minute 206 = .ok (.iload 5, 2) := by decide +kernel
theorem dL_minute_208 : decode cL_minute 208 = .ok (.imul, 1) := by decide +kernel
theorem dL_minute_209 : decode cL_minute 209 = .ok (.iconst 4, 1) := by decide +kernel
theorem dL_minute_210 : decode cL_minute 210 = .ok (.iadd, 1) := by decide +kernel
theorem dL_minute_211 : decode cL_minute 211 = .ok (.iaload, 1) := by decide +kernel
theorem dL_minute_212 : decode cL_minute 212 = .ok (.ifCond .ne 71, 3) := by decide +kernel
theorem dL_minute_215 : decode cL_minute 215 = .ok (.aload_n 2, 1) := by decide +kernel
theorem dL_minute_216 : decode cL_minute 216 = .ok (.bipush 6, 2) := by decide +kernel
theorem dL_minute_218 : decode cL_minute 218 = .ok (.iload 5, 2) := by decide +kernel
theorem dL_minute_220 : decode cL_minute 220 = .ok (.imul, 1) := by decide +kernel
theorem dL_minute_221 : decode cL_minute 221 = .ok (.iconst 2, 1) := by decide +kernel
theorem dL_minute_222 : decode cL_minute 222 = .ok (.iadd, 1) := by decide +kernel
theorem dL_minute_223 : decode cL_minute 223 = .ok (.iaload, 1) := by decide +kernel
theorem dL_minute_224 : decode cL_minute 224 = .ok (.aload_n 2, 1) := by decide +kernel
theorem dL_minute_225 : decode cL_minute 225 = .ok (.bipush 6, 2) := by decide +kernel
theorem dL_minute_227 : decode cL_minute 227 = .ok (.iload 5, 2) := by decide +kernel
theorem dL_minute_229 : decode cL_minute 229 = .ok (.imul, 1) := by decide +kernel
theorem dL_minute_230 : decode cL_minute 230 = .ok (.iconst 3, 1) := by decide +kernel
theorem dL_minute_231 : decode cL_minute 231 = .ok (.iadd, 1) := by decide +kernel
theorem dL_minute_232 : decode cL_minute 232 = .ok (.iaload, 1) := by decide +kernel
theorem dL_minute_233 : decode cL_minute 233 = .ok (.iadd, 1) := by decide +kernel
theorem dL_minute_234 : decode cL_minute 234 = .ok (.aload_n 0, 1) := by decide +kernel
theorem dL_minute_235 : decode cL_minute 235 = .ok (.iconst 2, 1) := by decide +kernel
theorem dL_minute_236 : decode cL_minute 236 = .ok (.iaload, 1) := by decide +kernel
theorem dL_minute_237 : decode cL_minute 237 = .ok (.if_icmp .ne 46, 3) := by decide +kernel
theorem dL_minute_240 : decode cL_minute 240 = .ok (.aload_n 2, 1) := by decide +kernel
theorem dL_minute_241 : decode cL_minute 241 = .ok (.bipush 6, 2) := by decide +kernel
theorem dL_minute_243 : decode cL_minute 243 = .ok (.iload 5, 2) := by decide +kernel
theorem dL_minute_245 : decode cL_minute 245 = .ok (.imul, 1) := by decide +kernel
theorem dL_minute_246 : decode cL_minute 246 = .ok (.iconst 4, 1) := by decide +kernel
theorem dL_minute_247 : decode cL_minute 247 = .ok (.iadd, 1) := by decide +kernel
theorem dL_minute_248 : decode cL_minute 248 = .ok (.aload_n 3, 1) := by decide +kernel
theorem dL_minute_249 : decode cL_minute 249 = .ok (.iload 5, 2) := by decide +kernel
theorem dL_minute_251 : decode cL_minute 251 = .ok (.iaload, 1) := by decide +kernel
theorem dL_minute_252 : decode cL_minute 252 = .ok (.ifCond .le 7, 3) := by decide +kernel
theorem dL_minute_255 : decode cL_minute 255 = .ok (.iconst 1, 1) := by decide +kernel
theorem dL_minute_256 : decode cL_minute 256 = .ok (.goto 4, 3) := by decide +kernel
theorem dL_minute_259 : decode cL_minute 259 = .ok (.iconst 2, 1) := by decide +kernel
theorem dL_minute_260 : decode cL_minute 260 = .ok (.iastore, 1) := by decide +kernel
theorem dL_minute_261 : decode cL_minute 261 = .ok (.aload_n 3, 1) := by decide +kernel
theorem dL_minute_262 : decode cL_minute 262 = .ok (.iload 5, 2) := by decide +kernel
theorem dL_minute_264 : decode cL_minute 264 = .ok (.iaload, 1) := by decide +kernel
theorem dL_minute_265 : decode cL_minute 265 = .ok (.ifCond .le 18, 3) := by decide +kernel
theorem dL_minute_268 : decode cL_minute 268 = .ok (.aload_n 0, 1) := by decide +kernel
theorem dL_minute_269 : decode cL_minute 269 = .ok (.aload_n 1, 1) := by decide +kernel
theorem dL_minute_270 : decode cL_minute 270 = .ok (.aload_n 2, 1) := by decide +kernel
theorem dL_minute_271 : decode cL_minute 271 = .ok (.aload_n 3, 1) := by decide +kernel
theorem dL_minute_272 : decode cL_minute 272 = .ok (.iload 5, 2) := by decide +kernel
theorem dL_minute_274 : decode cL_minute 274 = .ok (.iconst 2, 1) := by decide +kernel
theorem dL_minute_275 : decode cL_minute 275 = .ok (.invokestatic 34, 3) := by decide +kernel
theorem dL_minute_278 : decode cL_minute 278 = .ok (.istore 6, 2) := by decide +kernel
theorem dL_minute_280 : decode cL_minute 280 = .ok (.iinc 4 1, 3) := by decide +kernel
theorem dL_minute_283 : decode cL_minute 283 = .ok (.iinc 5 1, 3) := by decide +kernel
theorem dL_minute_286 : decode cL_minute 286 = .ok (.goto (-91), 3) := by decide +kernel
theorem dL_minute_289 : decode cL_minute 289 = .ok (.iconst 0, 1) := by decide +kernel
theorem dL_minute_290 : decode cL_minute 290 = .ok (.istore 5, 2) := by decide +kernel
theorem dL_minute_292 : decode cL_minute 292 = .ok (.iload 5, 2) := by decide +kernel
theorem dL_minute_294 : decode cL_minute 294 = .ok (.aload_n 0, 1) := by decide +kernel
theorem dL_minute_295 : decode cL_minute 295 = .ok (.iconst 1, 1) := by decide +kernel
theorem dL_minute_296 : decode cL_minute 296 = .ok (.iaload, 1) := by decide +kernel
theorem dL_minute_297 : decode cL_minute 297 = .ok (.if_icmp .ge 118, 3) := by decide +kernel
theorem dL_minute_300 : decode cL_minute 300 = .ok (.aload_n 2, 1) := by decide +kernel
theorem dL_minute_301 : decode cL_minute 301 = .ok (.bipush 6, 2) := by decide +kernel
theorem dL_minute_303 : decode cL_minute 303 = .ok (.iload 5, 2) := by decide +kernel
theorem dL_minute_305 : decode cL_minute 305 = .ok (.imul, 1) := by decide +kernel
theorem dL_minute_306 : decode cL_minute 306 = .ok (.iconst 4, 1) := by decide +kernel
theorem dL_minute_307 : decode cL_minute 307 = .ok (.iadd, 1) := by decide +kernel
theorem dL_minute_308 : decode cL_minute 308 = .ok (.iaload, 1) := by decide +kernel
theorem dL_minute_309 : decode cL_minute 309 = .ok (.ifCond .ne 100, 3) := by decide +kernel
theorem dL_minute_312 : decode cL_minute 312 = .ok (.aload_n 2, 1) := by decide +kernel
theorem dL_minute_313 : decode cL_minute 313 = .ok (.bipush 6, 2) := by decide +kernel
theorem dL_minute_315 : decode cL_minute 315 = .ok (.iload 5, 2) := by decide +kernel
theorem dL_minute_317 : decode cL_minute 317 = .ok (.imul, 1) := by decide +kernel
theorem dL_minute_318 : decode cL_minute 318 = .ok (.iconst 2, 1) := by decide +kernel
theorem dL_minute_319 : decode cL_minute 319 = .ok (.iadd, 1) := by decide +kernel
theorem dL_minute_320 : decode cL_minute 320 = .ok (.iaload, 1) := by decide +kernel
theorem dL_minute_321 : decode cL_minute 321 = .ok (.aload_n 0, 1) := by decide +kernel
theorem dL_minute_322 : decode cL_minute 322 = .ok (.iconst 2, 1) := by decide +kernel
theorem dL_minute_323 : decode cL_minute 323 = .ok (.iaload, 1) := by decide +kernel
theorem dL_minute_324 : decode cL_minute 324 = .ok (.if_icmp .ne 85, 3) := by decide +kernel
theorem dL_minute_327 : decode cL_minute 327 = .ok (.iconst 0, 1) := by decide +kernel
theorem dL_minute_328 : decode cL_minute 328 = .ok (.istore 6, 2) := by decide +kernel
theorem dL_minute_330 : decode cL_minute 330 = .ok (.iconst 0, 1) := by decide +kernel
theorem dL_minute_331 : decode cL_minute 331 = .ok (.istore 7, 2) := by decide +kernel
theorem dL_minute_333 : decode cL_minute 333 = .ok (.iload 7, 2) := by decide +kernel
theorem dL_minute_335 : decode cL_minute 335 = .ok (.aload_n 0, 1) := by decide +kernel
theorem dL_minute_336 : decode cL_minute 336 = .ok (.iconst 0, 1) := by decide +kernel
theorem dL_minute_337 : decode cL_minute 337 = .ok (.iaload, 1) := by decide +kernel
theorem dL_minute_338 : decode cL_minute 338 = .ok (.if_icmp .ge 40, 3) := by decide +kernel
theorem dL_minute_341 : decode cL_minute 341 = .ok (.aload_n 3, 1) := by decide +kernel
theorem dL_minute_342 : decode cL_minute 342 = .ok (.iload 5, 2) := by decide +kernel
theorem dL_minute_344 : decode cL_minute 344 = .ok (.iaload, 1) := by decide +kernel
theorem dL_minute_345 : decode cL_minute 345 = .ok (.iload 7, 2) := by decide +kernel
theorem dL_minute_347 : decode cL_minute 347 = .ok (.invokestatic 26, 3) := by decide +kernel
theorem dL_minute_350 : decode cL_minute 350 = .ok (.ifCond .eq 22, 3) := by decide +kernel
theorem dL_minute_353 : decode cL_minute 353 = .ok (.aload_n 1, 1) := by decide +kernel
theorem dL_minute_354 : decode cL_minute 354 = .ok (.bipush 6, 2) := by decide +kernel
theorem dL_minute_356 : decode cL_minute 356 = .ok (.iload 7, 2) := by decide +kernel
theorem dL_minute_358 : decode cL_minute 358 = .ok (.imul, 1) := by decide +kernel
theorem dL_minute_359 : decode cL_minute 359 = .ok (.iconst 3, 1) := by decide +kernel
theorem dL_minute_360 : decode cL_minute 360 = .ok (.iadd, 1) := by decide +kernel
theorem dL_minute_361 : decode cL_minute 361 = .ok (.iaload, 1) := by decide +kernel
theorem dL_minute_362 : decode cL_minute 362 = .ok (.aload_n 0, 1) := by decide +kernel
theorem dL_minute_363 : decode cL_minute 363 = .ok (.bipush 10, 2) := by decide +kernel
theorem dL_minute_365 : decode cL_minute 365 = .ok (.iaload, 1) := by decide +kernel
theorem dL_minute_366 : decode cL_minute 366 = .ok (.if_icmp .le 6, 3) := by decide +kernel
theorem dL_minute_369 : decode cL_minute 369 = .ok (.iconst 1, 1) := by decide +kernel
theorem dL_minute_370 : decode cL_minute 370 = .ok (.istore 6, 2) := by decide +kernel
theorem dL_minute_372 : decode cL_minute 372 = .ok (.iinc 7 1, 3) := by decide +kernel
theorem dL_minute_375 : decode cL_minute 375 = .ok (.goto (-42), 3) := by decide +kernel
theorem dL_minute_378 : decode cL_minute 378 = .ok (.iload 6, 2) := by decide +kernel
theorem dL_minute_380 : decode cL_minute 380 = .ok (.ifCond .eq 29, 3) := by decide +kernel
theorem dL_minute_383 : decode cL_minute 383 = .ok (.aload_n 2, 1) := by decide +kernel
theorem dL_minute_384 : decode cL_minute 384 = .ok (.bipush 6, 2) := by decide +kernel
theorem dL_minute_386 : decode cL_minute 386 = .ok (.iload 5, 2) := by decide +kernel
theorem dL_minute_388 : decode cL_minute 388 = .ok (.imul, 1) := by decide +kernel
theorem dL_minute_389 : decode cL_minute 389 = .ok (.iconst 4, 1) := by decide +kernel
theorem dL_minute_390 : decode cL_minute 390 = .ok (.iadd, 1) := by decide +kernel
theorem dL_minute_391 : decode cL_minute 391 = .ok (.iconst 2, 1) := by decide +kernel
theorem dL_minute_392 : decode cL_minute 392 = .ok (.iastore, 1) := by decide +kernel
theorem dL_minute_393 : decode cL_minute 393 = .ok (.aload_n 0, 1) := by decide +kernel
theorem dL_minute_394 : decode cL_minute 394 = .ok (.iconst 5, 1) := by decide +kernel
theorem dL_minute_395 : decode cL_minute 395 = .ok (.dup2, 1) := by decide +kernel
theorem dL_minute_396 : decode cL_minute 396 = .ok (.iaload, 1) := by decide +kernel
theorem dL_minute_397 : decode cL_minute 397 = .ok (.aload_n 0, 1) := by decide +kernel
theorem dL_minute_398 : decode cL_minute 398 = .ok (.aload_n 1, 1) := by decide +kernel
theorem dL_minute_399 : decode cL_minute 399 = .ok (.aload_n 2, 1) := by decide +kernel
theorem dL_minute_400 : decode cL_minute 400 = .ok (.aload_n 3, 1) := by decide +kernel
theorem dL_minute_401 : decode cL_minute 401 = .ok (.iload 5, 2) := by decide +kernel
theorem dL_minute_403 : decode cL_minute 403 = .ok (.iconst 1, 1) := by decide +kernel
theorem dL_minute_404 : decode cL_minute 404 = .ok (.invokestatic 34, 3) := by decide +kernel
theorem dL_minute_407 : decode cL_minute 407 = .ok (.iadd, 1) := by decide +kernel
theorem dL_minute_408 : decode cL_minute 408 = .ok (.iastore, 1) := by decide +kernel
theorem dL_minute_409 : decode cL_minute 409 = .ok (.iinc 5 1, 3) := by decide +kernel
theorem dL_minute_412 : decode cL_minute 412 = .ok (.goto (-120), 3) := by decide +kernel
theorem dL_minute_415 : decode cL_minute 415 = .ok (.iload 4, 2) := by decide +kernel
theorem dL_minute_417 : decode cL_minute 417 = .ok (.ireturn, 1) := by decide +kernel
theorem dL_chains_0 : decode cL_chains 0 = .ok (.iload_n 2, 1) := by decide +kernel
theorem dL_chains_1 : decode cL_chains 1 = .ok (.aload_n 3, 1) := by decide +kernel
theorem dL_chains_2 : decode cL_chains 2 = .ok (.iconst 1, 1) := by decide +kernel
theorem dL_chains_3 : decode cL_chains 3 = .ok (.iaload, 1) := by decide +kernel
theorem dL_chains_4 : decode cL_chains 4 = .ok (.invokestatic 37, 3) := by decide +kernel
theorem dL_chains_7 : decode cL_chains 7 = .ok (.istore 7, 2) := by decide +kernel
theorem dL_chains_9 : decode cL_chains 9 = .ok (.iload_n 1, 1) := by decide +kernel
theorem dL_chains_10 : decode cL_chains 10 = .ok (.bipush 9, 2) := by decide +kernel
theorem dL_chains_12 : decode cL_chains 12 = .ok (.invokestatic 37, 3) := by decide +kernel
theorem dL_chains_15 : decode cL_chains 15 = .ok (.istore 8, 2) := by decide +kernel
theorem dL_chains_17 : decode cL_chains 17 = .ok (.iload 8, 2) := by decide +kernel
theorem dL_chains_19 : decode cL_chains 19 = .ok (.bipush 6, 2) := by decide +kernel
theorem dL_chains_21 : decode cL_chains 21 = .ok (.if_icmp .ge 224, 3) := by decide +kernel
theorem dL_chains_24 : decode cL_chains 24 = .ok (.iload_n 2, 1) := by decide +kernel
theorem dL_chains_25 : decode cL_chains 25 = .ok (.iconst 4, 1) := by decide +kernel
theorem dL_chains_26 : decode cL_chains 26 = .ok (.ishr, 1) := by decide +kernel
theorem dL_chains_27 : decode cL_chains 27 = .ok (.aload_n 3, 1) := by decide +kernel
theorem dL_chains_28 : decode cL_chains 28 = .ok (.iconst 0, 1) := by decide +kernel
theorem dL_chains_29 : decode cL_chains 29 = .ok (.iaload, 1) := by decide +kernel
theorem dL_chains_30 : decode cL_chains 30 = .ok (.invokestatic 37, 3) := by decide +kernel
theorem dL_chains_33 : decode cL_chains 33 = .ok (.istore 9, 2) := by decide +kernel
theorem dL_chains_35 : decode cL_chains 35 = .ok (.iload_n 2, 1) := by decide +kernel
theorem dL_chains_36 : decode cL_chains 36 = .ok (.bipush 7, 2) := by decide +kernel
theorem dL_chains_38 : decode cL_chains 38 = .ok (.ishr, 1) := by decide +kernel
theorem dL_chains_39 : decode cL_chains 39 = .ok (.iconst 3, 1) := by decide +kernel
theorem dL_chains_40 : decode cL_chains 40 = .ok (.invokestatic 37, 3) := by decide +kernel
theorem dL_chains_43 : decode cL_chains 43 = .ok (.ifCond .ne 7, 3) := by decide +kernel
theorem dL_chains_46 : decode cL_chains 46 = .ok (.iconst (-1), 1) := by decide +kernel
theorem dL_chains_47 : decode cL_chains 47 = .ok (.goto 13, 3) := by decide +kernel
theorem dL_chains_50 : decode cL_chains 50 = .ok (.iload_n 2, 1) := by decide +kernel
theorem dL_chains_51 : decode cL_chains 51 = .ok (.bipush 9, 2) := by decide +kernel
theorem dL_chains_53 : decode cL_chains 53 = .ok (.ishr, 1) := by decide +kernel
theorem dL_chains_54 : decode cL_chains 54 = .ok (.aload_n 3, 1) := by decide +kernel
theorem dL_chains_55 : decode cL_chains 55 = .ok (.iconst 0, 1) := by decide +kernel
theorem dL_chains_56 : decode cL_chains 56 = .ok (.iaload, 1) := by decide +kernel
theorem dL_chains_57 : decode cL_chains 57 = .ok (.invokestatic 37, 3) := by decide +kernel
theorem dL_chains_60 : decode cL_chains 60 = .ok (.istore 10, 2) := by decide +kernel
theorem dL_chains_62 : decode cL_chains 62 = .ok (.iload 10, 2) := by decide +kernel
theorem dL_chains_64 : decode cL_chains 64 = .ok (.ifCond .lt 14, 3) := by decide +kernel
theorem dL_chains_67 : decode cL_chains 67 = .ok (.iload_n 2, 1) := by decide +kernel
theorem dL_chains_68 : decode cL_chains 68 = .ok (.bipush 12, 2) := by decide +kernel
theorem dL_chains_70 : decode cL_chains 70 = .ok (.ishr, 1) := by decide +kernel
theorem dL_chains_71 : decode cL_chains 71 = .ok (.iconst 2, 1) := by decide +kernel
theorem dL_chains_72 : decode cL_chains 72 = .ok (.invokestatic 37, 3) := by decide +kernel
theorem dL_chains_75 : decode cL_chains 75 = .ok (.ifCond .ne 7, 3) := by decide +kernel
theorem dL_chains_78 : decode cL_chains 78 = .ok (.iconst (-1), 1) := by decide +kernel
theorem dL_chains_79 : decode cL_chains 79 = .ok (.goto 13, 3) := by decide +kernel
theorem dL_chains_82 : decode cL_chains 82 = .ok (.iload_n 2, 1) := by decide +kernel
theorem dL_chains_83 : decode cL_chains 83 = .ok (.bipush 13, 2) := by decide +kernel
theorem dL_chains_85 : decode cL_chains 85 = .ok (.ishr, 1) := by decide +kernel
theorem dL_chains_86 : decode cL_chains 86 = .ok (.aload_n 3, 1) := by decide +kernel
theorem dL_chains_87 : decode cL_chains 87 = .ok (.iconst 0, 1) := by decide +kernel
theorem dL_chains_88 : decode cL_chains 88 = .ok (.iaload, 1) := by decide +kernel
theorem dL_chains_89 : decode cL_chains 89 = .ok (.invokestatic 37, 3) := by decide +kernel
theorem dL_chains_92 : decode cL_chains 92 = .ok (.istore 11, 2) := by decide +kernel
theorem dL_chains_94 : decode cL_chains 94 = .ok (.iload 9, 2) := by decide +kernel
theorem dL_chains_96 : decode cL_chains 96 = .ok (.iload 10, 2) := by decide +kernel
theorem dL_chains_98 : decode cL_chains 98 = .ok (.if_icmp .eq 22, 3) := by decide +kernel
theorem dL_chains_101 : decode cL_chains 101 = .ok (.iload 11, 2) := by decide +kernel
theorem dL_chains_103 : decode cL_chains 103 = .ok (.ifCond .lt 19, 3) := by decide +kernel
theorem dL_chains_106 : decode cL_chains 106 = .ok (.iload 11, 2) := by decide +kernel
theorem dL_chains_108 : decode cL_chains 108 = .ok (.iload 9, 2) := by decide +kernel
theorem dL_chains_110 : decode cL_chains 110 = .ok (.if_icmp .eq 10, 3) := by decide +kernel
theorem dL_chains_113 : decode cL_chains 113 = .ok (.iload 11, 2) := by decide +kernel
theorem dL_chains_115 : decode cL_chains 115 = .ok (.iload 10, 2) := by decide +kernel
theorem dL_chains_117 : decode cL_chains 117 = .ok (.if_icmp .ne 5, 3) := by decide +kernel
theorem dL_chains_120 : decode cL_chains 120 = .ok (.iconst 1, 1) := by decide +kernel
theorem dL_chains_121 : decode cL_chains 121 = .ok (.ireturn, 1) := by decide +kernel
theorem dL_chains_122 : decode cL_chains 122 = .ok (.iload 9, 2) := by decide +kernel
theorem dL_chains_124 : decode cL_chains 124 = .ok (.iconst 1, 1) := by decide +kernel
theorem dL_chains_125 : decode cL_chains 125 = .ok (.iadd, 1) := by decide +kernel
theorem dL_chains_126 : decode cL_chains 126 = .ok (.bipush 16, 2) := by decide +kernel
theorem dL_chains_128 : decode cL_chains 128 = .ok (.iload 10, 2) := by decide +kernel
theorem dL_chains_130 : decode cL_chains 130 = .ok (.iconst 1, 1) := by decide +kernel
theorem dL_chains_131 : decode cL_chains 131 = .ok (.iadd, 1) := by decide +kernel
theorem dL_chains_132 : decode cL_chains 132 = .ok (.imul, 1) := by decide +kernel
theorem dL_chains_133 : decode cL_chains 133 = .ok (.iadd, 1) := by decide +kernel
theorem dL_chains_134 : decode cL_chains 134 = .ok (.sipush 256, 3) := by decide +kernel
theorem dL_chains_137 : decode cL_chains 137 = .ok (.iload 11, 2) := by decide +kernel
theorem dL_chains_139 : decode cL_chains 139 = .ok (.iconst 1, 1) := by decide +kernel
theorem dL_chains_140 : decode cL_chains 140 = .ok (.iadd, 1) := by decide +kernel
theorem dL_chains_141 : decode cL_chains 141 = .ok (.imul, 1) := by decide +kernel
theorem dL_chains_142 : decode cL_chains 142 = .ok (.iadd, 1) := by decide +kernel
theorem dL_chains_143 : decode cL_chains 143 = .ok (.istore 12, 2) := by decide +kernel
theorem dL_chains_145 : decode cL_chains 145 = .ok (.aload_n 3, 1) := by decide +kernel
theorem dL_chains_146 : decode cL_chains 146 = .ok (.aload 4, 2) := by decide +kernel
theorem dL_chains_148 : decode cL_chains 148 = .ok (.aload 5, 2) := by decide +kernel
theorem dL_chains_150 : decode cL_chains 150 = .ok (.aload 6, 2) := by decide +kernel
theorem dL_chains_152 : decode cL_chains 152 = .ok (.iload 7, 2) := by decide +kernel
theorem dL_chains_154 : decode cL_chains 154 = .ok (.iload 12, 2) := by decide +kernel
theorem dL_chains_156 : decode cL_chains 156 = .ok (.invokestatic 40, 3) := by decide +kernel
theorem dL_chains_159 : decode cL_chains 159 = .ok (.istore 13, 2) := by decide +kernel
theorem dL_chains_161 : decode cL_chains 161 = .ok (.aload_n 0, 1) := by decide +kernel
theorem dL_chains_162 : decode cL_chains 162 = .ok (.iload 7, 2) := by decide +kernel
theorem dL_chains_164 : decode cL_chains 164 = .ok (.iload 9, 2) := by decide +kernel
theorem dL_chains_166 : decode cL_chains 166 = .ok (.iload 10, 2) := by decide +kernel
theorem dL_chains_168 : decode cL_chains 168 = .ok (.iload 11, 2) := by decide +kernel
theorem dL_chains_170 : decode cL_chains 170 = .ok (.invokevirtual 43, 3) := by decide +kernel
theorem dL_chains_173 : decode cL_chains 173 = .ok (.iload 13, 2) := by decide +kernel
theorem dL_chains_175 : decode cL_chains 175 = .ok (.if_icmp .eq 5, 3) := by decide +kernel
theorem dL_chains_178 : decode cL_chains 178 = .ok (.iconst 0, 1) := by decide +kernel
theorem dL_chains_179 : decode cL_chains 179 = .ok (.ireturn, 1) := by decide +kernel
theorem dL_chains_180 : decode cL_chains 180 = .ok (.iload 13, 2) := by decide +kernel
theorem dL_chains_182 : decode cL_chains 182 = .ok (.ifCond .le 5, 3) := by decide +kernel
theorem dL_chains_185 : decode cL_chains 185 = .ok (.iconst 1, 1) := by decide +kernel
theorem dL_chains_186 : decode cL_chains 186 = .ok (.ireturn, 1) := by decide +kernel
theorem dL_chains_187 : decode cL_chains 187 = .ok (.aload 6, 2) := by decide +kernel
theorem dL_chains_189 : decode cL_chains 189 = .ok (.iload 7, 2) := by decide +kernel
theorem dL_chains_191 : decode cL_chains 191 = .ok (.iload 12, 2) := by decide +kernel
theorem dL_chains_193 : decode cL_chains 193 = .ok (.iastore, 1) := by decide +kernel
theorem dL_chains_194 : decode cL_chains 194 = .ok (.aload_n 3, 1) := by decide +kernel
theorem dL_chains_195 : decode cL_chains 195 = .ok (.bipush 6, 2) := by decide +kernel
theorem dL_chains_197 : decode cL_chains 197 = .ok (.iaload, 1) := by decide +kernel
theorem dL_chains_198 : decode cL_chains 198 = .ok (.bipush 6, 2) := by decide +kernel
theorem dL_chains_200 : decode cL_chains 200 = .ok (.if_icmp .ge 11, 3) := by decide +kernel
theorem dL_chains_203 : decode cL_chains 203 = .ok (.aload_n 3, 1) := by decide +kernel
theorem dL_chains_204 : decode cL_chains 204 = .ok (.bipush 6, 2) := by decide +kernel
theorem dL_chains_206 : decode cL_chains 206 = .ok (.dup2, 1) := by decide +kernel
theorem dL_chains_207 : decode cL_chains 207 = .ok (.iaload, 1) := by decide +kernel
theorem dL_chains_208 : decode cL_chains 208 = .ok (.iconst 1, 1) := by decide +kernel
theorem dL_chains_209 : decode cL_chains 209 = .ok (.iadd, 1) := by decide +kernel
theorem dL_chains_210 : decode cL_chains 210 = .ok (.iastore, 1) := by decide +kernel
theorem dL_chains_211 : decode cL_chains 211 = .ok (.aload_n 0, 1) := by decide +kernel
theorem dL_chains_212 : decode cL_chains 212 = .ok (.iload 7, 2) := by decide +kernel
theorem dL_chains_214 : decode cL_chains 214 = .ok (.iload 9, 2) := by decide +kernel
theorem dL_chains_216 : decode cL_chains 216 = .ok (.iload 10, 2) := by decide +kernel
theorem dL_chains_218 : decode cL_chains 218 = .ok (.iload 11, 2) := by decide +kernel
theorem dL_chains_220 : decode cL_chains 220 = .ok (.invokevirtual 49, 3) := by decide +kernel
theorem dL_chains_223 : decode cL_chains 223 = .ok (.aload_n 3, 1) := by decide +kernel
theorem dL_chains_224 : decode cL_chains 224 = .ok (.aload 4, 2) := by decide +kernel
theorem dL_chains_226 : decode cL_chains 226 = .ok (.aload 5, 2) := by decide +kernel
theorem dL_chains_228 : decode cL_chains 228 = .ok (.aload 6, 2) := by decide +kernel
theorem dL_chains_230 : decode cL_chains 230 = .ok (.iload 7, 2) := by decide +kernel
theorem dL_chains_232 : decode cL_chains 232 = .ok (.iconst 2, 1) := by decide +kernel
theorem dL_chains_233 : decode cL_chains 233 = .ok (.invokestatic 22, 3) := by decide +kernel
theorem dL_chains_236 : decode cL_chains 236 = .ok (.if_icmp .ne 7, 3) := by decide +kernel
theorem dL_chains_239 : decode cL_chains 239 = .ok (.iconst 1, 1) := by decide +kernel
theorem dL_chains_240 : decode cL_chains 240 = .ok (.goto 4, 3) := by decide +kernel
theorem dL_chains_243 : decode cL_chains 243 = .ok (.iconst 0, 1) := by decide +kernel
theorem dL_chains_244 : decode cL_chains 244 = .ok (.ireturn, 1) := by decide +kernel
theorem dL_chains_245 : decode cL_chains 245 = .ok (.iload 8, 2) := by decide +kernel
theorem dL_chains_247 : decode cL_chains 247 = .ok (.bipush 6, 2) := by decide +kernel
theorem dL_chains_249 : decode cL_chains 249 = .ok (.if_icmp .ne 149, 3) := by decide +kernel
theorem dL_chains_252 : decode cL_chains 252 = .ok (.aload 6, 2) := by decide +kernel
theorem dL_chains_254 : decode cL_chains 254 = .ok (.iload 7, 2) := by decide +kernel
theorem dL_chains_256 : decode cL_chains 256 = .ok (.iaload, 1) := by decide +kernel
theorem dL_chains_257 : decode cL_chains 257 = .ok (.invokestatic 14, 3) := by decide +kernel
theorem dL_chains_260 : decode cL_chains 260 = .ok (.istore 9, 2) := by decide +kernel
theorem dL_chains_262 : decode cL_chains 262 = .ok (.iload_n 2, 1) := by decide +kernel
theorem dL_chains_263 : decode cL_chains 263 = .ok (.iconst 4, 1) := by decide +kernel
theorem dL_chains_264 : decode cL_chains 264 = .ok (.ishr, 1) := by decide +kernel
theorem dL_chains_265 : decode cL_chains 265 = .ok (.aload_n 3, 1) := by decide +kernel
theorem dL_chains_266 : decode cL_chains 266 = .ok (.iconst 0, 1) := by decide +kernel
theorem dL_chains_267 : decode cL_chains 267 = .ok (.iaload, 1) := by decide +kernel
theorem dL_chains_268 : decode cL_chains 268 = .ok (.invokestatic 37, 3) := by decide +kernel
theorem dL_chains_271 : decode cL_chains 271 = .ok (.istore 10, 2) := by decide +kernel
theorem dL_chains_273 : decode cL_chains 273 = .ok (.iload 9, 2) := by decide +kernel
theorem dL_chains_275 : decode cL_chains 275 = .ok (.ifCond .eq 16, 3) := by decide +kernel
theorem dL_chains_278 : decode cL_chains 278 = .ok (.aload 6, 2) := by decide +kernel
theorem dL_chains_280 : decode cL_chains 280 = .ok (.iload 7, 2) := by decide +kernel
theorem dL_chains_282 : decode cL_chains 282 = .ok (.iaload, 1) := by decide +kernel
theorem dL_chains_283 : decode cL_chains 283 = .ok (.iload 10, 2) := by decide +kernel
theorem dL_chains_285 : decode cL_chains 285 = .ok (.invokestatic 26, 3) := by decide +kernel
theorem dL_chains_288 : decode cL_chains 288 = .ok (.ifCond .eq 5, 3) := by decide +kernel
theorem dL_chains_291 : decode cL_chains 291 = .ok (.iconst 1, 1) := by decide +kernel
theorem dL_chains_292 : decode cL_chains 292 = .ok (.ireturn, 1) := by decide +kernel
theorem dL_chains_293 : decode cL_chains 293 = .ok (.iload_n 2, 1) := by decide +kernel
theorem dL_chains_294 : decode cL_chains 294 = .ok (.bipush 8, 2) := by decide +kernel
theorem dL_chains_296 : decode cL_chains 296 = .ok (.ishr, 1) := by decide +kernel
theorem dL_chains_297 : decode cL_chains 297 = .ok (.iload 9, 2) := by decide +kernel
theorem dL_chains_299 : decode cL_chains 299 = .ok (.invokestatic 37, 3) := by decide +kernel
theorem dL_chains_302 : decode cL_chains 302 = .ok (.istore 11, 2) := by decide +kernel
theorem dL_chains_304 : decode cL_chains 304 = .ok (.aload 6, 2) := by decide +kernel
theorem dL_chains_306 : decode cL_chains 306 = .ok (.iload 7, 2) := by decide +kernel
theorem dL_chains_308 : decode cL_chains 308 = .ok (.iaload, 1) := by decide +kernel
theorem dL_chains_309 : decode cL_chains 309 = .ok (.iload 11, 2) := by decide +kernel
theorem dL_chains_311 : decode cL_chains 311 = .ok (.invokestatic 8, 3) := by decide +kernel
theorem dL_chains_314 : decode cL_chains 314 = .ok (.istore 12, 2) := by decide +kernel
theorem dL_chains_316 : decode cL_chains 316 = .ok (.aload 6, 2) := by decide +kernel
theorem dL_chains_318 : decode cL_chains 318 = .ok (.iload 7, 2) := by decide +kernel
theorem dL_chains_320 : decode cL_chains 320 = .ok (.iaload, 1) := by decide +kernel
theorem dL_chains_321 : decode cL_chains 321 = .ok (.iload 10, 2) := by decide +kernel
theorem dL_chains_323 : decode cL_chains 323 = .ok (.iload 12, 2) := by decide +kernel
theorem dL_chains_325 : decode cL_chains 325 = .ok (.isub, 1) := by decide +kernel
theorem dL_chains_326 : decode cL_chains 326 = .ok (.iconst 4, 1) := by decide +kernel
theorem dL_chains_327 : decode cL_chains 327 = .ok (.iload 11, 2) := by decide +kernel
theorem dL_chains_329 : decode cL_chains 329 = .ok (.imul, 1) := by decide +kernel
theorem dL_chains_330 : decode cL_chains 330 = .ok (.ishl, 1) := by decide +kernel
theorem dL_chains_331 : decode cL_chains 331 = .ok (.iadd, 1) := by decide +kernel
theorem dL_chains_332 : decode cL_chains 332 = .ok (.istore 13, 2) := by decide +kernel
theorem dL_chains_334 : decode cL_chains 334 = .ok (.aload_n 3, 1) := by decide +kernel
theorem dL_chains_335 : decode cL_chains 335 = .ok (.aload 4, 2) := by decide +kernel
theorem dL_chains_337 : decode cL_chains 337 = .ok (.aload 5, 2) := by decide +kernel
theorem dL_chains_339 : decode cL_chains 339 = .ok (.aload 6, 2) := by decide +kernel
theorem dL_chains_341 : decode cL_chains 341 = .ok (.iload 7, 2) := by decide +kernel
theorem dL_chains_343 : decode cL_chains 343 = .ok (.iload 13, 2) := by decide +kernel
theorem dL_chains_345 : decode cL_chains 345 = .ok (.invokestatic 40, 3) := by decide +kernel
theorem dL_chains_348 : decode cL_chains 348 = .ok (.ifCond .le 5, 3) := by decide +kernel
theorem dL_chains_351 : decode cL_chains 351 = .ok (.iconst 1, 1) := by decide +kernel
theorem dL_chains_352 : decode cL_chains 352 = .ok (.ireturn, 1) := by decide +kernel
theorem dL_chains_353 : decode cL_chains 353 = .ok (.aload 6, 2) := by decide +kernel
theorem dL_chains_355 : decode cL_chains 355 = .ok (.iload 7, 2) := by decide +kernel
theorem dL_chains_357 : decode cL_chains 357 = .ok (.iload 13, 2) := by decide +kernel
theorem dL_chains_359 : decode cL_chains 359 = .ok (.iastore, 1) := by decide +kernel
theorem dL_chains_360 : decode cL_chains 360 = .ok (.aload_n 3, 1) := by decide +kernel
theorem dL_chains_361 : decode cL_chains 361 = .ok (.bipush 6, 2) := by decide +kernel
theorem dL_chains_363 : decode cL_chains 363 = .ok (.iaload, 1) := by decide +kernel
theorem dL_chains_364 : decode cL_chains 364 = .ok (.bipush 6, 2) := by decide +kernel
theorem dL_chains_366 : decode cL_chains 366 = .ok (.if_icmp .ge 11, 3) := by decide +kernel
theorem dL_chains_369 : decode cL_chains 369 = .ok (.aload_n 3, 1) := by decide +kernel
theorem dL_chains_370 : decode cL_chains 370 = .ok (.bipush 6, 2) := by decide +kernel
theorem dL_chains_372 : decode cL_chains 372 = .ok (.dup2, 1) := by decide +kernel
theorem dL_chains_373 : decode cL_chains 373 = .ok (.iaload, 1) := by decide +kernel
theorem dL_chains_374 : decode cL_chains 374 = .ok (.iconst 1, 1) := by decide +kernel
theorem dL_chains_375 : decode cL_chains 375 = .ok (.iadd, 1) := by decide +kernel
theorem dL_chains_376 : decode cL_chains 376 = .ok (.iastore, 1) := by decide +kernel
theorem dL_chains_377 : decode cL_chains 377 = .ok (.aload_n 0, 1) := by decide +kernel
theorem dL_chains_378 : decode cL_chains 378 = .ok (.iload 7, 2) := by decide +kernel
theorem dL_chains_380 : decode cL_chains 380 = .ok (.iload 11, 2) := by decide +kernel
theorem dL_chains_382 : decode cL_chains 382 = .ok (.iload 10, 2) := by decide +kernel
theorem dL_chains_384 : decode cL_chains 384 = .ok (.invokevirtual 52, 3) := by decide +kernel
theorem dL_chains_387 : decode cL_chains 387 = .ok (.iload 12, 2) := by decide +kernel
theorem dL_chains_389 : decode cL_chains 389 = .ok (.if_icmp .ne 7, 3) := by decide +kernel
theorem dL_chains_392 : decode cL_chains 392 = .ok (.iconst 1, 1) := by decide +kernel
theorem dL_chains_393 : decode cL_chains 393 = .ok (.goto 4, 3) := by decide +kernel
theorem dL_chains_396 : decode cL_chains 396 = .ok (.iconst 0, 1) := by decide +kernel
theorem dL_chains_397 : decode cL_chains 397 = .ok (.ireturn, 1) := by decide +kernel
theorem dL_chains_398 : decode cL_chains 398 = .ok (.aload 5, 2) := by decide +kernel
theorem dL_chains_400 : decode cL_chains 400 = .ok (.bipush 6, 2) := by decide +kernel
theorem dL_chains_402 : decode cL_chains 402 = .ok (.iload 7, 2) := by decide +kernel
theorem dL_chains_404 : decode cL_chains 404 = .ok (.imul, 1) := by decide +kernel
theorem dL_chains_405 : decode cL_chains 405 = .ok (.iconst 4, 1) := by decide +kernel
theorem dL_chains_406 : decode cL_chains 406 = .ok (.iadd, 1) := by decide +kernel
theorem dL_chains_407 : decode cL_chains 407 = .ok (.iaload, 1) := by decide +kernel
theorem dL_chains_408 : decode cL_chains 408 = .ok (.ifCond .gt 19, 3) := by decide +kernel
theorem dL_chains_411 : decode cL_chains 411 = .ok (.aload 5, 2) := by decide +kernel
theorem dL_chains_413 : decode cL_chains 413 = .ok (.bipush 6, 2) := by decide +kernel
theorem dL_chains_415 : decode cL_chains 415 = .ok (.iload 7, 2) := by decide +kernel
theorem dL_chains_417 : decode cL_chains 417 = .ok (.imul, 1) := by decide +kernel
theorem dL_chains_418 : decode cL_chains 418 = .ok (.iconst 2, 1) := by decide +kernel
theorem dL_chains_419 : decode cL_chains 419 = .ok (.iadd, 1) := by decide +kernel
theorem dL_chains_420 : decode cL_chains 420 = .ok (.iaload, 1) := by decide +kernel
theorem dL_chains_421 : decode cL_chains 421 = .ok (.aload_n 3, 1) := by decide +kernel
theorem dL_chains_422 : decode cL_chains 422 = .ok (.iconst 2, 1) := by decide +kernel
theorem dL_chains_423 : decode cL_chains 423 = .ok (.iaload, 1) := by decide +kernel
theorem dL_chains_424 : decode cL_chains 424 = .ok (.if_icmp .gt 5, 3) := by decide +kernel
theorem dL_chains_427 : decode cL_chains 427 = .ok (.iconst 1, 1) := by decide +kernel
theorem dL_chains_428 : decode cL_chains 428 = .ok (.ireturn, 1) := by decide +kernel
theorem dL_chains_429 : decode cL_chains 429 = .ok (.aload_n 3, 1) := by decide +kernel
theorem dL_chains_430 : decode cL_chains 430 = .ok (.bipush 6, 2) := by decide +kernel
theorem dL_chains_432 : decode cL_chains 432 = .ok (.iaload, 1) := by decide +kernel
theorem dL_chains_433 : decode cL_chains 433 = .ok (.bipush 6, 2) := by decide +kernel
theorem dL_chains_435 : decode cL_chains 435 = .ok (.if_icmp .ge 11, 3) := by decide +kernel
theorem dL_chains_438 : decode cL_chains 438 = .ok (.aload_n 3, 1) := by decide +kernel
theorem dL_chains_439 : decode cL_chains 439 = .ok (.bipush 6, 2) := by decide +kernel
theorem dL_chains_441 : decode cL_chains 441 = .ok (.dup2, 1) := by decide +kernel
theorem dL_chains_442 : decode cL_chains 442 = .ok (.iaload, 1) := by decide +kernel
theorem dL_chains_443 : decode cL_chains 443 = .ok (.iconst 1, 1) := by decide +kernel
theorem dL_chains_444 : decode cL_chains 444 = .ok (.iadd, 1) := by decide +kernel
theorem dL_chains_445 : decode cL_chains 445 = .ok (.iastore, 1) := by decide +kernel
theorem dL_chains_446 : decode cL_chains 446 = .ok (.iload 8, 2) := by decide +kernel
theorem dL_chains_448 : decode cL_chains 448 = .ok (.bipush 7, 2) := by decide +kernel
theorem dL_chains_450 : decode cL_chains 450 = .ok (.if_icmp .ne 36, 3) := by decide +kernel
theorem dL_chains_453 : decode cL_chains 453 = .ok (.aload 6, 2) := by decide +kernel
theorem dL_chains_455 : decode cL_chains 455 = .ok (.iload 7, 2) := by decide +kernel
theorem dL_chains_457 : decode cL_chains 457 = .ok (.iaload, 1) := by decide +kernel
theorem dL_chains_458 : decode cL_chains 458 = .ok (.invokestatic 14, 3) := by decide +kernel
theorem dL_chains_461 : decode cL_chains 461 = .ok (.istore 9, 2) := by decide +kernel
theorem dL_chains_463 : decode cL_chains 463 = .ok (.aload 6, 2) := by decide +kernel
theorem dL_chains_465 : decode cL_chains 465 = .ok (.iload 7, 2) := by decide +kernel
theorem dL_chains_467 : decode cL_chains 467 = .ok (.iconst 0, 1) := by decide +kernel
theorem dL_chains_468 : decode cL_chains 468 = .ok (.iastore, 1) := by decide +kernel
theorem dL_chains_469 : decode cL_chains 469 = .ok (.aload_n 0, 1) := by decide +kernel
theorem dL_chains_470 : decode cL_chains 470 = .ok (.iload 7, 2) := by decide +kernel
theorem dL_chains_472 : decode cL_chains 472 = .ok (.invokevirtual 56, 3) := by decide +kernel
theorem dL_chains_475 : decode cL_chains 475 = .ok (.iload 9, 2) := by decide +kernel
theorem dL_chains_477 : decode cL_chains 477 = .ok (.if_icmp .ne 7, 3) := by decide +kernel
theorem dL_chains_480 : decode cL_chains 480 = .ok (.iconst 1, 1) := by decide +kernel
theorem dL_chains_481 : decode cL_chains 481 = .ok (.goto 4, 3) := by decide +kernel
theorem dL_chains_484 : decode cL_chains 484 = .ok (.iconst 0, 1) := by decide +kernel
theorem dL_chains_485 : decode cL_chains 485 = .ok (.ireturn, 1) := by decide +kernel
theorem dL_chains_486 : decode cL_chains 486 = .ok (.aload 5, 2) := by decide +kernel
theorem dL_chains_488 : decode cL_chains 488 = .ok (.bipush 6, 2) := by decide +kernel
theorem dL_chains_490 : decode cL_chains 490 = .ok (.iload 7, 2) := by decide +kernel
theorem dL_chains_492 : decode cL_chains 492 = .ok (.imul, 1) := by decide +kernel
theorem dL_chains_493 : decode cL_chains 493 = .ok (.iconst 2, 1) := by decide +kernel
theorem dL_chains_494 : decode cL_chains 494 = .ok (.iadd, 1) := by decide +kernel
theorem dL_chains_495 : decode cL_chains 495 = .ok (.iaload, 1) := by decide +kernel
theorem dL_chains_496 : decode cL_chains 496 = .ok (.aload_n 3, 1) := by decide +kernel
theorem dL_chains_497 : decode cL_chains 497 = .ok (.iconst 2, 1) := by decide +kernel
theorem dL_chains_498 : decode cL_chains 498 = .ok (.iaload, 1) := by decide +kernel
theorem dL_chains_499 : decode cL_chains 499 = .ok (.isub, 1) := by decide +kernel
theorem dL_chains_500 : decode cL_chains 500 = .ok (.istore 9, 2) := by decide +kernel
theorem dL_chains_502 : decode cL_chains 502 = .ok (.aload_n 3, 1) := by decide +kernel
theorem dL_chains_503 : decode cL_chains 503 = .ok (.aload 4, 2) := by decide +kernel
theorem dL_chains_505 : decode cL_chains 505 = .ok (.aload 5, 2) := by decide +kernel
theorem dL_chains_507 : decode cL_chains 507 = .ok (.aload 6, 2) := by decide +kernel
theorem dL_chains_509 : decode cL_chains 509 = .ok (.iload 7, 2) := by decide +kernel
theorem dL_chains_511 : decode cL_chains 511 = .ok (.iload 9, 2) := by decide +kernel
theorem dL_chains_513 : decode cL_chains 513 = .ok (.aload_n 3, 1) := by decide +kernel
theorem dL_chains_514 : decode cL_chains 514 = .ok (.bipush 11, 2) := by decide +kernel
theorem dL_chains_516 : decode cL_chains 516 = .ok (.iaload, 1) := by decide +kernel
theorem dL_chains_517 : decode cL_chains 517 = .ok (.if_icmp .ge 7, 3) := by decide +kernel
theorem dL_chains_520 : decode cL_chains 520 = .ok (.iconst 2, 1) := by decide +kernel
theorem dL_chains_521 : decode cL_chains 521 = .ok (.goto 17, 3) := by decide +kernel
theorem dL_chains_524 : decode cL_chains 524 = .ok (.iload 9, 2) := by decide +kernel
theorem dL_chains_526 : decode cL_chains 526 = .ok (.aload_n 3, 1) := by decide +kernel
theorem dL_chains_527 : decode cL_chains 527 = .ok (.bipush 12, 2) := by decide +kernel
theorem dL_chains_529 : decode cL_chains 529 = .ok (.iaload, 1) := by decide +kernel
theorem dL_chains_530 : decode cL_chains 530 = .ok (.if_icmp .ge 7, 3) := by decide +kernel
theorem dL_chains_533 : decode cL_chains 533 = .ok (.iconst 1, 1) := by decide +kernel
theorem dL_chains_534 : decode cL_chains 534 = .ok (.goto 4, 3) := by decide +kernel
theorem dL_chains_537 : decode cL_chains 537 = .ok (.iconst 0, 1) := by decide +kernel
theorem dL_chains_538 : decode cL_chains 538 = .ok (.invokestatic 34, 3) := by decide +kernel
theorem dL_chains_541 : decode cL_chains 541 = .ok (.istore 10, 2) := by decide +kernel
theorem dL_chains_543 : decode cL_chains 543 = .ok (.aload 5, 2) := by decide +kernel
theorem dL_chains_545 : decode cL_chains 545 = .ok (.bipush 6, 2) := by decide +kernel
theorem dL_chains_547 : decode cL_chains 547 = .ok (.iload 7, 2) := by decide +kernel
theorem dL_chains_549 : decode cL_chains 549 = .ok (.imul, 1) := by decide +kernel
theorem dL_chains_550 : decode cL_chains 550 = .ok (.iconst 4, 1) := by decide +kernel
theorem dL_chains_551 : decode cL_chains 551 = .ok (.iadd, 1) := by decide +kernel
theorem dL_chains_552 : decode cL_chains 552 = .ok (.iconst 3, 1) := by decide +kernel
theorem dL_chains_553 : decode cL_chains 553 = .ok (.iastore, 1) := by decide +kernel
theorem dL_chains_554 : decode cL_chains 554 = .ok (.aload_n 3, 1) := by decide +kernel
theorem dL_chains_555 : decode cL_chains 555 = .ok (.iconst 4, 1) := by decide +kernel
theorem dL_chains_556 : decode cL_chains 556 = .ok (.dup2, 1) := by decide +kernel
theorem dL_chains_557 : decode cL_chains 557 = .ok (.iaload, 1) := by decide +kernel
theorem dL_chains_558 : decode cL_chains 558 = .ok (.iload 10, 2) := by decide +kernel
theorem dL_chains_560 : decode cL_chains 560 = .ok (.iadd, 1) := by decide +kernel
theorem dL_chains_561 : decode cL_chains 561 = .ok (.iastore, 1) := by decide +kernel
theorem dL_chains_562 : decode cL_chains 562 = .ok (.aload_n 0, 1) := by decide +kernel
theorem dL_chains_563 : decode cL_chains 563 = .ok (.iload 7, 2) := by decide +kernel
theorem dL_chains_565 : decode cL_chains 565 = .ok (.invokevirtual 59, 3) := by decide +kernel
theorem dL_chains_568 : decode cL_chains 568 = .ok (.iload 10, 2) := by decide +kernel
theorem dL_chains_570 : decode cL_chains 570 = .ok (.if_icmp .ne 7, 3) := by decide +kernel
theorem dL_chains_573 : decode cL_chains 573 = .ok (.iconst 1, 1) := by decide +kernel
theorem dL_chains_574 : decode cL_chains 574 = .ok (.goto 4, 3) := by decide +kernel
theorem dL_chains_577 : decode cL_chains 577 = .ok (.iconst 0, 1) := by decide +kernel
theorem dL_chains_578 : decode cL_chains 578 = .ok (.ireturn, 1) := by decide +kernel
theorem dL_act_0 : decode cL_act 0 = .ok (.iload_n 1, 1) := by decide +kernel
theorem dL_act_1 : decode cL_act 1 = .ok (.bipush 20, 2) := by decide +kernel
theorem dL_act_3 : decode cL_act 3 = .ok (.ishr, 1) := by decide +kernel
theorem dL_act_4 : decode cL_act 4 = .ok (.bipush 14, 2) := by decide +kernel
theorem dL_act_6 : decode cL_act 6 = .ok (.invokestatic 37, 3) := by decide +kernel
theorem dL_act_9 : decode cL_act 9 = .ok (.istore 7, 2) := by decide +kernel
theorem dL_act_11 : decode cL_act 11 = .ok (.aload_n 3, 1) := by decide +kernel
theorem dL_act_12 : decode cL_act 12 = .ok (.iconst 0, 1) := by decide +kernel
theorem dL_act_13 : decode cL_act 13 = .ok (.iaload, 1) := by decide +kernel
theorem dL_act_14 : decode cL_act 14 = .ok (.iconst 3, 1) := by decide +kernel
theorem dL_act_15 : decode cL_act 15 = .ok (.if_icmp .lt 15, 3) := by decide +kernel
theorem dL_act_18 : decode cL_act 18 = .ok (.iload 7, 2) := by decide +kernel
theorem dL_act_20 : decode cL_act 20 = .ok (.ifCond .ne 161, 3) := by decide +kernel
theorem dL_act_23 : decode cL_act 23 = .ok (.aload_n 3, 1) := by decide +kernel
theorem dL_act_24 : decode cL_act 24 = .ok (.iconst 0, 1) := by decide +kernel
theorem dL_act_25 : decode cL_act 25 = .ok (.iaload, 1) := by decide +kernel
theorem dL_act_26 : decode cL_act 26 = .ok (.iconst 5, 1) := by decide +kernel
theorem dL_act_27 : decode cL_act 27 = .ok (.if_icmp .ge 154, 3) := by decide +kernel
theorem dL_act_30 : decode cL_act 30 = .ok (.bipush 6, 2) := by decide +kernel
theorem dL_act_32 : decode cL_act 32 = .ok (.aload_n 3, 1) := by decide +kernel
theorem dL_act_33 : decode cL_act 33 = .ok (.iconst 0, 1) := by decide +kernel
theorem dL_act_34 : decode cL_act 34 = .ok (.dup2, 1) := by decide +kernel
theorem dL_act_35 : decode cL_act 35 = .ok (.iaload, 1) := by decide +kernel
theorem dL_act_36 : decode cL_act 36 = .ok (.dup_x2, 1) := by decide +kernel
theorem dL_act_37 : decode cL_act 37 = .ok (.iconst 1, 1) := by decide +kernel
theorem dL_act_38 : decode cL_act 38 = .ok (.iadd, 1) := by decide +kernel
theorem dL_act_39 : decode cL_act 39 = .ok (.iastore, 1) := by decide +kernel
theorem dL_act_40 : decode cL_act 40 = .ok (.imul, 1) := by decide +kernel
theorem dL_act_41 : decode cL_act 41 = .ok (.istore 8, 2) := by decide +kernel
theorem dL_act_43 : decode cL_act 43 = .ok (.aload 4, 2) := by decide +kernel
theorem dL_act_45 : decode cL_act 45 = .ok (.iload 8, 2) := by decide +kernel
theorem dL_act_47 : decode cL_act 47 = .ok (.iconst 1, 1) := by decide +kernel
theorem dL_act_48 : decode cL_act 48 = .ok (.iload_n 2, 1) := by decide +kernel
theorem dL_act_49 : decode cL_act 49 = .ok (.iconst 4, 1) := by decide +kernel
theorem dL_act_50 : decode cL_act 50 = .ok (.invokestatic 37, 3) := by decide +kernel
theorem dL_act_53 : decode cL_act 53 = .ok (.ishl, 1) := by decide +kernel
theorem dL_act_54 : decode cL_act 54 = .ok (.iconst 1, 1) := by decide +kernel
theorem dL_act_55 : decode cL_act 55 = .ok (.iconst 4, 1) := by decide +kernel
theorem dL_act_56 : decode cL_act 56 = .ok (.iload_n 2, 1) := by decide +kernel
theorem dL_act_57 : decode cL_act 57 = .ok (.iconst 2, 1) := by decide +kernel
theorem dL_act_58 : decode cL_act 58 = .ok (.ishr, 1) := by decide +kernel
theorem dL_act_59 : decode cL_act 59 = .ok (.iconst 3, 1) := by decide +kernel
theorem dL_act_60 : decode cL_act 60 = .ok (.invokestatic 37, 3) := by decide +kernel
theorem dL_act_63 : decode cL_act 63 = .ok (.iadd, 1) := by decide +kernel
theorem dL_act_64 : decode cL_act 64 = .ok (.ishl, 1) := by decide +kernel
theorem dL_act_65 : decode cL_act 65 = .ok (.ior, 1) := by decide +kernel
theorem dL_act_66 : decode cL_act 66 = .ok (.iload_n 2, 1) := by decide +kernel
theorem dL_act_67 : decode cL_act 67 = .ok (.iconst 4, 1) := by decide +kernel
theorem dL_act_68 : decode cL_act 68 = .ok (.ishr, 1) := by decide +kernel
theorem dL_act_69 : decode cL_act 69 = .ok (.sipush 128, 3) := by decide +kernel
theorem dL_act_72 : decode cL_act 72 = .ok (.invokestatic 37, 3) := by decide +kernel
theorem dL_act_75 : decode cL_act 75 = .ok (.ior, 1) := by decide +kernel
theorem dL_act_76 : decode cL_act 76 = .ok (.iastore, 1) := by decide +kernel
theorem dL_act_77 : decode cL_act 77 = .ok (.aload 4, 2) := by decide +kernel
theorem dL_act_79 : decode cL_act 79 = .ok (.iload 8, 2) := by decide +kernel
theorem dL_act_81 : decode cL_act 81 = .ok (.iconst 1, 1) := by decide +kernel
theorem dL_act_82 : decode cL_act 82 = .ok (.iadd, 1) := by decide +kernel
theorem dL_act_83 : decode cL_act 83 = .ok (.iload_n 2, 1) := by decide +kernel
theorem dL_act_84 : decode cL_act 84 = .ok (.bipush 11, 2) := by decide +kernel
theorem dL_act_86 : decode cL_act 86 = .ok (.ishr, 1) := by decide +kernel
theorem dL_act_87 : decode cL_act 87 = .ok (.iconst 2, 1) := by decide +kernel
theorem dL_act_88 : decode cL_act 88 = .ok (.invokestatic 37, 3) := by decide +kernel
theorem dL_act_91 : decode cL_act 91 = .ok (.ifCond .ne 8, 3) := by decide +kernel
theorem dL_act_94 : decode cL_act 94 = .ok (.bipush 7, 2) := by decide +kernel
theorem dL_act_96 : decode cL_act 96 = .ok (.goto 12, 3) := by decide +kernel
theorem dL_act_99 : decode cL_act 99 = .ok (.iload_n 2, 1) := by decide +kernel
theorem dL_act_100 : decode cL_act 100 = .ok (.bipush 12, 2) := by decide +kernel
theorem dL_act_102 : decode cL_act 102 = .ok (.ishr, 1) := by decide +kernel
theorem dL_act_103 : decode cL_act 103 = .ok (.bipush 8, 2) := by decide +kernel
theorem dL_act_105 : decode cL_act 105 = .ok (.invokestatic 37, 3) := by decide +kernel
theorem dL_act_108 : decode cL_act 108 = .ok (.iastore, 1) := by decide +kernel
theorem dL_act_109 : decode cL_act 109 = .ok (.aload 4, 2) := by decide +kernel
theorem dL_act_111 : decode cL_act 111 = .ok (.iload 8, 2) := by decide +kernel
theorem dL_act_113 : decode cL_act 113 = .ok (.iconst 2, 1) := by decide +kernel
theorem dL_act_114 : decode cL_act 114 = .ok (.iadd, 1) := by decide +kernel
theorem dL_act_115 : decode cL_act 115 = .ok (.iconst 1, 1) := by decide +kernel
theorem dL_act_116 : decode cL_act 116 = .ok (.iload_n 2, 1) := by decide +kernel
theorem dL_act_117 : decode cL_act 117 = .ok (.bipush 15, 2) := by decide +kernel
theorem dL_act_119 : decode cL_act 119 = .ok (.ishr, 1) := by decide +kernel
theorem dL_act_120 : decode cL_act 120 = .ok (.bipush 100, 2) := by decide +kernel
theorem dL_act_122 : decode cL_act 122 = .ok (.invokestatic 37, 3) := by decide +kernel
theorem dL_act_125 : decode cL_act 125 = .ok (.iadd, 1) := by decide +kernel
theorem dL_act_126 : decode cL_act 126 = .ok (.iastore, 1) := by decide +kernel
theorem dL_act_127 : decode cL_act 127 = .ok (.aload_n 3, 1) := by decide +kernel
theorem dL_act_128 : decode cL_act 128 = .ok (.bipush 6, 2) := by decide +kernel
theorem dL_act_130 : decode cL_act 130 = .ok (.iaload, 1) := by decide +kernel
theorem dL_act_131 : decode cL_act 131 = .ok (.bipush 6, 2) := by decide +kernel
theorem dL_act_133 : decode cL_act 133 = .ok (.if_icmp .ge 11, 3) := by decide +kernel
theorem dL_act_136 : decode cL_act 136 = .ok (.aload_n 3, 1) := by decide +kernel
theorem dL_act_137 : decode cL_act 137 = .ok (.bipush 6, 2) := by decide +kernel
theorem dL_act_139 : decode cL_act 139 = .ok (.dup2, 1) := by decide +kernel
theorem dL_act_140 : decode cL_act 140 = .ok (.iaload, 1) := by decide +kernel
theorem dL_act_141 : decode cL_act 141 = .ok (.iconst 1, 1) := by decide +kernel
theorem dL_act_142 : decode cL_act 142 = .ok (.iadd, 1) := by decide +kernel
theorem dL_act_143 : decode cL_act 143 = .ok (.iastore, 1) := by decide +kernel
theorem dL_act_144 : decode cL_act 144 = .ok (.aload_n 0, 1) := by decide +kernel
theorem dL_act_145 : decode cL_act 145 = .ok (.aload 4, 2) := by decide +kernel
theorem dL_act_147 : decode cL_act 147 = .ok (.iload 8, 2) := by decide +kernel
theorem dL_act_149 : decode cL_act 149 = .ok (.iaload, 1) := by decide +kernel
theorem dL_act_150 : decode cL_act 150 = .ok (.aload 4, 2) := by decide +kernel
theorem dL_act_152 : decode cL_act 152 = .ok (.iload 8, 2) := by decide +kernel
theorem dL_act_154 : decode cL_act 154 = .ok (.iconst 1, 1) := by decide +kernel
theorem dL_act_155 : decode cL_act 155 = .ok (.iadd, 1) := by decide +kernel
theorem dL_act_156 : decode cL_act 156 = .ok (.iaload, 1) := by decide +kernel
theorem dL_act_157 : decode cL_act 157 = .ok (.aload 4, 2) := by decide +kernel
theorem dL_act_159 : decode cL_act 159 = .ok (.iload 8, 2) := by decide +kernel
theorem dL_act_161 : decode cL_act 161 = .ok (.iconst 2, 1) := by decide +kernel
theorem dL_act_162 : decode cL_act 162 = .ok (.iadd, 1) := by decide +kernel
theorem dL_act_163 : decode cL_act 163 = .ok (.iaload, 1) := by decide +kernel
theorem dL_act_164 : decode cL_act 164 = .ok (.invokevirtual 62, 3) := by decide +kernel
theorem dL_act_167 : decode cL_act 167 = .ok (.iload 8, 2) := by decide +kernel
theorem dL_act_169 : decode cL_act 169 = .ok (.bipush 6, 2) := by decide +kernel
theorem dL_act_171 : decode cL_act 171 = .ok (.idiv, 1) := by decide +kernel
theorem dL_act_172 : decode cL_act 172 = .ok (.if_icmp .ne 7, 3) := by decide +kernel
theorem dL_act_175 : decode cL_act 175 = .ok (.iconst 1, 1) := by decide +kernel
theorem dL_act_176 : decode cL_act 176 = .ok (.goto 4, 3) := by decide +kernel
theorem dL_act_179 : decode cL_act 179 = .ok (.iconst 0, 1) := by decide +kernel
theorem dL_act_180 : decode cL_act 180 = .ok (.ireturn, 1) := by decide +kernel
theorem dL_act_181 : decode cL_act 181 = .ok (.aload_n 3, 1) := by decide +kernel
theorem dL_act_182 : decode cL_act 182 = .ok (.iconst 1, 1) := by decide +kernel
theorem dL_act_183 : decode cL_act 183 = .ok (.iaload, 1) := by decide +kernel
theorem dL_act_184 : decode cL_act 184 = .ok (.iconst 2, 1) := by decide +kernel
theorem dL_act_185 : decode cL_act 185 = .ok (.if_icmp .lt 17, 3) := by decide +kernel
theorem dL_act_188 : decode cL_act 188 = .ok (.iload 7, 2) := by decide +kernel
theorem dL_act_190 : decode cL_act 190 = .ok (.iconst 3, 1) := by decide +kernel
theorem dL_act_191 : decode cL_act 191 = .ok (.if_icmp .ge 156, 3) := by decide +kernel
theorem dL_act_194 : decode cL_act 194 = .ok (.aload_n 3, 1) := by decide +kernel
theorem dL_act_195 : decode cL_act 195 = .ok (.iconst 1, 1) := by decide +kernel
theorem dL_act_196 : decode cL_act 196 = .ok (.iaload, 1) := by decide +kernel
theorem dL_act_197 : decode cL_act 197 = .ok (.bipush 8, 2) := by decide +kernel
theorem dL_act_199 : decode cL_act 199 = .ok (.if_icmp .ge 148, 3) := by decide +kernel
theorem dL_act_202 : decode cL_act 202 = .ok (.bipush 6, 2) := by decide +kernel
theorem dL_act_204 : decode cL_act 204 = .ok (.aload_n 3, 1) := by decide +kernel
theorem dL_act_205 : decode cL_act 205 = .ok (.iconst 1, 1) := by decide +kernel
theorem dL_act_206 : decode cL_act 206 = .ok (.dup2, 1) := by decide +kernel
theorem dL_act_207 : decode cL_act 207 = .ok (.iaload, 1) := by decide +kernel
theorem dL_act_208 : decode cL_act 208 = .ok (.dup_x2, 1) := by decide +kernel
theorem dL_act_209 : decode cL_act 209 = .ok (.iconst 1, 1) := by decide +kernel
theorem dL_act_210 : decode cL_act 210 = .ok (.iadd, 1) := by decide +kernel
theorem dL_act_211 : decode cL_act 211 = .ok (.iastore, 1) := by decide +kernel
theorem dL_act_212 : decode cL_act 212 = .ok (.imul, 1) := by decide +kernel
theorem dL_act_213 : decode cL_act 213 = .ok (.istore 8, 2) := by decide +kernel
theorem dL_act_215 : decode cL_act 215 = .ok (.aload 5, 2) := by decide +kernel
theorem dL_act_217 : decode cL_act 217 = .ok (.iload 8, 2) := by decide +kernel
theorem dL_act_219 : decode cL_act 219 = .ok (.iload_n 2, 1) := by decide +kernel
theorem dL_act_220 : decode cL_act 220 = .ok (.iconst 3, 1) := by decide +kernel
theorem dL_act_221 : decode cL_act 221 = .ok (.invokestatic 37, 3) := by decide +kernel
theorem dL_act_224 : decode cL_act 224 = .ok (.iastore, 1) := by decide +kernel
theorem dL_act_225 : decode cL_act 225 = .ok (.aload 5, 2) := by decide +kernel
theorem dL_act_227 : decode cL_act 227 = .ok (.iload 8, 2) := by decide +kernel
theorem dL_act_229 : decode cL_act 229 = .ok (.iconst 1, 1) := by decide +kernel
theorem dL_act_230 : decode cL_act 230 = .ok (.iadd, 1) := by decide +kernel
theorem dL_act_231 : decode cL_act 231 = .ok (.iconst 1, 1) := by decide +kernel
theorem dL_act_232 : decode cL_act 232 = .ok (.iload_n 2, 1) := by decide +kernel
theorem dL_act_233 : decode cL_act 233 = .ok (.iconst 2, 1) := by decide +kernel
theorem dL_act_234 : decode cL_act 234 = .ok (.ishr, 1) := by decide +kernel
theorem dL_act_235 : decode cL_act 235 = .ok (.bipush 6, 2) := by decide +kernel
theorem dL_act_237 : decode cL_act 237 = .ok (.invokestatic 37, 3) := by decide +kernel
theorem dL_act_240 : decode cL_act 240 = .ok (.iadd, 1) := by decide +kernel
theorem dL_act_241 : decode cL_act 241 = .ok (.iastore, 1) := by decide +kernel
theorem dL_act_242 : decode cL_act 242 = .ok (.aload 5, 2) := by decide +kernel
theorem dL_act_244 : decode cL_act 244 = .ok (.iload 8, 2) := by decide +kernel
theorem dL_act_246 : decode cL_act 246 = .ok (.iconst 2, 1) := by decide +kernel
theorem dL_act_247 : decode cL_act 247 = .ok (.iadd, 1) := by decide +kernel
theorem dL_act_248 : decode cL_act 248 = .ok (.aload_n 3, 1) := by decide +kernel
theorem dL_act_249 : decode cL_act 249 = .ok (.iconst 2, 1) := by decide +kernel
theorem dL_act_250 : decode cL_act 250 = .ok (.iaload, 1) := by decide +kernel
theorem dL_act_251 : decode cL_act 251 = .ok (.iconst 1, 1) := by decide +kernel
theorem dL_act_252 : decode cL_act 252 = .ok (.iadd, 1) := by decide +kernel
theorem dL_act_253 : decode cL_act 253 = .ok (.iload_n 2, 1) := by decide +kernel
theorem dL_act_254 : decode cL_act 254 = .ok (.iconst 5, 1) := by decide +kernel
theorem dL_act_255 : decode cL_act 255 = .ok (.ishr, 1) := by decide +kernel
theorem dL_act_256 : decode cL_act 256 = .ok (.bipush 60, 2) := by decide +kernel
theorem dL_act_258 : decode cL_act 258 = .ok (.invokestatic 37, 3) := by decide +kernel
theorem dL_act_261 : decode cL_act 261 = .ok (.iadd, 1) := by decide +kernel
theorem dL_act_262 : decode cL_act 262 = .ok (.iastore, 1) := by decide +kernel
theorem dL_act_263 : decode cL_act 263 = .ok (.aload 5, 2) := by decide +kernel
theorem dL_act_265 : decode cL_act 265 = .ok (.iload 8, 2) := by decide +kernel
theorem dL_act_267 : decode cL_act 267 = .ok (.iconst 3, 1) := by decide +kernel
theorem dL_act_268 : decode cL_act 268 = .ok (.iadd, 1) := by decide +kernel
theorem dL_act_269 : decode cL_act 269 = .ok (.bipush 10, 2) := by decide +kernel
theorem dL_act_271 : decode cL_act 271 = .ok (.iload_n 2, 1) := by decide +kernel
theorem dL_act_272 : decode cL_act 272 = .ok (.bipush 11, 2) := by decide +kernel
theorem dL_act_274 : decode cL_act 274 = .ok (.ishr, 1) := by decide +kernel
theorem dL_act_275 : decode cL_act 275 = .ok (.bipush 50, 2) := by decide +kernel
theorem dL_act_277 : decode cL_act 277 = .ok (.invokestatic 37, 3) := by decide +kernel
theorem dL_act_280 : decode cL_act 280 = .ok (.iadd, 1) := by decide +kernel
theorem dL_act_281 : decode cL_act 281 = .ok (.iastore, 1) := by decide +kernel
theorem dL_act_282 : decode cL_act 282 = .ok (.aload_n 3, 1) := by decide +kernel
theorem dL_act_283 : decode cL_act 283 = .ok (.bipush 6, 2) := by decide +kernel
theorem dL_act_285 : decode cL_act 285 = .ok (.iaload, 1) := by decide +kernel
theorem dL_act_286 : decode cL_act 286 = .ok (.bipush 6, 2) := by decide +kernel
theorem dL_act_288 : decode cL_act 288 = .ok (.if_icmp .ge 11, 3) := by decide +kernel
theorem dL_act_291 : decode cL_act 291 = .ok (.aload_n 3, 1) := by decide +kernel
theorem dL_act_292 : decode cL_act 292 = .ok (.bipush 6, 2) := by decide +kernel
theorem dL_act_294 : decode cL_act 294 = .ok (.dup2, 1) := by decide +kernel
theorem dL_act_295 : decode cL_act 295 = .ok (.iaload, 1) := by decide +kernel
theorem dL_act_296 : decode cL_act 296 = .ok (.iconst 1, 1) := by decide +kernel
theorem dL_act_297 : decode cL_act 297 = .ok (.iadd, 1) := by decide +kernel
theorem dL_act_298 : decode cL_act 298 = .ok (.iastore, 1) := by decide +kernel
theorem dL_act_299 : decode cL_act 299 = .ok (.aload_n 0, 1) := by decide +kernel
theorem dL_act_300 : decode cL_act 300 = .ok (.aload 5, 2) := by decide +kernel
theorem dL_act_302 : decode cL_act 302 = .ok (.iload 8, 2) := by decide +kernel
theorem dL_act_304 : decode cL_act 304 = .ok (.iaload, 1) := by decide +kernel
theorem dL_act_305 : decode cL_act 305 = .ok (.aload 5, 2) := by decide +kernel
theorem dL_act_307 : decode cL_act 307 = .ok (.iload 8, 2) := by decide +kernel
theorem dL_act_309 : decode cL_act 309 = .ok (.iconst 1, 1) := by decide +kernel
theorem dL_act_310 : decode cL_act 310 = .ok (.iadd, 1) := by decide +kernel
theorem dL_act_311 : decode cL_act 311 = .ok (.iaload, 1) := by decide +kernel
theorem dL_act_312 : decode cL_act 312 = .ok (.aload 5, 2) := by decide +kernel
theorem dL_act_314 : decode cL_act 314 = .ok (.iload 8, 2) := by decide +kernel
theorem dL_act_316 : decode cL_act 316 = .ok (.iconst 2, 1) := by decide +kernel
theorem dL_act_317 : decode cL_act 317 = .ok (.iadd, 1) := by decide +kernel
theorem dL_act_318 : decode cL_act 318 = .ok (.iaload, 1) := by decide +kernel
theorem dL_act_319 : decode cL_act 319 = .ok (.aload_n 3, 1) := by decide +kernel
theorem dL_act_320 : decode cL_act 320 = .ok (.iconst 2, 1) := by decide +kernel
theorem dL_act_321 : decode cL_act 321 = .ok (.iaload, 1) := by decide +kernel
theorem dL_act_322 : decode cL_act 322 = .ok (.isub, 1) := by decide +kernel
theorem dL_act_323 : decode cL_act 323 = .ok (.aload 5, 2) := by decide +kernel
theorem dL_act_325 : decode cL_act 325 = .ok (.iload 8, 2) := by decide +kernel
theorem dL_act_327 : decode cL_act 327 = .ok (.iconst 3, 1) := by decide +kernel
theorem dL_act_328 : decode cL_act 328 = .ok (.iadd, 1) := by decide +kernel
theorem dL_act_329 : decode cL_act 329 = .ok (.iaload, 1) := by decide +kernel
theorem dL_act_330 : decode cL_act 330 = .ok (.invokevirtual 65, 3) := by decide +kernel
theorem dL_act_333 : decode cL_act 333 = .ok (.iload 8, 2) := by decide +kernel
theorem dL_act_335 : decode cL_act 335 = .ok (.bipush 6, 2) := by decide +kernel
theorem dL_act_337 : decode cL_act 337 = .ok (.idiv, 1) := by decide +kernel
theorem dL_act_338 : decode cL_act 338 = .ok (.if_icmp .ne 7, 3) := by decide +kernel
theorem dL_act_341 : decode cL_act 341 = .ok (.iconst 1, 1) := by decide +kernel
theorem dL_act_342 : decode cL_act 342 = .ok (.goto 4, 3) := by decide +kernel
theorem dL_act_345 : decode cL_act 345 = .ok (.iconst 0, 1) := by decide +kernel
theorem dL_act_346 : decode cL_act 346 = .ok (.ireturn, 1) := by decide +kernel
theorem dL_act_347 : decode cL_act 347 = .ok (.iload 7, 2) := by decide +kernel
theorem dL_act_349 : decode cL_act 349 = .ok (.bipush 10, 2) := by decide +kernel
theorem dL_act_351 : decode cL_act 351 = .ok (.if_icmp .ge 17, 3) := by decide +kernel
theorem dL_act_354 : decode cL_act 354 = .ok (.aload_n 0, 1) := by decide +kernel
theorem dL_act_355 : decode cL_act 355 = .ok (.iload_n 1, 1) := by decide +kernel
theorem dL_act_356 : decode cL_act 356 = .ok (.iload_n 2, 1) := by decide +kernel
theorem dL_act_357 : decode cL_act 357 = .ok (.aload_n 3, 1) := by decide +kernel
theorem dL_act_358 : decode cL_act 358 = .ok (.aload 4, 2) := by decide +kernel
theorem dL_act_360 : decode cL_act 360 = .ok (.aload 5, 2) := by decide +kernel
theorem dL_act_362 : decode cL_act 362 = .ok (.aload 6, 2) := by decide +kernel
theorem dL_act_364 : decode cL_act 364 = .ok (.invokestatic 68, 3) := by decide +kernel
theorem dL_act_367 : decode cL_act 367 = .ok (.ireturn, 1) := by decide +kernel
theorem dL_act_368 : decode cL_act 368 = .ok (.iload 7, 2) := by decide +kernel
theorem dL_act_370 : decode cL_act 370 = .ok (.bipush 10, 2) := by decide +kernel
theorem dL_act_372 : decode cL_act 372 = .ok (.if_icmp .ne 86, 3) := by decide +kernel
theorem dL_act_375 : decode cL_act 375 = .ok (.iload_n 2, 1) := by decide +kernel
theorem dL_act_376 : decode cL_act 376 = .ok (.aload_n 3, 1) := by decide +kernel
theorem dL_act_377 : decode cL_act 377 = .ok (.iconst 0, 1) := by decide +kernel
theorem dL_act_378 : decode cL_act 378 = .ok (.iaload, 1) := by decide +kernel
theorem dL_act_379 : decode cL_act 379 = .ok (.invokestatic 37, 3) := by decide +kernel
theorem dL_act_382 : decode cL_act 382 = .ok (.istore 8, 2) := by decide +kernel
theorem dL_act_384 : decode cL_act 384 = .ok (.aload 4, 2) := by decide +kernel
theorem dL_act_386 : decode cL_act 386 = .ok (.bipush 6, 2) := by decide +kernel
theorem dL_act_388 : decode cL_act 388 = .ok (.iload 8, 2) := by decide +kernel
theorem dL_act_390 : decode cL_act 390 = .ok (.imul, 1) := by decide +kernel
theorem dL_act_391 : decode cL_act 391 = .ok (.iconst 1, 1) := by decide +kernel
theorem dL_act_392 : decode cL_act 392 = .ok (.iadd, 1) := by decide +kernel
theorem dL_act_393 : decode cL_act 393 = .ok (.iaload, 1) := by decide +kernel
theorem dL_act_394 : decode cL_act 394 = .ok (.istore 9, 2) := by decide +kernel
theorem dL_act_396 : decode cL_act 396 = .ok (.aload 4, 2) := by decide +kernel
theorem dL_act_398 : decode cL_act 398 = .ok (.bipush 6, 2) := by decide +kernel
theorem dL_act_400 : decode cL_act 400 = .ok (.iload 8, 2) := by decide +kernel
theorem dL_act_402 : decode cL_act 402 = .ok (.imul, 1) := by decide +kernel
theorem dL_act_403 : decode cL_act 403 = .ok (.iconst 1, 1) := by decide +kernel
theorem dL_act_404 : decode cL_act 404 = .ok (.iadd, 1) := by decide +kernel
theorem dL_act_405 : decode cL_act 405 = .ok (.iload_n 2, 1) := by decide +kernel
theorem dL_act_406 : decode cL_act 406 = .ok (.iconst 4, 1) := by decide +kernel
theorem dL_act_407 : decode cL_act 407 = .ok (.ishr, 1) := by decide +kernel
theorem dL_act_408 : decode cL_act 408 = .ok (.bipush 8, 2) := by decide +kernel
theorem dL_act_410 : decode cL_act 410 = .ok (.invokestatic 37, 3) := by decide +kernel
theorem dL_act_413 : decode cL_act 413 = .ok (.iastore, 1) := by decide +kernel
theorem dL_act_414 : decode cL_act 414 = .ok (.aload_n 3, 1) := by decide +kernel
theorem dL_act_415 : decode cL_act 415 = .ok (.bipush 6, 2) := by decide +kernel
theorem dL_act_417 : decode cL_act 417 = .ok (.iaload, 1) := by decide +kernel
theorem dL_act_418 : decode cL_act 418 = .ok (.bipush 6, 2) := by decide +kernel
theorem dL_act_420 : decode cL_act 420 = .ok (.if_icmp .ge 11, 3) := by decide +kernel
theorem dL_act_423 : decode cL_act 423 = .ok (.aload_n 3, 1) := by decide +kernel
theorem dL_act_424 : decode cL_act 424 = .ok (.bipush 6, 2) := by decide +kernel
theorem dL_act_426 : decode cL_act 426 = .ok (.dup2, 1) := by decide +kernel
theorem dL_act_427 : decode cL_act 427 = .ok (.iaload, 1) := by decide +kernel
theorem dL_act_428 : decode cL_act 428 = .ok (.iconst 1, 1) := by decide +kernel
theorem dL_act_429 : decode cL_act 429 = .ok (.iadd, 1) := by decide +kernel
theorem dL_act_430 : decode cL_act 430 = .ok (.iastore, 1) := by decide +kernel
theorem dL_act_431 : decode cL_act 431 = .ok (.aload_n 0, 1) := by decide +kernel
theorem dL_act_432 : decode cL_act 432 = .ok (.iload 8, 2) := by decide +kernel
theorem dL_act_434 : decode cL_act 434 = .ok (.aload 4, 2) := by decide +kernel
theorem dL_act_436 : decode cL_act 436 = .ok (.bipush 6, 2) := by decide +kernel
theorem dL_act_438 : decode cL_act 438 = .ok (.iload 8, 2) := by decide +kernel
theorem dL_act_440 : decode cL_act 440 = .ok (.imul, 1) := by decide +kernel
theorem dL_act_441 : decode cL_act 441 = .ok (.iconst 1, 1) := by decide +kernel
theorem dL_act_442 : decode cL_act 442 = .ok (.iadd, 1) := by decide +kernel
theorem dL_act_443 : decode cL_act 443 = .ok (.iaload, 1) := by decide +kernel
theorem dL_act_444 : decode cL_act 444 = .ok (.invokevirtual 72, 3) := by decide +kernel
theorem dL_act_447 : decode cL_act 447 = .ok (.iload 9, 2) := by decide +kernel
theorem dL_act_449 : decode cL_act 449 = .ok (.if_icmp .ne 7, 3) := by decide +kernel
theorem dL_act_452 : decode cL_act 452 = .ok (.iconst 1, 1) := by decide +kernel
theorem dL_act_453 : decode cL_act 453 = .ok (.goto 4, 3) := by decide +kernel
theorem dL_act_456 : decode cL_act 456 = .ok (.iconst 0, 1) := by decide +kernel
theorem dL_act_457 : decode cL_act 457 = .ok (.ireturn, 1) := by decide +kernel
theorem dL_act_458 : decode cL_act 458 = .ok (.aload_n 3, 1) := by decide +kernel
theorem dL_act_459 : decode cL_act 459 = .ok (.bipush 6, 2) := by decide +kernel
theorem dL_act_461 : decode cL_act 461 = .ok (.iaload, 1) := by decide +kernel
theorem dL_act_462 : decode cL_act 462 = .ok (.bipush 6, 2) := by decide +kernel
theorem dL_act_464 : decode cL_act 464 = .ok (.if_icmp .ge 11, 3) := by decide +kernel
theorem dL_act_467 : decode cL_act 467 = .ok (.aload_n 3, 1) := by decide +kernel
theorem dL_act_468 : decode cL_act 468 = .ok (.bipush 6, 2) := by decide +kernel
theorem dL_act_470 : decode cL_act 470 = .ok (.dup2, 1) := by decide +kernel
theorem dL_act_471 : decode cL_act 471 = .ok (.iaload, 1) := by decide +kernel
theorem dL_act_472 : decode cL_act 472 = .ok (.iconst 1, 1) := by decide +kernel
theorem dL_act_473 : decode cL_act 473 = .ok (.iadd, 1) := by decide +kernel
theorem dL_act_474 : decode cL_act 474 = .ok (.iastore, 1) := by decide +kernel
theorem dL_act_475 : decode cL_act 475 = .ok (.iload 7, 2) := by decide +kernel
theorem dL_act_477 : decode cL_act 477 = .ok (.bipush 11, 2) := by decide +kernel
theorem dL_act_479 : decode cL_act 479 = .ok (.if_icmp .ne 112, 3) := by decide +kernel
theorem dL_act_482 : decode cL_act 482 = .ok (.iload_n 2, 1) := by decide +kernel
theorem dL_act_483 : decode cL_act 483 = .ok (.bipush 7, 2) := by decide +kernel
theorem dL_act_485 : decode cL_act 485 = .ok (.invokestatic 37, 3) := by decide +kernel
theorem dL_act_488 : decode cL_act 488 = .ok (.istore 8, 2) := by decide +kernel
theorem dL_act_490 : decode cL_act 490 = .ok (.aload_n 3, 1) := by decide +kernel
theorem dL_act_491 : decode cL_act 491 = .ok (.bipush 7, 2) := by decide +kernel
theorem dL_act_493 : decode cL_act 493 = .ok (.iload 8, 2) := by decide +kernel
theorem dL_act_495 : decode cL_act 495 = .ok (.iadd, 1) := by decide +kernel
theorem dL_act_496 : decode cL_act 496 = .ok (.iaload, 1) := by decide +kernel
theorem dL_act_497 : decode cL_act 497 = .ok (.istore 9, 2) := by decide +kernel
theorem dL_act_499 : decode cL_act 499 = .ok (.aload_n 3, 1) := by decide +kernel
theorem dL_act_500 : decode cL_act 500 = .ok (.bipush 7, 2) := by decide +kernel
theorem dL_act_502 : decode cL_act 502 = .ok (.iload 8, 2) := by decide +kernel
theorem dL_act_504 : decode cL_act 504 = .ok (.iadd, 1) := by decide +kernel
theorem dL_act_505 : decode cL_act 505 = .ok (.iload 8, 2) := by decide +kernel
theorem dL_act_507 : decode cL_act 507 = .ok (.iconst 3, 1) := by decide +kernel
theorem dL_act_508 : decode cL_act 508 = .ok (.if_icmp .ge 14, 3) := by decide +kernel
theorem dL_act_511 : decode cL_act 511 = .ok (.iload_n 2, 1) := by decide +kernel
theorem dL_act_512 : decode cL_act 512 = .ok (.iconst 3, 1) := by decide +kernel
theorem dL_act_513 : decode cL_act 513 = .ok (.ishr, 1) := by decide +kernel
theorem dL_act_514 : decode cL_act 514 = .ok (.bipush 21, 2) := by decide +kernel
theorem dL_act_516 : decode cL_act 516 = .ok (.invokestatic 37, 3) := by decide +kernel
theorem dL_act_519 : decode cL_act 519 = .ok (.goto 47, 3) := by decide +kernel
theorem dL_act_522 : decode cL_act 522 = .ok (.iload 8, 2) := by decide +kernel
theorem dL_act_524 : decode cL_act 524 = .ok (.iconst 3, 1) := by decide +kernel
theorem dL_act_525 : decode cL_act 525 = .ok (.if_icmp .ne 15, 3) := by decide +kernel
theorem dL_act_528 : decode cL_act 528 = .ok (.iload_n 2, 1) := by decide +kernel
theorem dL_act_529 : decode cL_act 529 = .ok (.iconst 3, 1) := by decide +kernel
theorem dL_act_530 : decode cL_act 530 = .ok (.ishr, 1) := by decide +kernel
theorem dL_act_531 : decode cL_act 531 = .ok (.sipush 300, 3) := by decide +kernel
theorem dL_act_534 : decode cL_act 534 = .ok (.invokestatic 37, 3) := by decide +kernel
theorem dL_act_537 : decode cL_act 537 = .ok (.goto 29, 3) := by decide +kernel
theorem dL_act_540 : decode cL_act 540 = .ok (.iload 8, 2) := by decide +kernel
theorem dL_act_542 : decode cL_act 542 = .ok (.bipush 6, 2) := by decide +kernel
theorem dL_act_544 : decode cL_act 544 = .ok (.if_icmp .ge 14, 3) := by decide +kernel
theorem dL_act_547 : decode cL_act 547 = .ok (.iload_n 2, 1) := by decide +kernel
theorem dL_act_548 : decode cL_act 548 = .ok (.iconst 3, 1) := by decide +kernel
theorem dL_act_549 : decode cL_act 549 = .ok (.ishr, 1) := by decide +kernel
theorem dL_act_550 : decode cL_act 550 = .ok (.bipush 80, 2) := by decide +kernel
theorem dL_act_552 : decode cL_act 552 = .ok (.invokestatic 37, 3) := by decide +kernel
theorem dL_act_555 : decode cL_act 555 = .ok (.goto 11, 3) := by decide +kernel
theorem dL_act_558 : decode cL_act 558 = .ok (.iload_n 2, 1) := by decide +kernel
theorem dL_act_559 : decode cL_act 559 = .ok (.iconst 3, 1) := by decide +kernel
theorem dL_act_560 : decode cL_act 560 = .ok (.ishr, 1) := by decide +kernel
theorem dL_act_561 : decode cL_act 561 = .ok (.bipush 101, 2) := by decide +kernel
theorem dL_act_563 : decode cL_act 563 = .ok (.invokestatic 37, 3) := by decide +kernel
theorem dL_act_566 : decode cL_act 566 = .ok (.iastore, 1) := by decide +kernel
theorem dL_act_567 : decode cL_act 567 = .ok (.aload_n 0, 1) := by decide +kernel
theorem dL_act_568 : decode cL_act 568 = .ok (.iload 8, 2) := by decide +kernel
theorem dL_act_570 : decode cL_act 570 = .ok (.aload_n 3, 1) := by decide +kernel
theorem dL_act_571 : decode cL_act 571 = .ok (.bipush 7, 2) := by decide +kernel
theorem dL_act_573 : decode cL_act 573 = .ok (.iload 8, 2) := by decide +kernel
theorem dL_act_575 : decode cL_act 575 = .ok (.iadd, 1) := by decide +kernel
theorem dL_act_576 : decode cL_act 576 = .ok (.iaload, 1) := by decide +kernel
theorem dL_act_577 : decode cL_act 577 = .ok (.invokevirtual 75, 3) := by decide +kernel
theorem dL_act_580 : decode cL_act 580 = .ok (.iload 9, 2) := by decide +kernel
theorem dL_act_582 : decode cL_act 582 = .ok (.if_icmp .ne 7, 3) := by decide +kernel
theorem dL_act_585 : decode cL_act 585 = .ok (.iconst 1, 1) := by decide +kernel
theorem dL_act_586 : decode cL_act 586 = .ok (.goto 4, 3) := by decide +kernel
theorem dL_act_589 : decode cL_act 589 = .ok (.iconst 0, 1) := by decide +kernel
theorem dL_act_590 : decode cL_act 590 = .ok (.ireturn, 1) := by decide +kernel
theorem dL_act_591 : decode cL_act 591 = .ok (.iconst 1, 1) := by decide +kernel
theorem dL_act_592 : decode cL_act 592 = .ok (.iload_n 2, 1) := by decide +kernel
theorem dL_act_593 : decode cL_act 593 = .ok (.bipush 40, 2) := by decide +kernel
theorem dL_act_595 : decode cL_act 595 = .ok (.invokestatic 37, 3) := by decide +kernel
theorem dL_act_598 : decode cL_act 598 = .ok (.iadd, 1) := by decide +kernel
theorem dL_act_599 : decode cL_act 599 = .ok (.istore 8, 2) := by decide +kernel
theorem dL_act_601 : decode cL_act 601 = .ok (.iconst 0, 1) := by decide +kernel
theorem dL_act_602 : decode cL_act 602 = .ok (.istore 9, 2) := by decide +kernel
theorem dL_act_604 : decode cL_act 604 = .ok (.iconst 0, 1) := by decide +kernel
theorem dL_act_605 : decode cL_act 605 = .ok (.istore 10, 2) := by decide +kernel
theorem dL_act_607 : decode cL_act 607 = .ok (.iload 10, 2) := by decide +kernel
theorem dL_act_609 : decode cL_act 609 = .ok (.iload 8, 2) := by decide +kernel
theorem dL_act_611 : decode cL_act 611 = .ok (.if_icmp .ge 24, 3) := by decide +kernel
theorem dL_act_614 : decode cL_act 614 = .ok (.iload 9, 2) := by decide +kernel
theorem dL_act_616 : decode cL_act 616 = .ok (.aload_n 3, 1) := by decide +kernel
theorem dL_act_617 : decode cL_act 617 = .ok (.aload 4, 2) := by decide +kernel
theorem dL_act_619 : decode cL_act 619 = .ok (.aload 5, 2) := by decide +kernel
theorem dL_act_621 : decode cL_act 621 = .ok (.aload 6, 2) := by decide +kernel
theorem dL_act_623 : decode cL_act 623 = .ok (.invokestatic 78, 3) := by decide +kernel
theorem dL_act_626 : decode cL_act 626 = .ok (.iadd, 1) := by decide +kernel
theorem dL_act_627 : decode cL_act 627 = .ok (.istore 9, 2) := by decide +kernel
theorem dL_act_629 : decode cL_act 629 = .ok (.iinc 10 1, 3) := by decide +kernel
theorem dL_act_632 : decode cL_act 632 = .ok (.goto (-25), 3) := by decide +kernel
theorem dL_act_635 : decode cL_act 635 = .ok (.aload_n 0, 1) := by decide +kernel
theorem dL_act_636 : decode cL_act 636 = .ok (.iload 8, 2) := by decide +kernel
theorem dL_act_638 : decode cL_act 638 = .ok (.invokevirtual 82, 3) := by decide +kernel
theorem dL_act_641 : decode cL_act 641 = .ok (.iload 9, 2) := by decide +kernel
theorem dL_act_643 : decode cL_act 643 = .ok (.if_icmp .ne 7, 3) := by decide +kernel
theorem dL_act_646 : decode cL_act 646 = .ok (.iconst 1, 1) := by decide +kernel
theorem dL_act_647 : decode cL_act 647 = .ok (.goto 4, 3) := by decide +kernel
theorem dL_act_650 : decode cL_act 650 = .ok (.iconst 0, 1) := by decide +kernel
theorem dL_act_651 : decode cL_act 651 = .ok (.ireturn, 1) := by decide +kernel
theorem dL_agree_0 : decode cL_agree 0 = .ok (.iconst 0, 1) := by decide +kernel
theorem dL_agree_1 : decode cL_agree 1 = .ok (.istore 5, 2) := by decide +kernel
theorem dL_agree_3 : decode cL_agree 3 = .ok (.iload 5, 2) := by decide +kernel
theorem dL_agree_5 : decode cL_agree 5 = .ok (.aload_n 1, 1) := by decide +kernel
theorem dL_agree_6 : decode cL_agree 6 = .ok (.iconst 0, 1) := by decide +kernel
theorem dL_agree_7 : decode cL_agree 7 = .ok (.iaload, 1) := by decide +kernel
theorem dL_agree_8 : decode cL_agree 8 = .ok (.if_icmp .ge 88, 3) := by decide +kernel
theorem dL_agree_11 : decode cL_agree 11 = .ok (.aload_n 0, 1) := by decide +kernel
theorem dL_agree_12 : decode cL_agree 12 = .ok (.iload 5, 2) := by decide +kernel
theorem dL_agree_14 : decode cL_agree 14 = .ok (.iconst 1, 1) := by decide +kernel
theorem dL_agree_15 : decode cL_agree 15 = .ok (.invokevirtual 85, 3) := by decide +kernel
theorem dL_agree_18 : decode cL_agree 18 = .ok (.aload_n 2, 1) := by decide +kernel
theorem dL_agree_19 : decode cL_agree 19 = .ok (.bipush 6, 2) := by decide +kernel
theorem dL_agree_21 : decode cL_agree 21 = .ok (.iload 5, 2) := by decide +kernel
theorem dL_agree_23 : decode cL_agree 23 = .ok (.imul, 1) := by decide +kernel
theorem dL_agree_24 : decode cL_agree 24 = .ok (.iconst 1, 1) := by decide +kernel
theorem dL_agree_25 : decode cL_agree 25 = .ok (.iadd, 1) := by decide +kernel
theorem dL_agree_26 : decode cL_agree 26 = .ok (.iaload, 1) := by decide +kernel
theorem dL_agree_27 : decode cL_agree 27 = .ok (.if_icmp .ne 61, 3) := by decide +kernel
theorem dL_agree_30 : decode cL_agree 30 = .ok (.aload_n 0, 1) := by decide +kernel
theorem dL_agree_31 : decode cL_agree 31 = .ok (.iload 5, 2) := by decide +kernel
theorem dL_agree_33 : decode cL_agree 33 = .ok (.iconst 3, 1) := by decide +kernel
theorem dL_agree_34 : decode cL_agree 34 = .ok (.invokevirtual 85, 3) := by decide +kernel
theorem dL_agree_37 : decode cL_agree 37 = .ok (.aload_n 2, 1) := by decide +kernel
theorem dL_agree_38 : decode cL_agree 38 = .ok (.bipush 6, 2) := by decide +kernel
theorem dL_agree_40 : decode cL_agree 40 = .ok (.iload 5, 2) := by decide +kernel
theorem dL_agree_42 : decode cL_agree 42 = .ok (.imul, 1) := by decide +kernel
theorem dL_agree_43 : decode cL_agree 43 = .ok (.iconst 3, 1) := by decide +kernel
theorem dL_agree_44 : decode cL_agree 44 = .ok (.iadd, 1) := by decide +kernel
theorem dL_agree_45 : decode cL_agree 45 = .ok (.iaload, 1) := by decide +kernel
theorem dL_agree_46 : decode cL_agree 46 = .ok (.if_icmp .ne 42, 3) := by decide +kernel
theorem dL_agree_49 : decode cL_agree 49 = .ok (.aload_n 0, 1) := by decide +kernel
theorem dL_agree_50 : decode cL_agree 50 = .ok (.iload 5, 2) := by decide +kernel
theorem dL_agree_52 : decode cL_agree 52 = .ok (.iconst 4, 1) := by decide +kernel
theorem dL_agree_53 : decode cL_agree 53 = .ok (.invokevirtual 85, 3) := by decide +kernel
theorem dL_agree_56 : decode cL_agree 56 = .ok (.aload_n 2, 1) := by decide +kernel
theorem dL_agree_57 : decode cL_agree 57 = .ok (.bipush 6, 2) := by decide +kernel
theorem dL_agree_59 : decode cL_agree 59 = .ok (.iload 5, 2) := by decide +kernel
theorem dL_agree_61 : decode cL_agree 61 = .ok (.imul, 1) := by decide +kernel
theorem dL_agree_62 : decode cL_agree 62 = .ok (.iconst 4, 1) := by decide +kernel
theorem dL_agree_63 : decode cL_agree 63 = .ok (.iadd, 1) := by decide +kernel
theorem dL_agree_64 : decode cL_agree 64 = .ok (.iaload, 1) := by decide +kernel
theorem dL_agree_65 : decode cL_agree 65 = .ok (.if_icmp .ne 23, 3) := by decide +kernel
theorem dL_agree_68 : decode cL_agree 68 = .ok (.aload_n 0, 1) := by decide +kernel
theorem dL_agree_69 : decode cL_agree 69 = .ok (.iload 5, 2) := by decide +kernel
theorem dL_agree_71 : decode cL_agree 71 = .ok (.bipush 7, 2) := by decide +kernel
theorem dL_agree_73 : decode cL_agree 73 = .ok (.invokevirtual 85, 3) := by decide +kernel
theorem dL_agree_76 : decode cL_agree 76 = .ok (.aload_n 2, 1) := by decide +kernel
theorem dL_agree_77 : decode cL_agree 77 = .ok (.bipush 6, 2) := by decide +kernel
theorem dL_agree_79 : decode cL_agree 79 = .ok (.iload 5, 2) := by decide +kernel
theorem dL_agree_81 : decode cL_agree 81 = .ok (.imul, 1) := by decide +kernel
theorem dL_agree_82 : decode cL_agree 82 = .ok (.iconst 5, 1) := by decide +kernel
theorem dL_agree_83 : decode cL_agree 83 = .ok (.iadd, 1) := by decide +kernel
theorem dL_agree_84 : decode cL_agree 84 = .ok (.iaload, 1) := by decide +kernel
theorem dL_agree_85 : decode cL_agree 85 = .ok (.if_icmp .eq 5, 3) := by decide +kernel
theorem dL_agree_88 : decode cL_agree 88 = .ok (.iconst 0, 1) := by decide +kernel
theorem dL_agree_89 : decode cL_agree 89 = .ok (.ireturn, 1) := by decide +kernel
theorem dL_agree_90 : decode cL_agree 90 = .ok (.iinc 5 1, 3) := by decide +kernel
theorem dL_agree_93 : decode cL_agree 93 = .ok (.goto (-90), 3) := by decide +kernel
theorem dL_agree_96 : decode cL_agree 96 = .ok (.iconst 0, 1) := by decide +kernel
theorem dL_agree_97 : decode cL_agree 97 = .ok (.istore 5, 2) := by decide +kernel
theorem dL_agree_99 : decode cL_agree 99 = .ok (.iconst 0, 1) := by decide +kernel
theorem dL_agree_100 : decode cL_agree 100 = .ok (.istore 6, 2) := by decide +kernel
theorem dL_agree_102 : decode cL_agree 102 = .ok (.iconst 0, 1) := by decide +kernel
theorem dL_agree_103 : decode cL_agree 103 = .ok (.istore 7, 2) := by decide +kernel
theorem dL_agree_105 : decode cL_agree 105 = .ok (.iload 7, 2) := by decide +kernel
theorem dL_agree_107 : decode cL_agree 107 = .ok (.aload_n 1, 1) := by decide +kernel
theorem dL_agree_108 : decode cL_agree 108 = .ok (.iconst 1, 1) := by decide +kernel
theorem dL_agree_109 : decode cL_agree 109 = .ok (.iaload, 1) := by decide +kernel
theorem dL_agree_110 : decode cL_agree 110 = .ok (.if_icmp .ge 254, 3) := by decide +kernel
theorem dL_agree_113 : decode cL_agree 113 = .ok (.iconst 0, 1) := by decide +kernel
theorem dL_agree_114 : decode cL_agree 114 = .ok (.istore 8, 2) := by decide +kernel
theorem dL_agree_116 : decode cL_agree 116 = .ok (.iload 8, 2) := by decide +kernel
theorem dL_agree_118 : decode cL_agree 118 = .ok (.iconst 5, 1) := by decide +kernel
theorem dL_agree_119 : decode cL_agree 119 = .ok (.if_icmp .ge 32, 3) := by decide +kernel
theorem dL_agree_122 : decode cL_agree 122 = .ok (.aload_n 0, 1) := by decide +kernel
theorem dL_agree_123 : decode cL_agree 123 = .ok (.iload 7, 2) := by decide +kernel
theorem dL_agree_125 : decode cL_agree 125 = .ok (.iload 8, 2) := by decide +kernel
theorem dL_agree_127 : decode cL_agree 127 = .ok (.invokevirtual 88, 3) := by decide +kernel
theorem dL_agree_130 : decode cL_agree 130 = .ok (.aload_n 3, 1) := by decide +kernel
theorem dL_agree_131 : decode cL_agree 131 = .ok (.bipush 6, 2) := by decide +kernel
theorem dL_agree_133 : decode cL_agree 133 = .ok (.iload 7, 2) := by decide +kernel
theorem dL_agree_135 : decode cL_agree 135 = .ok (.imul, 1) := by decide +kernel
theorem dL_agree_136 : decode cL_agree 136 = .ok (.iload 8, 2) := by decide +kernel
theorem dL_agree_138 : decode cL_agree 138 = .ok (.iadd, 1) := by decide +kernel
theorem dL_agree_139 : decode cL_agree 139 = .ok (.iaload, 1) := by decide +kernel
theorem dL_agree_140 : decode cL_agree 140 = .ok (.if_icmp .eq 5, 3) := by decide +kernel
theorem dL_agree_143 : decode cL_agree 143 = .ok (.iconst 0, 1) := by decide +kernel
theorem dL_agree_144 : decode cL_agree 144 = .ok (.ireturn, 1) := by decide +kernel
theorem dL_agree_145 : decode cL_agree 145 = .ok (.iinc 8 1, 3) := by decide +kernel
theorem dL_agree_148 : decode cL_agree 148 = .ok (.goto (-32), 3) := by decide +kernel
theorem dL_agree_151 : decode cL_agree 151 = .ok (.iconst 0, 1) := by decide +kernel
theorem dL_agree_152 : decode cL_agree 152 = .ok (.istore 8, 2) := by decide +kernel
theorem dL_agree_154 : decode cL_agree 154 = .ok (.iload 8, 2) := by decide +kernel
theorem dL_agree_156 : decode cL_agree 156 = .ok (.iconst 3, 1) := by decide +kernel
theorem dL_agree_157 : decode cL_agree 157 = .ok (.if_icmp .ge 35, 3) := by decide +kernel
theorem dL_agree_160 : decode cL_agree 160 = .ok (.aload_n 0, 1) := by decide +kernel
theorem dL_agree_161 : decode cL_agree 161 = .ok (.iload 7, 2) := by decide +kernel
theorem dL_agree_163 : decode cL_agree 163 = .ok (.bipush 6, 2) := by decide +kernel
theorem dL_agree_165 : decode cL_agree 165 = .ok (.iload 8, 2) := by decide +kernel
theorem dL_agree_167 : decode cL_agree 167 = .ok (.iadd, 1) := by decide +kernel
theorem dL_agree_168 : decode cL_agree 168 = .ok (.invokevirtual 88, 3) := by decide +kernel
theorem dL_agree_171 : decode cL_agree 171 = .ok (.aload 4, 2) := by decide +kernel
theorem dL_agree_173 : decode cL_agree 173 = .ok (.iload 7, 2) := by decide +kernel
theorem dL_agree_175 : decode cL_agree 175 = .ok (.iaload, 1) := by decide +kernel
theorem dL_agree_176 : decode cL_agree 176 = .ok (.iload 8, 2) := by decide +kernel
theorem dL_agree_178 : decode cL_agree 178 = .ok (.invokestatic 8, 3) := by decide +kernel
theorem dL_agree_181 : decode cL_agree 181 = .ok (.if_icmp .eq 5, 3) := by decide +kernel
theorem dL_agree_184 : decode cL_agree 184 = .ok (.iconst 0, 1) := by decide +kernel
theorem dL_agree_185 : decode cL_agree 185 = .ok (.ireturn, 1) := by decide +kernel
theorem dL_agree_186 : decode cL_agree 186 = .ok (.iinc 8 1, 3) := by decide +kernel
theorem dL_agree_189 : decode cL_agree 189 = .ok (.goto (-35), 3) := by decide +kernel
theorem dL_agree_192 : decode cL_agree 192 = .ok (.iconst 0, 1) := by decide +kernel
theorem dL_agree_193 : decode cL_agree 193 = .ok (.istore 8, 2) := by decide +kernel
theorem dL_agree_195 : decode cL_agree 195 = .ok (.iconst 0, 1) := by decide +kernel
theorem dL_agree_196 : decode cL_agree 196 = .ok (.istore 9, 2) := by decide +kernel
theorem dL_agree_198 : decode cL_agree 198 = .ok (.iload 9, 2) := by decide +kernel
theorem dL_agree_200 : decode cL_agree 200 = .ok (.aload_n 1, 1) := by decide +kernel
theorem dL_agree_201 : decode cL_agree 201 = .ok (.iconst 1, 1) := by decide +kernel
theorem dL_agree_202 : decode cL_agree 202 = .ok (.iaload, 1) := by decide +kernel
theorem dL_agree_203 : decode cL_agree 203 = .ok (.if_icmp .ge 54, 3) := by decide +kernel
theorem dL_agree_206 : decode cL_agree 206 = .ok (.iload 9, 2) := by decide +kernel
theorem dL_agree_208 : decode cL_agree 208 = .ok (.iload 7, 2) := by decide +kernel
theorem dL_agree_210 : decode cL_agree 210 = .ok (.if_icmp .eq 41, 3) := by decide +kernel
theorem dL_agree_213 : decode cL_agree 213 = .ok (.aload_n 3, 1) := by decide +kernel
theorem dL_agree_214 : decode cL_agree 214 = .ok (.bipush 6, 2) := by decide +kernel
theorem dL_agree_216 : decode cL_agree 216 = .ok (.iload 9, 2) := by decide +kernel
theorem dL_agree_218 : decode cL_agree 218 = .ok (.imul, 1) := by decide +kernel
theorem dL_agree_219 : decode cL_agree 219 = .ok (.iconst 4, 1) := by decide +kernel
theorem dL_agree_220 : decode cL_agree 220 = .ok (.iadd, 1) := by decide +kernel
theorem dL_agree_221 : decode cL_agree 221 = .ok (.iaload, 1) := by decide +kernel
theorem dL_agree_222 : decode cL_agree 222 = .ok (.ifCond .ne 29, 3) := by decide +kernel
theorem dL_agree_225 : decode cL_agree 225 = .ok (.aload_n 3, 1) := by decide +kernel
theorem dL_agree_226 : decode cL_agree 226 = .ok (.bipush 6, 2) := by decide +kernel
theorem dL_agree_228 : decode cL_agree 228 = .ok (.iload 7, 2) := by decide +kernel
theorem dL_agree_230 : decode cL_agree 230 = .ok (.imul, 1) := by decide +kernel
theorem dL_agree_231 : decode cL_agree 231 = .ok (.iconst 4, 1) := by decide +kernel
theorem dL_agree_232 : decode cL_agree 232 = .ok (.iadd, 1) := by decide +kernel
theorem dL_agree_233 : decode cL_agree 233 = .ok (.iaload, 1) := by decide +kernel
theorem dL_agree_234 : decode cL_agree 234 = .ok (.ifCond .ne 17, 3) := by decide +kernel
theorem dL_agree_237 : decode cL_agree 237 = .ok (.aload_n 3, 1) := by decide +kernel
theorem dL_agree_238 : decode cL_agree 238 = .ok (.iload 9, 2) := by decide +kernel
theorem dL_agree_240 : decode cL_agree 240 = .ok (.iload 7, 2) := by decide +kernel
theorem dL_agree_242 : decode cL_agree 242 = .ok (.invokestatic 30, 3) := by decide +kernel
theorem dL_agree_245 : decode cL_agree 245 = .ok (.ifCond .eq 6, 3) := by decide +kernel
theorem dL_agree_248 : decode cL_agree 248 = .ok (.iinc 8 1, 3) := by decide +kernel
theorem dL_agree_251 : decode cL_agree 251 = .ok (.iinc 9 1, 3) := by decide +kernel
theorem dL_agree_254 : decode cL_agree 254 = .ok (.goto (-56), 3) := by decide +kernel
theorem dL_agree_257 : decode cL_agree 257 = .ok (.aload_n 0, 1) := by decide +kernel
theorem dL_agree_258 : decode cL_agree 258 = .ok (.iload 7, 2) := by decide +kernel
theorem dL_agree_260 : decode cL_agree 260 = .ok (.iconst 5, 1) := by decide +kernel
theorem dL_agree_261 : decode cL_agree 261 = .ok (.invokevirtual 88, 3) := by decide +kernel
theorem dL_agree_264 : decode cL_agree 264 = .ok (.aload 4, 2) := by decide +kernel
theorem dL_agree_266 : decode cL_agree 266 = .ok (.iload 7, 2) := by decide +kernel
theorem dL_agree_268 : decode cL_agree 268 = .ok (.iaload, 1) := by decide +kernel
theorem dL_agree_269 : decode cL_agree 269 = .ok (.invokestatic 14, 3) := by decide +kernel
theorem dL_agree_272 : decode cL_agree 272 = .ok (.if_icmp .ne 58, 3) := by decide +kernel
theorem dL_agree_275 : decode cL_agree 275 = .ok (.aload_n 0, 1) := by decide +kernel
theorem dL_agree_276 : decode cL_agree 276 = .ok (.iload 7, 2) := by decide +kernel
theorem dL_agree_278 : decode cL_agree 278 = .ok (.bipush 9, 2) := by decide +kernel
theorem dL_agree_280 : decode cL_agree 280 = .ok (.invokevirtual 88, 3) := by decide +kernel
theorem dL_agree_283 : decode cL_agree 283 = .ok (.aload_n 1, 1) := by decide +kernel
theorem dL_agree_284 : decode cL_agree 284 = .ok (.aload_n 2, 1) := by decide +kernel
theorem dL_agree_285 : decode cL_agree 285 = .ok (.aload_n 3, 1) := by decide +kernel
theorem dL_agree_286 : decode cL_agree 286 = .ok (.aload 4, 2) := by decide +kernel
theorem dL_agree_288 : decode cL_agree 288 = .ok (.iload 7, 2) := by decide +kernel
theorem dL_agree_290 : decode cL_agree 290 = .ok (.iconst 2, 1) := by decide +kernel
theorem dL_agree_291 : decode cL_agree 291 = .ok (.invokestatic 22, 3) := by decide +kernel
theorem dL_agree_294 : decode cL_agree 294 = .ok (.if_icmp .ne 36, 3) := by decide +kernel
theorem dL_agree_297 : decode cL_agree 297 = .ok (.aload_n 0, 1) := by decide +kernel
theorem dL_agree_298 : decode cL_agree 298 = .ok (.iload 7, 2) := by decide +kernel
theorem dL_agree_300 : decode cL_agree 300 = .ok (.bipush 10, 2) := by decide +kernel
theorem dL_agree_302 : decode cL_agree 302 = .ok (.invokevirtual 88, 3) := by decide +kernel
theorem dL_agree_305 : decode cL_agree 305 = .ok (.aload_n 3, 1) := by decide +kernel
theorem dL_agree_306 : decode cL_agree 306 = .ok (.bipush 6, 2) := by decide +kernel
theorem dL_agree_308 : decode cL_agree 308 = .ok (.iload 7, 2) := by decide +kernel
theorem dL_agree_310 : decode cL_agree 310 = .ok (.imul, 1) := by decide +kernel
theorem dL_agree_311 : decode cL_agree 311 = .ok (.iconst 5, 1) := by decide +kernel
theorem dL_agree_312 : decode cL_agree 312 = .ok (.iadd, 1) := by decide +kernel
theorem dL_agree_313 : decode cL_agree 313 = .ok (.iaload, 1) := by decide +kernel
theorem dL_agree_314 : decode cL_agree 314 = .ok (.if_icmp .ne 16, 3) := by decide +kernel
theorem dL_agree_317 : decode cL_agree 317 = .ok (.aload_n 0, 1) := by decide +kernel
theorem dL_agree_318 : decode cL_agree 318 = .ok (.iload 7, 2) := by decide +kernel
theorem dL_agree_320 : decode cL_agree 320 = .ok (.bipush 11, 2) := by decide +kernel
theorem dL_agree_322 : decode cL_agree 322 = .ok (.invokevirtual 88, 3) := by decide +kernel
theorem dL_agree_325 : decode cL_agree 325 = .ok (.iload 8, 2) := by decide +kernel
theorem dL_agree_327 : decode cL_agree 327 = .ok (.if_icmp .eq 5, 3) := by decide +kernel
theorem dL_agree_330 : decode cL_agree 330 = .ok (.iconst 0, 1) := by decide +kernel
theorem dL_agree_331 : decode cL_agree 331 = .ok (.ireturn, 1) := by decide +kernel
theorem dL_agree_332 : decode cL_agree 332 = .ok (.aload_n 3, 1) := by decide +kernel
theorem dL_agree_333 : decode cL_agree 333 = .ok (.bipush 6, 2) := by decide +kernel
theorem dL_agree_335 : decode cL_agree 335 = .ok (.iload 7, 2) := by decide +kernel
theorem dL_agree_337 : decode cL_agree 337 = .ok (.imul, 1) := by decide +kernel
theorem dL_agree_338 : decode cL_agree 338 = .ok (.iconst 4, 1) := by decide +kernel
theorem dL_agree_339 : decode cL_agree 339 = .ok (.iadd, 1) := by decide +kernel
theorem dL_agree_340 : decode cL_agree 340 = .ok (.iaload, 1) := by decide +kernel
theorem dL_agree_341 : decode cL_agree 341 = .ok (.ifCond .ne 17, 3) := by decide +kernel
theorem dL_agree_344 : decode cL_agree 344 = .ok (.iinc 5 1, 3) := by decide +kernel
theorem dL_agree_347 : decode cL_agree 347 = .ok (.aload 4, 2) := by decide +kernel
theorem dL_agree_349 : decode cL_agree 349 = .ok (.iload 7, 2) := by decide +kernel
theorem dL_agree_351 : decode cL_agree 351 = .ok (.iaload, 1) := by decide +kernel
theorem dL_agree_352 : decode cL_agree 352 = .ok (.ifCond .le 6, 3) := by decide +kernel
theorem dL_agree_355 : decode cL_agree 355 = .ok (.iinc 6 1, 3) := by decide +kernel
theorem dL_agree_358 : decode cL_agree 358 = .ok (.iinc 7 1, 3) := by decide +kernel
theorem dL_agree_361 : decode cL_agree 361 = .ok (.goto (-256), 3) := by decide +kernel
theorem dL_agree_364 : decode cL_agree 364 = .ok (.aload_n 0, 1) := by decide +kernel
theorem dL_agree_365 : decode cL_agree 365 = .ok (.iconst 2, 1) := by decide +kernel
theorem dL_agree_366 : decode cL_agree 366 = .ok (.invokevirtual 91, 3) := by decide +kernel
theorem dL_agree_369 : decode cL_agree 369 = .ok (.aload_n 1, 1) := by decide +kernel
theorem dL_agree_370 : decode cL_agree 370 = .ok (.iconst 2, 1) := by decide +kernel
theorem dL_agree_371 : decode cL_agree 371 = .ok (.iaload, 1) := by decide +kernel
theorem dL_agree_372 : decode cL_agree 372 = .ok (.if_icmp .ne 76, 3) := by decide +kernel
theorem dL_agree_375 : decode cL_agree 375 = .ok (.aload_n 0, 1) := by decide +kernel
theorem dL_agree_376 : decode cL_agree 376 = .ok (.iconst 3, 1) := by decide +kernel
theorem dL_agree_377 : decode cL_agree 377 = .ok (.invokevirtual 91, 3) := by decide +kernel
theorem dL_agree_380 : decode cL_agree 380 = .ok (.iload 5, 2) := by decide +kernel
theorem dL_agree_382 : decode cL_agree 382 = .ok (.if_icmp .ne 66, 3) := by decide +kernel
theorem dL_agree_385 : decode cL_agree 385 = .ok (.aload_n 0, 1) := by decide +kernel
theorem dL_agree_386 : decode cL_agree 386 = .ok (.iconst 4, 1) := by decide +kernel
theorem dL_agree_387 : decode cL_agree 387 = .ok (.invokevirtual 91, 3) := by decide +kernel
theorem dL_agree_390 : decode cL_agree 390 = .ok (.iload 6, 2) := by decide +kernel
theorem dL_agree_392 : decode cL_agree 392 = .ok (.if_icmp .ne 56, 3) := by decide +kernel
theorem dL_agree_395 : decode cL_agree 395 = .ok (.aload_n 0, 1) := by decide +kernel
theorem dL_agree_396 : decode cL_agree 396 = .ok (.bipush 8, 2) := by decide +kernel
theorem dL_agree_398 : decode cL_agree 398 = .ok (.invokevirtual 91, 3) := by decide +kernel
theorem dL_agree_401 : decode cL_agree 401 = .ok (.aload_n 1, 1) := by decide +kernel
theorem dL_agree_402 : decode cL_agree 402 = .ok (.iconst 3, 1) := by decide +kernel
theorem dL_agree_403 : decode cL_agree 403 = .ok (.iaload, 1) := by decide +kernel
theorem dL_agree_404 : decode cL_agree 404 = .ok (.if_icmp .ne 44, 3) := by decide +kernel
theorem dL_agree_407 : decode cL_agree 407 = .ok (.aload_n 0, 1) := by decide +kernel
theorem dL_agree_408 : decode cL_agree 408 = .ok (.bipush 9, 2) := by decide +kernel
theorem dL_agree_410 : decode cL_agree 410 = .ok (.invokevirtual 91, 3) := by decide +kernel
theorem dL_agree_413 : decode cL_agree 413 = .ok (.aload_n 1, 1) := by decide +kernel
theorem dL_agree_414 : decode cL_agree 414 = .ok (.iconst 4, 1) := by decide +kernel
theorem dL_agree_415 : decode cL_agree 415 = .ok (.iaload, 1) := by decide +kernel
theorem dL_agree_416 : decode cL_agree 416 = .ok (.if_icmp .ne 32, 3) := by decide +kernel
theorem dL_agree_419 : decode cL_agree 419 = .ok (.aload_n 0, 1) := by decide +kernel
theorem dL_agree_420 : decode cL_agree 420 = .ok (.bipush 10, 2) := by decide +kernel
theorem dL_agree_422 : decode cL_agree 422 = .ok (.invokevirtual 91, 3) := by decide +kernel
theorem dL_agree_425 : decode cL_agree 425 = .ok (.aload_n 1, 1) := by decide +kernel
theorem dL_agree_426 : decode cL_agree 426 = .ok (.iconst 5, 1) := by decide +kernel
theorem dL_agree_427 : decode cL_agree 427 = .ok (.iaload, 1) := by decide +kernel
theorem dL_agree_428 : decode cL_agree 428 = .ok (.if_icmp .ne 20, 3) := by decide +kernel
theorem dL_agree_431 : decode cL_agree 431 = .ok (.aload_n 0, 1) := by decide +kernel
theorem dL_agree_432 : decode cL_agree 432 = .ok (.bipush 12, 2) := by decide +kernel
theorem dL_agree_434 : decode cL_agree 434 = .ok (.invokevirtual 91, 3) := by decide +kernel
theorem dL_agree_437 : decode cL_agree 437 = .ok (.aload_n 1, 1) := by decide +kernel
theorem dL_agree_438 : decode cL_agree 438 = .ok (.bipush 6, 2) := by decide +kernel
theorem dL_agree_440 : decode cL_agree 440 = .ok (.iaload, 1) := by decide +kernel
theorem dL_agree_441 : decode cL_agree 441 = .ok (.if_icmp .ne 7, 3) := by decide +kernel
theorem dL_agree_444 : decode cL_agree 444 = .ok (.iconst 1, 1) := by decide +kernel
theorem dL_agree_445 : decode cL_agree 445 = .ok (.goto 4, 3) := by decide +kernel
theorem dL_agree_448 : decode cL_agree 448 = .ok (.iconst 0, 1) := by decide +kernel
theorem dL_agree_449 : decode cL_agree 449 = .ok (.ireturn, 1) := by decide +kernel
theorem dL_law_0 : decode cL_law 0 = .ok (.new 44, 3) := by decide +kernel
theorem dL_law_3 : decode cL_law 3 = .ok (.dup, 1) := by decide +kernel
theorem dL_law_4 : decode cL_law 4 = .ok (.invokespecial 94, 3) := by decide +kernel
theorem dL_law_7 : decode cL_law 7 = .ok (.astore_n 1, 1) := by decide +kernel
theorem dL_law_8 : decode cL_law 8 = .ok (.bipush 14, 2) := by decide +kernel
theorem dL_law_10 : decode cL_law 10 = .ok (.newarray .int, 2) := by decide +kernel
theorem dL_law_12 : decode cL_law 12 = .ok (.astore_n 2, 1) := by decide +kernel
theorem dL_law_13 : decode cL_law 13 = .ok (.bipush 30, 2) := by decide +kernel
theorem dL_law_15 : decode cL_law 15 = .ok (.newarray .int, 2) := by decide +kernel
theorem dL_law_17 : decode cL_law 17 = .ok (.astore_n 3, 1) := by decide +kernel
theorem dL_law_18 : decode cL_law 18 = .ok (.bipush 48, 2) := by decide +kernel
theorem dL_law_20 : decode cL_law 20 = .ok (.newarray .int, 2) := by decide +kernel
theorem dL_law_22 : decode cL_law 22 = .ok (.astore 4, 2) := by decide +kernel
theorem dL_law_24 : decode cL_law 24 = .ok (.bipush 8, 2) := by decide +kernel
theorem dL_law_26 : decode cL_law 26 = .ok (.newarray .int, 2) := by decide +kernel
theorem dL_law_28 : decode cL_law 28 = .ok (.astore 5, 2) := by decide +kernel
theorem dL_law_30 : decode cL_law 30 = .ok (.aload_n 2, 1) := by decide +kernel
theorem dL_law_31 : decode cL_law 31 = .ok (.bipush 7, 2) := by decide +kernel
theorem dL_law_33 : decode cL_law 33 = .ok (.iconst 2, 1) := by decide +kernel
theorem dL_law_34 : decode cL_law 34 = .ok (.iastore, 1) := by decide +kernel
theorem dL_law_35 : decode cL_law 35 = .ok (.aload_n 2, 1) := by decide +kernel
theorem dL_law_36 : decode cL_law 36 = .ok (.bipush 8, 2) := by decide +kernel
theorem dL_law_38 : decode cL_law 38 = .ok (.iconst 1, 1) := by decide +kernel
theorem dL_law_39 : decode cL_law 39 = .ok (.iastore, 1) := by decide +kernel
theorem dL_law_40 : decode cL_law 40 = .ok (.aload_n 2, 1) := by decide +kernel
theorem dL_law_41 : decode cL_law 41 = .ok (.bipush 9, 2) := by decide +kernel
theorem dL_law_43 : decode cL_law 43 = .ok (.iconst 1, 1) := by decide +kernel
theorem dL_law_44 : decode cL_law 44 = .ok (.iastore, 1) := by decide +kernel
theorem dL_law_45 : decode cL_law 45 = .ok (.aload_n 2, 1) := by decide +kernel
theorem dL_law_46 : decode cL_law 46 = .ok (.bipush 10, 2) := by decide +kernel
theorem dL_law_48 : decode cL_law 48 = .ok (.sipush 600, 3) := by decide +kernel
theorem dL_law_51 : decode cL_law 51 = .ok (.iastore, 1) := by decide +kernel
theorem dL_law_52 : decode cL_law 52 = .ok (.aload_n 2, 1) := by decide +kernel
theorem dL_law_53 : decode cL_law 53 = .ok (.bipush 11, 2) := by decide +kernel
theorem dL_law_55 : decode cL_law 55 = .ok (.bipush 60, 2) := by decide +kernel
theorem dL_law_57 : decode cL_law 57 = .ok (.iastore, 1) := by decide +kernel
theorem dL_law_58 : decode cL_law 58 = .ok (.aload_n 2, 1) := by decide +kernel
theorem dL_law_59 : decode cL_law 59 = .ok (.bipush 12, 2) := by decide +kernel
theorem dL_law_61 : decode cL_law 61 = .ok (.sipush 1440, 3) := by decide +kernel
theorem dL_law_64 : decode cL_law 64 = .ok (.iastore, 1) := by decide +kernel
theorem dL_law_65 : decode cL_law 65 = .ok (.aload_n 2, 1) := by decide +kernel
theorem dL_law_66 : decode cL_law 66 = .ok (.bipush 13, 2) := by decide +kernel
theorem dL_law_68 : decode cL_law 68 = .ok (.bipush 20, 2) := by decide +kernel
theorem dL_law_70 : decode cL_law 70 = .ok (.iastore, 1) := by decide +kernel
theorem dL_law_71 : decode cL_law 71 = .ok (.iconst 0, 1) := by decide +kernel
theorem dL_law_72 : decode cL_law 72 = .ok (.istore 6, 2) := by decide +kernel
theorem dL_law_74 : decode cL_law 74 = .ok (.iload 6, 2) := by decide +kernel
theorem dL_law_76 : decode cL_law 76 = .ok (.bipush 48, 2) := by decide +kernel
theorem dL_law_78 : decode cL_law 78 = .ok (.if_icmp .ge 55, 3) := by decide +kernel
theorem dL_law_81 : decode cL_law 81 = .ok (.aload_n 1, 1) := by decide +kernel
theorem dL_law_82 : decode cL_law 82 = .ok (.aload_n 0, 1) := by decide +kernel
theorem dL_law_83 : decode cL_law 83 = .ok (.iconst 2, 1) := by decide +kernel
theorem dL_law_84 : decode cL_law 84 = .ok (.iload 6, 2) := by decide +kernel
theorem dL_law_86 : decode cL_law 86 = .ok (.imul, 1) := by decide +kernel
theorem dL_law_87 : decode cL_law 87 = .ok (.invokestatic 95, 3) := by decide +kernel
theorem dL_law_90 : decode cL_law 90 = .ok (.aload_n 0, 1) := by decide +kernel
theorem dL_law_91 : decode cL_law 91 = .ok (.iconst 2, 1) := by decide +kernel
theorem dL_law_92 : decode cL_law 92 = .ok (.iload 6, 2) := by decide +kernel
theorem dL_law_94 : decode cL_law 94 = .ok (.imul, 1) := by decide +kernel
theorem dL_law_95 : decode cL_law 95 = .ok (.iconst 1, 1) := by decide +kernel
theorem dL_law_96 : decode cL_law 96 = .ok (.iadd, 1) := by decide +kernel
theorem dL_law_97 : decode cL_law 97 = .ok (.invokestatic 95, 3) := by decide +kernel
theorem dL_law_100 : decode cL_law 100 = .ok (.aload_n 2, 1) := by decide +kernel
theorem dL_law_101 : decode cL_law 101 = .ok (.aload_n 3, 1) := by decide +kernel
theorem dL_law_102 : decode cL_law 102 = .ok (.aload 4, 2) := by decide +kernel
theorem dL_law_104 : decode cL_law 104 = .ok (.aload 5, 2) := by decide +kernel
theorem dL_law_106 : decode cL_law 106 = .ok (.invokestatic 99, 3) := by decide +kernel
theorem dL_law_109 : decode cL_law 109 = .ok (.ifCond .eq 16, 3) := by decide +kernel
theorem dL_law_112 : decode cL_law 112 = .ok (.aload_n 1, 1) := by decide +kernel
theorem dL_law_113 : decode cL_law 113 = .ok (.aload_n 2, 1) := by decide +kernel
theorem dL_law_114 : decode cL_law 114 = .ok (.aload_n 3, 1) := by decide +kernel
theorem dL_law_115 : decode cL_law 115 = .ok (.aload 4, 2) := by decide +kernel
theorem dL_law_117 : decode cL_law 117 = .ok (.aload 5, 2) := by decide +kernel
theorem dL_law_119 : decode cL_law 119 = .ok (.invokestatic 102, 3) := by decide +kernel
theorem dL_law_122 : decode cL_law 122 = .ok (.ifCond .ne 5, 3) := by decide +kernel
theorem dL_law_125 : decode cL_law 125 = .ok (.iconst 0, 1) := by decide +kernel
theorem dL_law_126 : decode cL_law 126 = .ok (.ireturn, 1) := by decide +kernel
theorem dL_law_127 : decode cL_law 127 = .ok (.iinc 6 1, 3) := by decide +kernel
theorem dL_law_130 : decode cL_law 130 = .ok (.goto (-56), 3) := by decide +kernel
theorem dL_law_133 : decode cL_law 133 = .ok (.iconst 1, 1) := by decide +kernel
theorem dL_law_134 : decode cL_law 134 = .ok (.ireturn, 1) := by decide +kernel
