theorem dX11_in_0 : decode cX11_in 0 = .ok (.lload_n 0, 1) := by decide +kernel
theorem dX11_in_1 : decode cX11_in 1 = .ok (.lload_n 2, 1) := by decide +kernel
theorem dX11_in_2 : decode cX11_in 2 = .ok (.lcmp, 1) := by decide +kernel
theorem dX11_in_3 : decode cX11_in 3 = .ok (.ifCond .lt 14, 3) := by decide +kernel
theorem dX11_in_6 : decode cX11_in 6 = .ok (.lload_n 0, 1) := by decide +kernel
theorem dX11_in_7 : decode cX11_in 7 = .ok (.lload 4, 2) := by decide +kernel
theorem dX11_in_9 : decode cX11_in 9 = .ok (.lcmp, 1) := by decide +kernel
theorem dX11_in_10 : decode cX11_in 10 = .ok (.ifCond .gt 7, 3) := by decide +kernel
theorem dX11_in_13 : decode cX11_in 13 = .ok (.iconst 1, 1) := by decide +kernel
theorem dX11_in_14 : decode cX11_in 14 = .ok (.goto 4, 3) := by decide +kernel
theorem dX11_in_17 : decode cX11_in 17 = .ok (.iconst 0, 1) := by decide +kernel
theorem dX11_in_18 : decode cX11_in 18 = .ok (.ireturn, 1) := by decide +kernel
theorem dX11_finding_0 : decode cX11_finding 0 = .ok (.aload_n 0, 1) := by decide +kernel
theorem dX11_finding_1 : decode cX11_finding 1 = .ok (.iload_n 1, 1) := by decide +kernel
theorem dX11_finding_2 : decode cX11_finding 2 = .ok (.putfield 7, 3) := by decide +kernel
theorem dX11_finding_5 : decode cX11_finding 5 = .ok (.ldc 10, 2) := by decide +kernel
theorem dX11_finding_7 : decode cX11_finding 7 = .ok (.iload_n 1, 1) := by decide +kernel
theorem dX11_finding_8 : decode cX11_finding 8 = .ok (.isub, 1) := by decide +kernel
theorem dX11_finding_9 : decode cX11_finding 9 = .ok (.ireturn, 1) := by decide +kernel
theorem dX11_init_0 : decode cX11_init 0 = .ok (.aload_n 0, 1) := by decide +kernel
theorem dX11_init_1 : decode cX11_init 1 = .ok (.invokespecial 11, 3) := by decide +kernel
theorem dX11_init_4 : decode cX11_init 4 = .ok (.aload_n 0, 1) := by decide +kernel
theorem dX11_init_5 : decode cX11_init 5 = .ok (.bipush 8, 2) := by decide +kernel
theorem dX11_init_7 : decode cX11_init 7 = .ok (.newarray .int, 2) := by decide +kernel
theorem dX11_init_9 : decode cX11_init 9 = .ok (.dup, 1) := by decide +kernel
theorem dX11_init_10 : decode cX11_init 10 = .ok (.iconst 0, 1) := by decide +kernel
theorem dX11_init_11 : decode cX11_init 11 = .ok (.iconst (-1), 1) := by decide +kernel
theorem dX11_init_12 : decode cX11_init 12 = .ok (.iastore, 1) := by decide +kernel
theorem dX11_init_13 : decode cX11_init 13 = .ok (.dup, 1) := by decide +kernel
theorem dX11_init_14 : decode cX11_init 14 = .ok (.iconst 1, 1) := by decide +kernel
theorem dX11_init_15 : decode cX11_init 15 = .ok (.iconst (-1), 1) := by decide +kernel
theorem dX11_init_16 : decode cX11_init 16 = .ok (.iastore, 1) := by decide +kernel
theorem dX11_init_17 : decode cX11_init 17 = .ok (.dup, 1) := by decide +kernel
theorem dX11_init_18 : decode cX11_init 18 = .ok (.iconst 2, 1) := by decide +kernel
theorem dX11_init_19 : decode cX11_init 19 = .ok (.iconst (-1), 1) := by decide +kernel
theorem dX11_init_20 : decode cX11_init 20 = .ok (.iastore, 1) := by decide +kernel
theorem dX11_init_21 : decode cX11_init 21 = .ok (.dup, 1) := by decide +kernel
theorem dX11_init_22 : decode cX11_init 22 = .ok (.iconst 3, 1) := by decide +kernel
theorem dX11_init_23 : decode cX11_init 23 = .ok (.iconst (-1), 1) := by decide +kernel
theorem dX11_init_24 : decode cX11_init 24 = .ok (.iastore, 1) := by decide +kernel
theorem dX11_init_25 : decode cX11_init 25 = .ok (.dup, 1) := by decide +kernel
theorem dX11_init_26 : decode cX11_init 26 = .ok (.iconst 4, 1) := by decide +kernel
theorem dX11_init_27 : decode cX11_init 27 = .ok (.iconst (-1), 1) := by decide +kernel
theorem dX11_init_28 : decode cX11_init 28 = .ok (.iastore, 1) := by decide +kernel
theorem dX11_init_29 : decode cX11_init 29 = .ok (.dup, 1) := by decide +kernel
theorem dX11_init_30 : decode cX11_init 30 = .ok (.iconst 5, 1) := by decide +kernel
theorem dX11_init_31 : decode cX11_init 31 = .ok (.iconst (-1), 1) := by decide +kernel
theorem dX11_init_32 : decode cX11_init 32 = .ok (.iastore, 1) := by decide +kernel
theorem dX11_init_33 : decode cX11_init 33 = .ok (.dup, 1) := by decide +kernel
theorem dX11_init_34 : decode cX11_init 34 = .ok (.bipush 6, 2) := by decide +kernel
theorem dX11_init_36 : decode cX11_init 36 = .ok (.iconst (-1), 1) := by decide +kernel
theorem dX11_init_37 : decode cX11_init 37 = .ok (.iastore, 1) := by decide +kernel
theorem dX11_init_38 : decode cX11_init 38 = .ok (.dup, 1) := by decide +kernel
theorem dX11_init_39 : decode cX11_init 39 = .ok (.bipush 7, 2) := by decide +kernel
theorem dX11_init_41 : decode cX11_init 41 = .ok (.iconst (-1), 1) := by decide +kernel
theorem dX11_init_42 : decode cX11_init 42 = .ok (.iastore, 1) := by decide +kernel
theorem dX11_init_43 : decode cX11_init 43 = .ok (.putfield 17, 3) := by decide +kernel
theorem dX11_init_46 : decode cX11_init 46 = .ok (.aload_n 0, 1) := by decide +kernel
theorem dX11_init_47 : decode cX11_init 47 = .ok (.bipush 8, 2) := by decide +kernel
theorem dX11_init_49 : decode cX11_init 49 = .ok (.newarray .int, 2) := by decide +kernel
theorem dX11_init_51 : decode cX11_init 51 = .ok (.putfield 21, 3) := by decide +kernel
theorem dX11_init_54 : decode cX11_init 54 = .ok (.aload_n 0, 1) := by decide +kernel
theorem dX11_init_55 : decode cX11_init 55 = .ok (.sipush 480, 3) := by decide +kernel
theorem dX11_init_58 : decode cX11_init 58 = .ok (.newarray .int, 2) := by decide +kernel
theorem dX11_init_60 : decode cX11_init 60 = .ok (.putfield 24, 3) := by decide +kernel
theorem dX11_init_63 : decode cX11_init 63 = .ok (.aload_n 0, 1) := by decide +kernel
theorem dX11_init_64 : decode cX11_init 64 = .ok (.iconst 4, 1) := by decide +kernel
theorem dX11_init_65 : decode cX11_init 65 = .ok (.newarray .int, 2) := by decide +kernel
theorem dX11_init_67 : decode cX11_init 67 = .ok (.putfield 27, 3) := by decide +kernel
theorem dX11_init_70 : decode cX11_init 70 = .ok (.aload_n 0, 1) := by decide +kernel
theorem dX11_init_71 : decode cX11_init 71 = .ok (.bipush 24, 2) := by decide +kernel
theorem dX11_init_73 : decode cX11_init 73 = .ok (.newarray .int, 2) := by decide +kernel
theorem dX11_init_75 : decode cX11_init 75 = .ok (.putfield 30, 3) := by decide +kernel
theorem dX11_init_78 : decode cX11_init 78 = .ok (.aload_n 0, 1) := by decide +kernel
theorem dX11_init_79 : decode cX11_init 79 = .ok (.bipush 24, 2) := by decide +kernel
theorem dX11_init_81 : decode cX11_init 81 = .ok (.newarray .int, 2) := by decide +kernel
theorem dX11_init_83 : decode cX11_init 83 = .ok (.putfield 33, 3) := by decide +kernel
theorem dX11_init_86 : decode cX11_init 86 = .ok (.aload_n 0, 1) := by decide +kernel
theorem dX11_init_87 : decode cX11_init 87 = .ok (.bipush 8, 2) := by decide +kernel
theorem dX11_init_89 : decode cX11_init 89 = .ok (.newarray .int, 2) := by decide +kernel
theorem dX11_init_91 : decode cX11_init 91 = .ok (.putfield 36, 3) := by decide +kernel
theorem dX11_init_94 : decode cX11_init 94 = .ok (.aload_n 0, 1) := by decide +kernel
theorem dX11_init_95 : decode cX11_init 95 = .ok (.bipush 108, 2) := by decide +kernel
theorem dX11_init_97 : decode cX11_init 97 = .ok (.newarray .int, 2) := by decide +kernel
theorem dX11_init_99 : decode cX11_init 99 = .ok (.putfield 39, 3) := by decide +kernel
theorem dX11_init_102 : decode cX11_init 102 = .ok (.aload_n 0, 1) := by decide +kernel
theorem dX11_init_103 : decode cX11_init 103 = .ok (.bipush 12, 2) := by decide +kernel
theorem dX11_init_105 : decode cX11_init 105 = .ok (.newarray .int, 2) := by decide +kernel
theorem dX11_init_107 : decode cX11_init 107 = .ok (.putfield 42, 3) := by decide +kernel
theorem dX11_init_110 : decode cX11_init 110 = .ok (.aload_n 0, 1) := by decide +kernel
theorem dX11_init_111 : decode cX11_init 111 = .ok (.iconst 4, 1) := by decide +kernel
theorem dX11_init_112 : decode cX11_init 112 = .ok (.newarray .int, 2) := by decide +kernel
theorem dX11_init_114 : decode cX11_init 114 = .ok (.putfield 45, 3) := by decide +kernel
theorem dX11_init_117 : decode cX11_init 117 = .ok (.aload_n 0, 1) := by decide +kernel
theorem dX11_init_118 : decode cX11_init 118 = .ok (.iconst 2, 1) := by decide +kernel
theorem dX11_init_119 : decode cX11_init 119 = .ok (.newarray .int, 2) := by decide +kernel
theorem dX11_init_121 : decode cX11_init 121 = .ok (.putfield 48, 3) := by decide +kernel
theorem dX11_init_124 : decode cX11_init 124 = .ok (.aload_n 0, 1) := by decide +kernel
theorem dX11_init_125 : decode cX11_init 125 = .ok (.bipush 6, 2) := by decide +kernel
theorem dX11_init_127 : decode cX11_init 127 = .ok (.newarray .int, 2) := by decide +kernel
theorem dX11_init_129 : decode cX11_init 129 = .ok (.dup, 1) := by decide +kernel
theorem dX11_init_130 : decode cX11_init 130 = .ok (.iconst 0, 1) := by decide +kernel
theorem dX11_init_131 : decode cX11_init 131 = .ok (.iconst 2, 1) := by decide +kernel
theorem dX11_init_132 : decode cX11_init 132 = .ok (.iastore, 1) := by decide +kernel
theorem dX11_init_133 : decode cX11_init 133 = .ok (.dup, 1) := by decide +kernel
theorem dX11_init_134 : decode cX11_init 134 = .ok (.iconst 1, 1) := by decide +kernel
theorem dX11_init_135 : decode cX11_init 135 = .ok (.iconst 3, 1) := by decide +kernel
theorem dX11_init_136 : decode cX11_init 136 = .ok (.iastore, 1) := by decide +kernel
theorem dX11_init_137 : decode cX11_init 137 = .ok (.dup, 1) := by decide +kernel
theorem dX11_init_138 : decode cX11_init 138 = .ok (.iconst 2, 1) := by decide +kernel
theorem dX11_init_139 : decode cX11_init 139 = .ok (.iconst 4, 1) := by decide +kernel
theorem dX11_init_140 : decode cX11_init 140 = .ok (.iastore, 1) := by decide +kernel
theorem dX11_init_141 : decode cX11_init 141 = .ok (.dup, 1) := by decide +kernel
theorem dX11_init_142 : decode cX11_init 142 = .ok (.iconst 3, 1) := by decide +kernel
theorem dX11_init_143 : decode cX11_init 143 = .ok (.iconst 5, 1) := by decide +kernel
theorem dX11_init_144 : decode cX11_init 144 = .ok (.iastore, 1) := by decide +kernel
theorem dX11_init_145 : decode cX11_init 145 = .ok (.dup, 1) := by decide +kernel
theorem dX11_init_146 : decode cX11_init 146 = .ok (.iconst 4, 1) := by decide +kernel
theorem dX11_init_147 : decode cX11_init 147 = .ok (.bipush 6, 2) := by decide +kernel
theorem dX11_init_149 : decode cX11_init 149 = .ok (.iastore, 1) := by decide +kernel
theorem dX11_init_150 : decode cX11_init 150 = .ok (.dup, 1) := by decide +kernel
theorem dX11_init_151 : decode cX11_init 151 = .ok (.iconst 5, 1) := by decide +kernel
theorem dX11_init_152 : decode cX11_init 152 = .ok (.bipush 7, 2) := by decide +kernel
theorem dX11_init_154 : decode cX11_init 154 = .ok (.iastore, 1) := by decide +kernel
theorem dX11_init_155 : decode cX11_init 155 = .ok (.putfield 51, 3) := by decide +kernel
theorem dX11_init_158 : decode cX11_init 158 = .ok (.aload_n 0, 1) := by decide +kernel
theorem dX11_init_159 : decode cX11_init 159 = .ok (.iconst 4, 1) := by decide +kernel
theorem dX11_init_160 : decode cX11_init 160 = .ok (.newarray .int, 2) := by decide +kernel
theorem dX11_init_162 : decode cX11_init 162 = .ok (.putfield 54, 3) := by decide +kernel
theorem dX11_init_165 : decode cX11_init 165 = .ok (.aload_n 0, 1) := by decide +kernel
theorem dX11_init_166 : decode cX11_init 166 = .ok (.iconst 4, 1) := by decide +kernel
theorem dX11_init_167 : decode cX11_init 167 = .ok (.newarray .int, 2) := by decide +kernel
theorem dX11_init_169 : decode cX11_init 169 = .ok (.dup, 1) := by decide +kernel
theorem dX11_init_170 : decode cX11_init 170 = .ok (.iconst 0, 1) := by decide +kernel
theorem dX11_init_171 : decode cX11_init 171 = .ok (.bipush 15, 2) := by decide +kernel
theorem dX11_init_173 : decode cX11_init 173 = .ok (.iastore, 1) := by decide +kernel
theorem dX11_init_174 : decode cX11_init 174 = .ok (.dup, 1) := by decide +kernel
theorem dX11_init_175 : decode cX11_init 175 = .ok (.iconst 1, 1) := by decide +kernel
theorem dX11_init_176 : decode cX11_init 176 = .ok (.bipush 15, 2) := by decide +kernel
theorem dX11_init_178 : decode cX11_init 178 = .ok (.iastore, 1) := by decide +kernel
theorem dX11_init_179 : decode cX11_init 179 = .ok (.dup, 1) := by decide +kernel
theorem dX11_init_180 : decode cX11_init 180 = .ok (.iconst 2, 1) := by decide +kernel
theorem dX11_init_181 : decode cX11_init 181 = .ok (.bipush 15, 2) := by decide +kernel
theorem dX11_init_183 : decode cX11_init 183 = .ok (.iastore, 1) := by decide +kernel
theorem dX11_init_184 : decode cX11_init 184 = .ok (.dup, 1) := by decide +kernel
theorem dX11_init_185 : decode cX11_init 185 = .ok (.iconst 3, 1) := by decide +kernel
theorem dX11_init_186 : decode cX11_init 186 = .ok (.bipush 15, 2) := by decide +kernel
theorem dX11_init_188 : decode cX11_init 188 = .ok (.iastore, 1) := by decide +kernel
theorem dX11_init_189 : decode cX11_init 189 = .ok (.putfield 57, 3) := by decide +kernel
theorem dX11_init_192 : decode cX11_init 192 = .ok (.aload_n 0, 1) := by decide +kernel
theorem dX11_init_193 : decode cX11_init 193 = .ok (.iconst 4, 1) := by decide +kernel
theorem dX11_init_194 : decode cX11_init 194 = .ok (.newarray .int, 2) := by decide +kernel
theorem dX11_init_196 : decode cX11_init 196 = .ok (.putfield 60, 3) := by decide +kernel
theorem dX11_init_199 : decode cX11_init 199 = .ok (.aload_n 0, 1) := by decide +kernel
theorem dX11_init_200 : decode cX11_init 200 = .ok (.bipush 32, 2) := by decide +kernel
theorem dX11_init_202 : decode cX11_init 202 = .ok (.newarray .int, 2) := by decide +kernel
theorem dX11_init_204 : decode cX11_init 204 = .ok (.putfield 63, 3) := by decide +kernel
theorem dX11_init_207 : decode cX11_init 207 = .ok (.aload_n 0, 1) := by decide +kernel
theorem dX11_init_208 : decode cX11_init 208 = .ok (.bipush 32, 2) := by decide +kernel
theorem dX11_init_210 : decode cX11_init 210 = .ok (.newarray .int, 2) := by decide +kernel
theorem dX11_init_212 : decode cX11_init 212 = .ok (.putfield 66, 3) := by decide +kernel
theorem dX11_init_215 : decode cX11_init 215 = .ok (.aload_n 0, 1) := by decide +kernel
theorem dX11_init_216 : decode cX11_init 216 = .ok (.bipush 32, 2) := by decide +kernel
theorem dX11_init_218 : decode cX11_init 218 = .ok (.newarray .int, 2) := by decide +kernel
theorem dX11_init_220 : decode cX11_init 220 = .ok (.putfield 69, 3) := by decide +kernel
theorem dX11_init_223 : decode cX11_init 223 = .ok (.aload_n 0, 1) := by decide +kernel
theorem dX11_init_224 : decode cX11_init 224 = .ok (.sipush 300, 3) := by decide +kernel
theorem dX11_init_227 : decode cX11_init 227 = .ok (.newarray .int, 2) := by decide +kernel
theorem dX11_init_229 : decode cX11_init 229 = .ok (.putfield 72, 3) := by decide +kernel
theorem dX11_init_232 : decode cX11_init 232 = .ok (.aload_n 0, 1) := by decide +kernel
theorem dX11_init_233 : decode cX11_init 233 = .ok (.bipush 12, 2) := by decide +kernel
theorem dX11_init_235 : decode cX11_init 235 = .ok (.newarray .int, 2) := by decide +kernel
theorem dX11_init_237 : decode cX11_init 237 = .ok (.putfield 75, 3) := by decide +kernel
theorem dX11_init_240 : decode cX11_init 240 = .ok (.aload_n 0, 1) := by decide +kernel
theorem dX11_init_241 : decode cX11_init 241 = .ok (.bipush 30, 2) := by decide +kernel
theorem dX11_init_243 : decode cX11_init 243 = .ok (.newarray .int, 2) := by decide +kernel
theorem dX11_init_245 : decode cX11_init 245 = .ok (.putfield 78, 3) := by decide +kernel
theorem dX11_init_248 : decode cX11_init 248 = .ok (.aload_n 0, 1) := by decide +kernel
theorem dX11_init_249 : decode cX11_init 249 = .ok (.bipush 30, 2) := by decide +kernel
theorem dX11_init_251 : decode cX11_init 251 = .ok (.newarray .int, 2) := by decide +kernel
theorem dX11_init_253 : decode cX11_init 253 = .ok (.putfield 81, 3) := by decide +kernel
theorem dX11_init_256 : decode cX11_init 256 = .ok (.aload_n 0, 1) := by decide +kernel
theorem dX11_init_257 : decode cX11_init 257 = .ok (.bipush 7, 2) := by decide +kernel
theorem dX11_init_259 : decode cX11_init 259 = .ok (.newarray .int, 2) := by decide +kernel
theorem dX11_init_261 : decode cX11_init 261 = .ok (.putfield 84, 3) := by decide +kernel
theorem dX11_init_264 : decode cX11_init 264 = .ok (.aload_n 0, 1) := by decide +kernel
theorem dX11_init_265 : decode cX11_init 265 = .ok (.bipush 7, 2) := by decide +kernel
theorem dX11_init_267 : decode cX11_init 267 = .ok (.newarray .int, 2) := by decide +kernel
theorem dX11_init_269 : decode cX11_init 269 = .ok (.putfield 87, 3) := by decide +kernel
theorem dX11_init_272 : decode cX11_init 272 = .ok (.aload_n 0, 1) := by decide +kernel
theorem dX11_init_273 : decode cX11_init 273 = .ok (.bipush 16, 2) := by decide +kernel
theorem dX11_init_275 : decode cX11_init 275 = .ok (.newarray .int, 2) := by decide +kernel
theorem dX11_init_277 : decode cX11_init 277 = .ok (.putfield 90, 3) := by decide +kernel
theorem dX11_init_280 : decode cX11_init 280 = .ok (.iconst 0, 1) := by decide +kernel
theorem dX11_init_281 : decode cX11_init 281 = .ok (.istore_n 1, 1) := by decide +kernel
theorem dX11_init_282 : decode cX11_init 282 = .ok (.iload_n 1, 1) := by decide +kernel
theorem dX11_init_283 : decode cX11_init 283 = .ok (.bipush 12, 2) := by decide +kernel
theorem dX11_init_285 : decode cX11_init 285 = .ok (.if_icmp .ge 17, 3) := by decide +kernel
theorem dX11_init_288 : decode cX11_init 288 = .ok (.aload_n 0, 1) := by decide +kernel
theorem dX11_init_289 : decode cX11_init 289 = .ok (.getfield 42, 3) := by decide +kernel
theorem dX11_init_292 : decode cX11_init 292 = .ok (.iload_n 1, 1) := by decide +kernel
theorem dX11_init_293 : decode cX11_init 293 = .ok (.ldc 93, 2) := by decide +kernel
theorem dX11_init_295 : decode cX11_init 295 = .ok (.iastore, 1) := by decide +kernel
theorem dX11_init_296 : decode cX11_init 296 = .ok (.iinc 1 1, 3) := by decide +kernel
theorem dX11_init_299 : decode cX11_init 299 = .ok (.goto (-17), 3) := by decide +kernel
theorem dX11_init_302 : decode cX11_init 302 = .ok (.iconst 0, 1) := by decide +kernel
theorem dX11_init_303 : decode cX11_init 303 = .ok (.istore_n 1, 1) := by decide +kernel
theorem dX11_init_304 : decode cX11_init 304 = .ok (.iload_n 1, 1) := by decide +kernel
theorem dX11_init_305 : decode cX11_init 305 = .ok (.bipush 8, 2) := by decide +kernel
theorem dX11_init_307 : decode cX11_init 307 = .ok (.if_icmp .ge 17, 3) := by decide +kernel
theorem dX11_init_310 : decode cX11_init 310 = .ok (.aload_n 0, 1) := by decide +kernel
theorem dX11_init_311 : decode cX11_init 311 = .ok (.getfield 36, 3) := by decide +kernel
theorem dX11_init_314 : decode cX11_init 314 = .ok (.iload_n 1, 1) := by decide +kernel
theorem dX11_init_315 : decode cX11_init 315 = .ok (.ldc 93, 2) := by decide +kernel
theorem dX11_init_317 : decode cX11_init 317 = .ok (.iastore, 1) := by decide +kernel
theorem dX11_init_318 : decode cX11_init 318 = .ok (.iinc 1 1, 3) := by decide +kernel
theorem dX11_init_321 : decode cX11_init 321 = .ok (.goto (-17), 3) := by decide +kernel
theorem dX11_init_324 : decode cX11_init 324 = .ok (.return_, 1) := by decide +kernel
theorem dX11_isDay_0 : decode cX11_isDay 0 = .ok (.iload_n 0, 1) := by decide +kernel
theorem dX11_isDay_1 : decode cX11_isDay 1 = .ok (.i2l, 1) := by decide +kernel
theorem dX11_isDay_2 : decode cX11_isDay 2 = .ok (.lconst 0, 1) := by decide +kernel
theorem dX11_isDay_3 : decode cX11_isDay 3 = .ok (.ldc2_w 94, 3) := by decide +kernel
theorem dX11_isDay_6 : decode cX11_isDay 6 = .ok (.invokestatic 96, 3) := by decide +kernel
theorem dX11_isDay_9 : decode cX11_isDay 9 = .ok (.ireturn, 1) := by decide +kernel
theorem dX11_isSheet_0 : decode cX11_isSheet 0 = .ok (.iload_n 0, 1) := by decide +kernel
theorem dX11_isSheet_1 : decode cX11_isSheet 1 = .ok (.i2l, 1) := by decide +kernel
theorem dX11_isSheet_2 : decode cX11_isSheet 2 = .ok (.lconst 0, 1) := by decide +kernel
theorem dX11_isSheet_3 : decode cX11_isSheet 3 = .ok (.ldc2_w 100, 3) := by decide +kernel
theorem dX11_isSheet_6 : decode cX11_isSheet 6 = .ok (.invokestatic 96, 3) := by decide +kernel
theorem dX11_isSheet_9 : decode cX11_isSheet 9 = .ok (.ireturn, 1) := by decide +kernel
theorem dX11_sheet_0 : decode cX11_sheet 0 = .ok (.aload_n 0, 1) := by decide +kernel
theorem dX11_sheet_1 : decode cX11_sheet 1 = .ok (.iconst 0, 1) := by decide +kernel
theorem dX11_sheet_2 : decode cX11_sheet 2 = .ok (.putfield 1, 3) := by decide +kernel
theorem dX11_sheet_5 : decode cX11_sheet 5 = .ok (.iload_n 1, 1) := by decide +kernel
theorem dX11_sheet_6 : decode cX11_sheet 6 = .ok (.invokestatic 102, 3) := by decide +kernel
theorem dX11_sheet_9 : decode cX11_sheet 9 = .ok (.ifCond .eq 21, 3) := by decide +kernel
theorem dX11_sheet_12 : decode cX11_sheet 12 = .ok (.iload_n 2, 1) := by decide +kernel
theorem dX11_sheet_13 : decode cX11_sheet 13 = .ok (.i2l, 1) := by decide +kernel
theorem dX11_sheet_14 : decode cX11_sheet 14 = .ok (.lconst 0, 1) := by decide +kernel
theorem dX11_sheet_15 : decode cX11_sheet 15 = .ok (.ldc2_w 106, 3) := by decide +kernel
theorem dX11_sheet_18 : decode cX11_sheet 18 = .ok (.invokestatic 96, 3) := by decide +kernel
theorem dX11_sheet_21 : decode cX11_sheet 21 = .ok (.ifCond .eq 9, 3) := by decide +kernel
theorem dX11_sheet_24 : decode cX11_sheet 24 = .ok (.iload_n 3, 1) := by decide +kernel
theorem dX11_sheet_25 : decode cX11_sheet 25 = .ok (.bipush 60, 2) := by decide +kernel
theorem dX11_sheet_27 : decode cX11_sheet 27 = .ok (.if_icmp .le 6, 3) := by decide +kernel
theorem dX11_sheet_30 : decode cX11_sheet 30 = .ok (.ldc 108, 2) := by decide +kernel
theorem dX11_sheet_32 : decode cX11_sheet 32 = .ok (.ireturn, 1) := by decide +kernel
theorem dX11_sheet_33 : decode cX11_sheet 33 = .ok (.aload_n 0, 1) := by decide +kernel
theorem dX11_sheet_34 : decode cX11_sheet 34 = .ok (.iconst 0, 1) := by decide +kernel
theorem dX11_sheet_35 : decode cX11_sheet 35 = .ok (.putfield 7, 3) := by decide +kernel
theorem dX11_sheet_38 : decode cX11_sheet 38 = .ok (.iload_n 3, 1) := by decide +kernel
theorem dX11_sheet_39 : decode cX11_sheet 39 = .ok (.ifCond .ge 9, 3) := by decide +kernel
theorem dX11_sheet_42 : decode cX11_sheet 42 = .ok (.aload_n 0, 1) := by decide +kernel
theorem dX11_sheet_43 : decode cX11_sheet 43 = .ok (.iconst 4, 1) := by decide +kernel
theorem dX11_sheet_44 : decode cX11_sheet 44 = .ok (.invokevirtual 109, 3) := by decide +kernel
theorem dX11_sheet_47 : decode cX11_sheet 47 = .ok (.ireturn, 1) := by decide +kernel
theorem dX11_sheet_48 : decode cX11_sheet 48 = .ok (.aload_n 0, 1) := by decide +kernel
theorem dX11_sheet_49 : decode cX11_sheet 49 = .ok (.getfield 17, 3) := by decide +kernel
theorem dX11_sheet_52 : decode cX11_sheet 52 = .ok (.iload_n 1, 1) := by decide +kernel
theorem dX11_sheet_53 : decode cX11_sheet 53 = .ok (.iload_n 2, 1) := by decide +kernel
theorem dX11_sheet_54 : decode cX11_sheet 54 = .ok (.iastore, 1) := by decide +kernel
theorem dX11_sheet_55 : decode cX11_sheet 55 = .ok (.aload_n 0, 1) := by decide +kernel
theorem dX11_sheet_56 : decode cX11_sheet 56 = .ok (.getfield 21, 3) := by decide +kernel
theorem dX11_sheet_59 : decode cX11_sheet 59 = .ok (.iload_n 1, 1) := by decide +kernel
theorem dX11_sheet_60 : decode cX11_sheet 60 = .ok (.iload_n 3, 1) := by decide +kernel
theorem dX11_sheet_61 : decode cX11_sheet 61 = .ok (.iastore, 1) := by decide +kernel
theorem dX11_sheet_62 : decode cX11_sheet 62 = .ok (.iconst 0, 1) := by decide +kernel
theorem dX11_sheet_63 : decode cX11_sheet 63 = .ok (.istore 4, 2) := by decide +kernel
theorem dX11_sheet_65 : decode cX11_sheet 65 = .ok (.iload 4, 2) := by decide +kernel
theorem dX11_sheet_67 : decode cX11_sheet 67 = .ok (.bipush 60, 2) := by decide +kernel
theorem dX11_sheet_69 : decode cX11_sheet 69 = .ok (.if_icmp .ge 22, 3) := by decide +kernel
theorem dX11_sheet_72 : decode cX11_sheet 72 = .ok (.aload_n 0, 1) := by decide +kernel
theorem dX11_sheet_73 : decode cX11_sheet 73 = .ok (.getfield 24, 3) := by decide +kernel
theorem dX11_sheet_76 : decode cX11_sheet 76 = .ok (.bipush 60, 2) := by decide +kernel
theorem dX11_sheet_78 : decode cX11_sheet 78 = .ok (.iload_n 1, 1) := by decide +kernel
theorem dX11_sheet_79 : decode cX11_sheet 79 = .ok (.imul, 1) := by decide +kernel
theorem dX11_sheet_80 : decode cX11_sheet 80 = .ok (.iload 4, 2) := by decide +kernel
theorem dX11_sheet_82 : decode cX11_sheet 82 = .ok (.iadd, 1) := by decide +kernel
theorem dX11_sheet_83 : decode cX11_sheet 83 = .ok (.iconst 0, 1) := by decide +kernel
theorem dX11_sheet_84 : decode cX11_sheet 84 = .ok (.iastore, 1) := by decide +kernel
theorem dX11_sheet_85 : decode cX11_sheet 85 = .ok (.iinc 4 1, 3) := by decide +kernel
theorem dX11_sheet_88 : decode cX11_sheet 88 = .ok (.goto (-23), 3) := by decide +kernel
theorem dX11_sheet_91 : decode cX11_sheet 91 = .ok (.iload_n 3, 1) := by decide +kernel
theorem dX11_sheet_92 : decode cX11_sheet 92 = .ok (.ireturn, 1) := by decide +kernel
theorem dX11_set_0 : decode cX11_set 0 = .ok (.aload_n 0, 1) := by decide +kernel
theorem dX11_set_1 : decode cX11_set 1 = .ok (.iconst 0, 1) := by decide +kernel
theorem dX11_set_2 : decode cX11_set 2 = .ok (.putfield 1, 3) := by decide +kernel
theorem dX11_set_5 : decode cX11_set 5 = .ok (.iload_n 1, 1) := by decide +kernel
theorem dX11_set_6 : decode cX11_set 6 = .ok (.invokestatic 102, 3) := by decide +kernel
theorem dX11_set_9 : decode cX11_set 9 = .ok (.ifCond .ne 6, 3) := by decide +kernel
theorem dX11_set_12 : decode cX11_set 12 = .ok (.ldc 108, 2) := by decide +kernel
theorem dX11_set_14 : decode cX11_set 14 = .ok (.ireturn, 1) := by decide +kernel
theorem dX11_set_15 : decode cX11_set 15 = .ok (.aload_n 0, 1) := by decide +kernel
theorem dX11_set_16 : decode cX11_set 16 = .ok (.iconst 0, 1) := by decide +kernel
theorem dX11_set_17 : decode cX11_set 17 = .ok (.putfield 7, 3) := by decide +kernel
theorem dX11_set_20 : decode cX11_set 20 = .ok (.aload_n 0, 1) := by decide +kernel
theorem dX11_set_21 : decode cX11_set 21 = .ok (.getfield 17, 3) := by decide +kernel
theorem dX11_set_24 : decode cX11_set 24 = .ok (.iload_n 1, 1) := by decide +kernel
theorem dX11_set_25 : decode cX11_set 25 = .ok (.iaload, 1) := by decide +kernel
theorem dX11_set_26 : decode cX11_set 26 = .ok (.ifCond .ge 9, 3) := by decide +kernel
theorem dX11_set_29 : decode cX11_set 29 = .ok (.aload_n 0, 1) := by decide +kernel
theorem dX11_set_30 : decode cX11_set 30 = .ok (.iconst 1, 1) := by decide +kernel
theorem dX11_set_31 : decode cX11_set 31 = .ok (.invokevirtual 109, 3) := by decide +kernel
theorem dX11_set_34 : decode cX11_set 34 = .ok (.ireturn, 1) := by decide +kernel
theorem dX11_set_35 : decode cX11_set 35 = .ok (.iload_n 2, 1) := by decide +kernel
theorem dX11_set_36 : decode cX11_set 36 = .ok (.i2l, 1) := by decide +kernel
theorem dX11_set_37 : decode cX11_set 37 = .ok (.lconst 0, 1) := by decide +kernel
theorem dX11_set_38 : decode cX11_set 38 = .ok (.aload_n 0, 1) := by decide +kernel
theorem dX11_set_39 : decode cX11_set 39 = .ok (.getfield 21, 3) := by decide +kernel
theorem dX11_set_42 : decode cX11_set 42 = .ok (.iload_n 1, 1) := by decide +kernel
theorem dX11_set_43 : decode cX11_set 43 = .ok (.iaload, 1) := by decide +kernel
theorem dX11_set_44 : decode cX11_set 44 = .ok (.iconst 1, 1) := by decide +kernel
theorem dX11_set_45 : decode cX11_set 45 = .ok (.isub, 1) := by decide +kernel
theorem dX11_set_46 : decode cX11_set 46 = .ok (.i2l, 1) := by decide +kernel
theorem dX11_set_47 : decode cX11_set 47 = .ok (.invokestatic 96, 3) := by decide +kernel
theorem dX11_set_50 : decode cX11_set 50 = .ok (.ifCond .ne 9, 3) := by decide +kernel
theorem dX11_set_53 : decode cX11_set 53 = .ok (.aload_n 0, 1) := by decide +kernel
theorem dX11_set_54 : decode cX11_set 54 = .ok (.iconst 2, 1) := by decide +kernel
theorem dX11_set_55 : decode cX11_set 55 = .ok (.invokevirtual 109, 3) := by decide +kernel
theorem dX11_set_58 : decode cX11_set 58 = .ok (.ireturn, 1) := by decide +kernel
theorem dX11_set_59 : decode cX11_set 59 = .ok (.aload_n 0, 1) := by decide +kernel
theorem dX11_set_60 : decode cX11_set 60 = .ok (.getfield 24, 3) := by decide +kernel
theorem dX11_set_63 : decode cX11_set 63 = .ok (.bipush 60, 2) := by decide +kernel
theorem dX11_set_65 : decode cX11_set 65 = .ok (.iload_n 1, 1) := by decide +kernel
theorem dX11_set_66 : decode cX11_set 66 = .ok (.imul, 1) := by decide +kernel
theorem dX11_set_67 : decode cX11_set 67 = .ok (.iload_n 2, 1) := by decide +kernel
theorem dX11_set_68 : decode cX11_set 68 = .ok (.iadd, 1) := by decide +kernel
theorem dX11_set_69 : decode cX11_set 69 = .ok (.aload_n 0, 1) := by decide +kernel
theorem dX11_set_70 : decode cX11_set 70 = .ok (.getfield 17, 3) := by decide +kernel
theorem dX11_set_73 : decode cX11_set 73 = .ok (.iload_n 1, 1) := by decide +kernel
theorem dX11_set_74 : decode cX11_set 74 = .ok (.iaload, 1) := by decide +kernel
theorem dX11_set_75 : decode cX11_set 75 = .ok (.ifCond .ne 8, 3) := by decide +kernel
theorem dX11_set_78 : decode cX11_set 78 = .ok (.iload_n 3, 1) := by decide +kernel
theorem dX11_set_79 : decode cX11_set 79 = .ok (.i2b, 1) := by decide +kernel
theorem dX11_set_80 : decode cX11_set 80 = .ok (.goto 19, 3) := by decide +kernel
theorem dX11_set_83 : decode cX11_set 83 = .ok (.aload_n 0, 1) := by decide +kernel
theorem dX11_set_84 : decode cX11_set 84 = .ok (.getfield 17, 3) := by decide +kernel
theorem dX11_set_87 : decode cX11_set 87 = .ok (.iload_n 1, 1) := by decide +kernel
theorem dX11_set_88 : decode cX11_set 88 = .ok (.iaload, 1) := by decide +kernel
theorem dX11_set_89 : decode cX11_set 89 = .ok (.iconst 1, 1) := by decide +kernel
theorem dX11_set_90 : decode cX11_set 90 = .ok (.if_icmp .ne 8, 3) := by decide +kernel
theorem dX11_set_93 : decode cX11_set 93 = .ok (.iload_n 3, 1) := by decide +kernel
theorem dX11_set_94 : decode cX11_set 94 = .ok (.i2s, 1) := by decide +kernel
theorem dX11_set_95 : decode cX11_set 95 = .ok (.goto 4, 3) := by decide +kernel
theorem dX11_set_98 : decode cX11_set 98 = .ok (.iload_n 3, 1) := by decide +kernel
theorem dX11_set_99 : decode cX11_set 99 = .ok (.iastore, 1) := by decide +kernel
theorem dX11_set_100 : decode cX11_set 100 = .ok (.aload_n 0, 1) := by decide +kernel
theorem dX11_set_101 : decode cX11_set 101 = .ok (.getfield 24, 3) := by decide +kernel
theorem dX11_set_104 : decode cX11_set 104 = .ok (.bipush 60, 2) := by decide +kernel
theorem dX11_set_106 : decode cX11_set 106 = .ok (.iload_n 1, 1) := by decide +kernel
theorem dX11_set_107 : decode cX11_set 107 = .ok (.imul, 1) := by decide +kernel
theorem dX11_set_108 : decode cX11_set 108 = .ok (.iload_n 2, 1) := by decide +kernel
theorem dX11_set_109 : decode cX11_set 109 = .ok (.iadd, 1) := by decide +kernel
theorem dX11_set_110 : decode cX11_set 110 = .ok (.iaload, 1) := by decide +kernel
theorem dX11_set_111 : decode cX11_set 111 = .ok (.ireturn, 1) := by decide +kernel
theorem dX11_copy_0 : decode cX11_copy 0 = .ok (.aload_n 0, 1) := by decide +kernel
theorem dX11_copy_1 : decode cX11_copy 1 = .ok (.iconst 0, 1) := by decide +kernel
theorem dX11_copy_2 : decode cX11_copy 2 = .ok (.putfield 1, 3) := by decide +kernel
theorem dX11_copy_5 : decode cX11_copy 5 = .ok (.iload_n 1, 1) := by decide +kernel
theorem dX11_copy_6 : decode cX11_copy 6 = .ok (.invokestatic 102, 3) := by decide +kernel
theorem dX11_copy_9 : decode cX11_copy 9 = .ok (.ifCond .eq 10, 3) := by decide +kernel
theorem dX11_copy_12 : decode cX11_copy 12 = .ok (.iload_n 3, 1) := by decide +kernel
theorem dX11_copy_13 : decode cX11_copy 13 = .ok (.invokestatic 102, 3) := by decide +kernel
theorem dX11_copy_16 : decode cX11_copy 16 = .ok (.ifCond .ne 6, 3) := by decide +kernel
theorem dX11_copy_19 : decode cX11_copy 19 = .ok (.ldc 108, 2) := by decide +kernel
theorem dX11_copy_21 : decode cX11_copy 21 = .ok (.ireturn, 1) := by decide +kernel
theorem dX11_copy_22 : decode cX11_copy 22 = .ok (.aload_n 0, 1) := by decide +kernel
theorem dX11_copy_23 : decode cX11_copy 23 = .ok (.iconst 0, 1) := by decide +kernel
theorem dX11_copy_24 : decode cX11_copy 24 = .ok (.putfield 7, 3) := by decide +kernel
theorem dX11_copy_27 : decode cX11_copy 27 = .ok (.aload_n 0, 1) := by decide +kernel
theorem dX11_copy_28 : decode cX11_copy 28 = .ok (.getfield 17, 3) := by decide +kernel
theorem dX11_copy_31 : decode cX11_copy 31 = .ok (.iload_n 1, 1) := by decide +kernel
theorem dX11_copy_32 : decode cX11_copy 32 = .ok (.iaload, 1) := by decide +kernel
theorem dX11_copy_33 : decode cX11_copy 33 = .ok (.ifCond .lt 12, 3) := by decide +kernel
theorem dX11_copy_36 : decode cX11_copy 36 = .ok (.aload_n 0, 1) := by decide +kernel
theorem dX11_copy_37 : decode cX11_copy 37 = .ok (.getfield 17, 3) := by decide +kernel
theorem dX11_copy_40 : decode cX11_copy 40 = .ok (.iload_n 3, 1) := by decide +kernel
theorem dX11_copy_41 : decode cX11_copy 41 = .ok (.iaload, 1) := by decide +kernel
theorem dX11_copy_42 : decode cX11_copy 42 = .ok (.ifCond .ge 9, 3) := by decide +kernel
theorem dX11_copy_45 : decode cX11_copy 45 = .ok (.aload_n 0, 1) := by decide +kernel
theorem dX11_copy_46 : decode cX11_copy 46 = .ok (.iconst 1, 1) := by decide +kernel
theorem dX11_copy_47 : decode cX11_copy 47 = .ok (.invokevirtual 109, 3) := by decide +kernel
theorem dX11_copy_50 : decode cX11_copy 50 = .ok (.ireturn, 1) := by decide +kernel
theorem dX11_copy_51 : decode cX11_copy 51 = .ok (.aload_n 0, 1) := by decide +kernel
theorem dX11_copy_52 : decode cX11_copy 52 = .ok (.getfield 17, 3) := by decide +kernel
theorem dX11_copy_55 : decode cX11_copy 55 = .ok (.iload_n 1, 1) := by decide +kernel
theorem dX11_copy_56 : decode cX11_copy 56 = .ok (.iaload, 1) := by decide +kernel
theorem dX11_copy_57 : decode cX11_copy 57 = .ok (.aload_n 0, 1) := by decide +kernel
theorem dX11_copy_58 : decode cX11_copy 58 = .ok (.getfield 17, 3) := by decide +kernel
theorem dX11_copy_61 : decode cX11_copy 61 = .ok (.iload_n 3, 1) := by decide +kernel
theorem dX11_copy_62 : decode cX11_copy 62 = .ok (.iaload, 1) := by decide +kernel
theorem dX11_copy_63 : decode cX11_copy 63 = .ok (.if_icmp .eq 9, 3) := by decide +kernel
theorem dX11_copy_66 : decode cX11_copy 66 = .ok (.aload_n 0, 1) := by decide +kernel
theorem dX11_copy_67 : decode cX11_copy 67 = .ok (.iconst 5, 1) := by decide +kernel
theorem dX11_copy_68 : decode cX11_copy 68 = .ok (.invokevirtual 109, 3) := by decide +kernel
theorem dX11_copy_71 : decode cX11_copy 71 = .ok (.ireturn, 1) := by decide +kernel
theorem dX11_copy_72 : decode cX11_copy 72 = .ok (.iload_n 2, 1) := by decide +kernel
theorem dX11_copy_73 : decode cX11_copy 73 = .ok (.ifCond .lt 48, 3) := by decide +kernel
theorem dX11_copy_76 : decode cX11_copy 76 = .ok (.iload 4, 2) := by decide +kernel
theorem dX11_copy_78 : decode cX11_copy 78 = .ok (.ifCond .lt 43, 3) := by decide +kernel
theorem dX11_copy_81 : decode cX11_copy 81 = .ok (.iload 5, 2) := by decide +kernel
theorem dX11_copy_83 : decode cX11_copy 83 = .ok (.ifCond .lt 38, 3) := by decide +kernel
theorem dX11_copy_86 : decode cX11_copy 86 = .ok (.iload_n 2, 1) := by decide +kernel
theorem dX11_copy_87 : decode cX11_copy 87 = .ok (.i2l, 1) := by decide +kernel
theorem dX11_copy_88 : decode cX11_copy 88 = .ok (.iload 5, 2) := by decide +kernel
theorem dX11_copy_90 : decode cX11_copy 90 = .ok (.i2l, 1) := by decide +kernel
theorem dX11_copy_91 : decode cX11_copy 91 = .ok (.ladd, 1) := by decide +kernel
theorem dX11_copy_92 : decode cX11_copy 92 = .ok (.aload_n 0, 1) := by decide +kernel
theorem dX11_copy_93 : decode cX11_copy 93 = .ok (.getfield 21, 3) := by decide +kernel
theorem dX11_copy_96 : decode cX11_copy 96 = .ok (.iload_n 1, 1) := by decide +kernel
theorem dX11_copy_97 : decode cX11_copy 97 = .ok (.iaload, 1) := by decide +kernel
theorem dX11_copy_98 : decode cX11_copy 98 = .ok (.i2l, 1) := by decide +kernel
theorem dX11_copy_99 : decode cX11_copy 99 = .ok (.lcmp, 1) := by decide +kernel
theorem dX11_copy_100 : decode cX11_copy 100 = .ok (.ifCond .gt 21, 3) := by decide +kernel
theorem dX11_copy_103 : decode cX11_copy 103 = .ok (.iload 4, 2) := by decide +kernel
theorem dX11_copy_105 : decode cX11_copy 105 = .ok (.i2l, 1) := by decide +kernel
theorem dX11_copy_106 : decode cX11_copy 106 = .ok (.iload 5, 2) := by decide +kernel
theorem dX11_copy_108 : decode cX11_copy 108 = .ok (.i2l, 1) := by decide +kernel
theorem dX11_copy_109 : decode cX11_copy 109 = .ok (.ladd, 1) := by decide +kernel
theorem dX11_copy_110 : decode cX11_copy 110 = .ok (.aload_n 0, 1) := by decide +kernel
theorem dX11_copy_111 : decode cX11_copy 111 = .ok (.getfield 21, 3) := by decide +kernel
theorem dX11_copy_114 : decode cX11_copy 114 = .ok (.iload_n 3, 1) := by decide +kernel
theorem dX11_copy_115 : decode cX11_copy 115 = .ok (.iaload, 1) := by decide +kernel
theorem dX11_copy_116 : decode cX11_copy 116 = .ok (.i2l, 1) := by decide +kernel
theorem dX11_copy_117 : decode cX11_copy 117 = .ok (.lcmp, 1) := by decide +kernel
theorem dX11_copy_118 : decode cX11_copy 118 = .ok (.ifCond .le 9, 3) := by decide +kernel
theorem dX11_copy_121 : decode cX11_copy 121 = .ok (.aload_n 0, 1) := by decide +kernel
theorem dX11_copy_122 : decode cX11_copy 122 = .ok (.iconst 2, 1) := by decide +kernel
theorem dX11_copy_123 : decode cX11_copy 123 = .ok (.invokevirtual 109, 3) := by decide +kernel
theorem dX11_copy_126 : decode cX11_copy 126 = .ok (.ireturn, 1) := by decide +kernel
theorem dX11_copy_127 : decode cX11_copy 127 = .ok (.iload_n 2, 1) := by decide +kernel
theorem dX11_copy_128 : decode cX11_copy 128 = .ok (.iload 4, 2) := by decide +kernel
theorem dX11_copy_130 : decode cX11_copy 130 = .ok (.if_icmp .lt 7, 3) := by decide +kernel
theorem dX11_copy_133 : decode cX11_copy 133 = .ok (.iconst 1, 1) := by decide +kernel
theorem dX11_copy_134 : decode cX11_copy 134 = .ok (.goto 4, 3) := by decide +kernel
theorem dX11_copy_137 : decode cX11_copy 137 = .ok (.iconst 0, 1) := by decide +kernel
theorem dX11_copy_138 : decode cX11_copy 138 = .ok (.istore 6, 2) := by decide +kernel
theorem dX11_copy_140 : decode cX11_copy 140 = .ok (.iconst 0, 1) := by decide +kernel
theorem dX11_copy_141 : decode cX11_copy 141 = .ok (.istore 7, 2) := by decide +kernel
theorem dX11_copy_143 : decode cX11_copy 143 = .ok (.iload 7, 2) := by decide +kernel
theorem dX11_copy_145 : decode cX11_copy 145 = .ok (.iload 5, 2) := by decide +kernel
theorem dX11_copy_147 : decode cX11_copy 147 = .ok (.if_icmp .ge 57, 3) := by decide +kernel
theorem dX11_copy_150 : decode cX11_copy 150 = .ok (.iload 6, 2) := by decide +kernel
theorem dX11_copy_152 : decode cX11_copy 152 = .ok (.ifCond .eq 8, 3) := by decide +kernel
theorem dX11_copy_155 : decode cX11_copy 155 = .ok (.iload 7, 2) := by decide +kernel
theorem dX11_copy_157 : decode cX11_copy 157 = .ok (.goto 10, 3) := by decide +kernel
theorem dX11_copy_160 : decode cX11_copy 160 = .ok (.iload 5, 2) := by decide +kernel
theorem dX11_copy_162 : decode cX11_copy 162 = .ok (.iconst 1, 1) := by decide +kernel
theorem dX11_copy_163 : decode cX11_copy 163 = .ok (.isub, 1) := by decide +kernel
theorem dX11_copy_164 : decode cX11_copy 164 = .ok (.iload 7, 2) := by decide +kernel
theorem dX11_copy_166 : decode cX11_copy 166 = .ok (.isub, 1) := by decide +kernel
theorem dX11_copy_167 : decode cX11_copy 167 = .ok (.istore 8, 2) := by decide +kernel
theorem dX11_copy_169 : decode cX11_copy 169 = .ok (.aload_n 0, 1) := by decide +kernel
theorem dX11_copy_170 : decode cX11_copy 170 = .ok (.getfield 24, 3) := by decide +kernel
theorem dX11_copy_173 : decode cX11_copy 173 = .ok (.bipush 60, 2) := by decide +kernel
theorem dX11_copy_175 : decode cX11_copy 175 = .ok (.iload_n 3, 1) := by decide +kernel
theorem dX11_copy_176 : decode cX11_copy 176 = .ok (.imul, 1) := by decide +kernel
theorem dX11_copy_177 : decode cX11_copy 177 = .ok (.iload 4, 2) := by decide +kernel
theorem dX11_copy_179 : decode cX11_copy 179 = .ok (.iadd, 1) := by decide +kernel
theorem dX11_copy_180 : decode cX11_copy 180 = .ok (.iload 8, 2) := by decide +kernel
theorem dX11_copy_182 : decode cX11_copy 182 = .ok (.iadd, 1) := by decide +kernel
theorem dX11_copy_183 : decode cX11_copy 183 = .ok (.aload_n 0, 1) := by decide +kernel
theorem dX11_copy_184 : decode cX11_copy 184 = .ok (.getfield 24, 3) := by decide +kernel
theorem dX11_copy_187 : decode cX11_copy 187 = .ok (.bipush 60, 2) := by decide +kernel
theorem dX11_copy_189 : decode cX11_copy 189 = .ok (.iload_n 1, 1) := by decide +kernel
theorem dX11_copy_190 : decode cX11_copy 190 = .ok (.imul, 1) := by decide +kernel
theorem dX11_copy_191 : decode cX11_copy 191 = .ok (.iload_n 2, 1) := by decide +kernel
theorem dX11_copy_192 : decode cX11_copy 192 = .ok (.iadd, 1) := by decide +kernel
theorem dX11_copy_193 : decode cX11_copy 193 = .ok (.iload 8, 2) := by decide +kernel
theorem dX11_copy_195 : decode cX11_copy 195 = .ok (.iadd, 1) := by decide +kernel
theorem dX11_copy_196 : decode cX11_copy 196 = .ok (.iaload, 1) := by decide +kernel
theorem dX11_copy_197 : decode cX11_copy 197 = .ok (.iastore, 1) := by decide +kernel
theorem dX11_copy_198 : decode cX11_copy 198 = .ok (.iinc 7 1, 3) := by decide +kernel
theorem dX11_copy_201 : decode cX11_copy 201 = .ok (.goto (-58), 3) := by decide +kernel
theorem dX11_copy_204 : decode cX11_copy 204 = .ok (.iload 5, 2) := by decide +kernel
theorem dX11_copy_206 : decode cX11_copy 206 = .ok (.ireturn, 1) := by decide +kernel
theorem dX11_drop_0 : decode cX11_drop 0 = .ok (.aload_n 0, 1) := by decide +kernel
theorem dX11_drop_1 : decode cX11_drop 1 = .ok (.iconst 0, 1) := by decide +kernel
theorem dX11_drop_2 : decode cX11_drop 2 = .ok (.putfield 1, 3) := by decide +kernel
theorem dX11_drop_5 : decode cX11_drop 5 = .ok (.iload_n 1, 1) := by decide +kernel
theorem dX11_drop_6 : decode cX11_drop 6 = .ok (.invokestatic 102, 3) := by decide +kernel
theorem dX11_drop_9 : decode cX11_drop 9 = .ok (.ifCond .ne 6, 3) := by decide +kernel
theorem dX11_drop_12 : decode cX11_drop 12 = .ok (.ldc 108, 2) := by decide +kernel
theorem dX11_drop_14 : decode cX11_drop 14 = .ok (.ireturn, 1) := by decide +kernel
theorem dX11_drop_15 : decode cX11_drop 15 = .ok (.aload_n 0, 1) := by decide +kernel
theorem dX11_drop_16 : decode cX11_drop 16 = .ok (.iconst 0, 1) := by decide +kernel
theorem dX11_drop_17 : decode cX11_drop 17 = .ok (.putfield 7, 3) := by decide +kernel
theorem dX11_drop_20 : decode cX11_drop 20 = .ok (.aload_n 0, 1) := by decide +kernel
theorem dX11_drop_21 : decode cX11_drop 21 = .ok (.getfield 17, 3) := by decide +kernel
theorem dX11_drop_24 : decode cX11_drop 24 = .ok (.iload_n 1, 1) := by decide +kernel
theorem dX11_drop_25 : decode cX11_drop 25 = .ok (.iaload, 1) := by decide +kernel
theorem dX11_drop_26 : decode cX11_drop 26 = .ok (.ifCond .ge 9, 3) := by decide +kernel
theorem dX11_drop_29 : decode cX11_drop 29 = .ok (.aload_n 0, 1) := by decide +kernel
theorem dX11_drop_30 : decode cX11_drop 30 = .ok (.iconst 1, 1) := by decide +kernel
theorem dX11_drop_31 : decode cX11_drop 31 = .ok (.invokevirtual 109, 3) := by decide +kernel
theorem dX11_drop_34 : decode cX11_drop 34 = .ok (.ireturn, 1) := by decide +kernel
theorem dX11_drop_35 : decode cX11_drop 35 = .ok (.aload_n 0, 1) := by decide +kernel
theorem dX11_drop_36 : decode cX11_drop 36 = .ok (.getfield 17, 3) := by decide +kernel
theorem dX11_drop_39 : decode cX11_drop 39 = .ok (.iload_n 1, 1) := by decide +kernel
theorem dX11_drop_40 : decode cX11_drop 40 = .ok (.iconst (-1), 1) := by decide +kernel
theorem dX11_drop_41 : decode cX11_drop 41 = .ok (.iastore, 1) := by decide +kernel
theorem dX11_drop_42 : decode cX11_drop 42 = .ok (.aload_n 0, 1) := by decide +kernel
theorem dX11_drop_43 : decode cX11_drop 43 = .ok (.getfield 21, 3) := by decide +kernel
theorem dX11_drop_46 : decode cX11_drop 46 = .ok (.iload_n 1, 1) := by decide +kernel
theorem dX11_drop_47 : decode cX11_drop 47 = .ok (.iaload, 1) := by decide +kernel
theorem dX11_drop_48 : decode cX11_drop 48 = .ok (.ireturn, 1) := by decide +kernel
theorem dX11_lookItems_0 : decode cX11_lookItems 0 = .ok (.aload_n 0, 1) := by decide +kernel
theorem dX11_lookItems_1 : decode cX11_lookItems 1 = .ok (.getfield 17, 3) := by decide +kernel
theorem dX11_lookItems_4 : decode cX11_lookItems 4 = .ok (.iload_n 1, 1) := by decide +kernel
theorem dX11_lookItems_5 : decode cX11_lookItems 5 = .ok (.iaload, 1) := by decide +kernel
theorem dX11_lookItems_6 : decode cX11_lookItems 6 = .ok (.ifCond .ge 9, 3) := by decide +kernel
theorem dX11_lookItems_9 : decode cX11_lookItems 9 = .ok (.aload_n 0, 1) := by decide +kernel
theorem dX11_lookItems_10 : decode cX11_lookItems 10 = .ok (.iconst 1, 1) := by decide +kernel
theorem dX11_lookItems_11 : decode cX11_lookItems 11 = .ok (.invokevirtual 109, 3) := by decide +kernel
theorem dX11_lookItems_14 : decode cX11_lookItems 14 = .ok (.ireturn, 1) := by decide +kernel
theorem dX11_lookItems_15 : decode cX11_lookItems 15 = .ok (.iload_n 2, 1) := by decide +kernel
theorem dX11_lookItems_16 : decode cX11_lookItems 16 = .ok (.ifCond .lt 19, 3) := by decide +kernel
theorem dX11_lookItems_19 : decode cX11_lookItems 19 = .ok (.iload_n 2, 1) := by decide +kernel
theorem dX11_lookItems_20 : decode cX11_lookItems 20 = .ok (.i2l, 1) := by decide +kernel
theorem dX11_lookItems_21 : decode cX11_lookItems 21 = .ok (.iload_n 3, 1) := by decide +kernel
theorem dX11_lookItems_22 : decode cX11_lookItems 22 = .ok (.i2l, 1) := by decide +kernel
theorem dX11_lookItems_23 : decode cX11_lookItems 23 = .ok (.ladd, 1) := by decide +kernel
theorem dX11_lookItems_24 : decode cX11_lookItems 24 = .ok (.aload_n 0, 1) := by decide +kernel
theorem dX11_lookItems_25 : decode cX11_lookItems 25 = .ok (.getfield 21, 3) := by decide +kernel
theorem dX11_lookItems_28 : decode cX11_lookItems 28 = .ok (.iload_n 1, 1) := by decide +kernel
theorem dX11_lookItems_29 : decode cX11_lookItems 29 = .ok (.iaload, 1) := by decide +kernel
theorem dX11_lookItems_30 : decode cX11_lookItems 30 = .ok (.i2l, 1) := by decide +kernel
theorem dX11_lookItems_31 : decode cX11_lookItems 31 = .ok (.lcmp, 1) := by decide +kernel
theorem dX11_lookItems_32 : decode cX11_lookItems 32 = .ok (.ifCond .le 11, 3) := by decide +kernel
theorem dX11_lookItems_35 : decode cX11_lookItems 35 = .ok (.aload_n 0, 1) := by decide +kernel
theorem dX11_lookItems_36 : decode cX11_lookItems 36 = .ok (.iconst 2, 1) := by decide +kernel
theorem dX11_lookItems_37 : decode cX11_lookItems 37 = .ok (.invokevirtual 109, 3) := by decide +kernel
theorem dX11_lookItems_40 : decode cX11_lookItems 40 = .ok (.goto 4, 3) := by decide +kernel
theorem dX11_lookItems_43 : decode cX11_lookItems 43 = .ok (.iconst 0, 1) := by decide +kernel
theorem dX11_lookItems_44 : decode cX11_lookItems 44 = .ok (.ireturn, 1) := by decide +kernel
theorem dX11_isOffice_0 : decode cX11_isOffice 0 = .ok (.iload_n 0, 1) := by decide +kernel
theorem dX11_isOffice_1 : decode cX11_isOffice 1 = .ok (.i2l, 1) := by decide +kernel
theorem dX11_isOffice_2 : decode cX11_isOffice 2 = .ok (.lconst 0, 1) := by decide +kernel
theorem dX11_isOffice_3 : decode cX11_isOffice 3 = .ok (.ldc2_w 113, 3) := by decide +kernel
theorem dX11_isOffice_6 : decode cX11_isOffice 6 = .ok (.invokestatic 96, 3) := by decide +kernel
theorem dX11_isOffice_9 : decode cX11_isOffice 9 = .ok (.ireturn, 1) := by decide +kernel
theorem dX11_key_0 : decode cX11_key 0 = .ok (.aload_n 0, 1) := by decide +kernel
theorem dX11_key_1 : decode cX11_key 1 = .ok (.iconst 0, 1) := by decide +kernel
theorem dX11_key_2 : decode cX11_key 2 = .ok (.putfield 1, 3) := by decide +kernel
theorem dX11_key_5 : decode cX11_key 5 = .ok (.iload_n 1, 1) := by decide +kernel
theorem dX11_key_6 : decode cX11_key 6 = .ok (.invokestatic 115, 3) := by decide +kernel
theorem dX11_key_9 : decode cX11_key 9 = .ok (.ifCond .eq 22, 3) := by decide +kernel
theorem dX11_key_12 : decode cX11_key 12 = .ok (.iload_n 2, 1) := by decide +kernel
theorem dX11_key_13 : decode cX11_key 13 = .ok (.invokestatic 118, 3) := by decide +kernel
theorem dX11_key_16 : decode cX11_key 16 = .ok (.ifCond .eq 15, 3) := by decide +kernel
theorem dX11_key_19 : decode cX11_key 19 = .ok (.iload_n 3, 1) := by decide +kernel
theorem dX11_key_20 : decode cX11_key 20 = .ok (.i2l, 1) := by decide +kernel
theorem dX11_key_21 : decode cX11_key 21 = .ok (.lconst 1, 1) := by decide +kernel
theorem dX11_key_22 : decode cX11_key 22 = .ok (.ldc2_w 121, 3) := by decide +kernel
theorem dX11_key_25 : decode cX11_key 25 = .ok (.invokestatic 96, 3) := by decide +kernel
theorem dX11_key_28 : decode cX11_key 28 = .ok (.ifCond .ne 6, 3) := by decide +kernel
theorem dX11_key_31 : decode cX11_key 31 = .ok (.ldc 108, 2) := by decide +kernel
theorem dX11_key_33 : decode cX11_key 33 = .ok (.ireturn, 1) := by decide +kernel
theorem dX11_key_34 : decode cX11_key 34 = .ok (.aload_n 0, 1) := by decide +kernel
theorem dX11_key_35 : decode cX11_key 35 = .ok (.getfield 27, 3) := by decide +kernel
theorem dX11_key_38 : decode cX11_key 38 = .ok (.iload_n 1, 1) := by decide +kernel
theorem dX11_key_39 : decode cX11_key 39 = .ok (.iaload, 1) := by decide +kernel
theorem dX11_key_40 : decode cX11_key 40 = .ok (.bipush 6, 2) := by decide +kernel
theorem dX11_key_42 : decode cX11_key 42 = .ok (.if_icmp .ne 6, 3) := by decide +kernel
theorem dX11_key_45 : decode cX11_key 45 = .ok (.ldc 123, 2) := by decide +kernel
theorem dX11_key_47 : decode cX11_key 47 = .ok (.ireturn, 1) := by decide +kernel
theorem dX11_key_48 : decode cX11_key 48 = .ok (.aload_n 0, 1) := by decide +kernel
theorem dX11_key_49 : decode cX11_key 49 = .ok (.getfield 30, 3) := by decide +kernel
theorem dX11_key_52 : decode cX11_key 52 = .ok (.bipush 6, 2) := by decide +kernel
theorem dX11_key_54 : decode cX11_key 54 = .ok (.iload_n 1, 1) := by decide +kernel
theorem dX11_key_55 : decode cX11_key 55 = .ok (.imul, 1) := by decide +kernel
theorem dX11_key_56 : decode cX11_key 56 = .ok (.aload_n 0, 1) := by decide +kernel
theorem dX11_key_57 : decode cX11_key 57 = .ok (.getfield 27, 3) := by decide +kernel
theorem dX11_key_60 : decode cX11_key 60 = .ok (.iload_n 1, 1) := by decide +kernel
theorem dX11_key_61 : decode cX11_key 61 = .ok (.iaload, 1) := by decide +kernel
theorem dX11_key_62 : decode cX11_key 62 = .ok (.iadd, 1) := by decide +kernel
theorem dX11_key_63 : decode cX11_key 63 = .ok (.iload_n 2, 1) := by decide +kernel
theorem dX11_key_64 : decode cX11_key 64 = .ok (.iastore, 1) := by decide +kernel
theorem dX11_key_65 : decode cX11_key 65 = .ok (.aload_n 0, 1) := by decide +kernel
theorem dX11_key_66 : decode cX11_key 66 = .ok (.getfield 33, 3) := by decide +kernel
theorem dX11_key_69 : decode cX11_key 69 = .ok (.bipush 6, 2) := by decide +kernel
theorem dX11_key_71 : decode cX11_key 71 = .ok (.iload_n 1, 1) := by decide +kernel
theorem dX11_key_72 : decode cX11_key 72 = .ok (.imul, 1) := by decide +kernel
theorem dX11_key_73 : decode cX11_key 73 = .ok (.aload_n 0, 1) := by decide +kernel
theorem dX11_key_74 : decode cX11_key 74 = .ok (.getfield 27, 3) := by decide +kernel
theorem dX11_key_77 : decode cX11_key 77 = .ok (.iload_n 1, 1) := by decide +kernel
theorem dX11_key_78 : decode cX11_key 78 = .ok (.iaload, 1) := by decide +kernel
theorem dX11_key_79 : decode cX11_key 79 = .ok (.iadd, 1) := by decide +kernel
theorem dX11_key_80 : decode cX11_key 80 = .ok (.iload_n 3, 1) := by decide +kernel
theorem dX11_key_81 : decode cX11_key 81 = .ok (.iastore, 1) := by decide +kernel
theorem dX11_key_82 : decode cX11_key 82 = .ok (.aload_n 0, 1) := by decide +kernel
theorem dX11_key_83 : decode cX11_key 83 = .ok (.getfield 27, 3) := by decide +kernel
theorem dX11_key_86 : decode cX11_key 86 = .ok (.iload_n 1, 1) := by decide +kernel
theorem dX11_key_87 : decode cX11_key 87 = .ok (.dup2, 1) := by decide +kernel
theorem dX11_key_88 : decode cX11_key 88 = .ok (.iaload, 1) := by decide +kernel
theorem dX11_key_89 : decode cX11_key 89 = .ok (.iconst 1, 1) := by decide +kernel
theorem dX11_key_90 : decode cX11_key 90 = .ok (.iadd, 1) := by decide +kernel
theorem dX11_key_91 : decode cX11_key 91 = .ok (.iastore, 1) := by decide +kernel
theorem dX11_key_92 : decode cX11_key 92 = .ok (.aload_n 0, 1) := by decide +kernel
theorem dX11_key_93 : decode cX11_key 93 = .ok (.getfield 27, 3) := by decide +kernel
theorem dX11_key_96 : decode cX11_key 96 = .ok (.iload_n 1, 1) := by decide +kernel
theorem dX11_key_97 : decode cX11_key 97 = .ok (.iaload, 1) := by decide +kernel
theorem dX11_key_98 : decode cX11_key 98 = .ok (.ireturn, 1) := by decide +kernel
theorem dX11_keyFor_0 : decode cX11_keyFor 0 = .ok (.ldc 93, 2) := by decide +kernel
theorem dX11_keyFor_2 : decode cX11_keyFor 2 = .ok (.istore_n 3, 1) := by decide +kernel
theorem dX11_keyFor_3 : decode cX11_keyFor 3 = .ok (.bipush 6, 2) := by decide +kernel
theorem dX11_keyFor_5 : decode cX11_keyFor 5 = .ok (.iload_n 1, 1) := by decide +kernel
theorem dX11_keyFor_6 : decode cX11_keyFor 6 = .ok (.imul, 1) := by decide +kernel
theorem dX11_keyFor_7 : decode cX11_keyFor 7 = .ok (.istore 4, 2) := by decide +kernel
theorem dX11_keyFor_9 : decode cX11_keyFor 9 = .ok (.iload 4, 2) := by decide +kernel
theorem dX11_keyFor_11 : decode cX11_keyFor 11 = .ok (.bipush 6, 2) := by decide +kernel
theorem dX11_keyFor_13 : decode cX11_keyFor 13 = .ok (.iload_n 1, 1) := by decide +kernel
theorem dX11_keyFor_14 : decode cX11_keyFor 14 = .ok (.imul, 1) := by decide +kernel
theorem dX11_keyFor_15 : decode cX11_keyFor 15 = .ok (.aload_n 0, 1) := by decide +kernel
theorem dX11_keyFor_16 : decode cX11_keyFor 16 = .ok (.getfield 27, 3) := by decide +kernel
theorem dX11_keyFor_19 : decode cX11_keyFor 19 = .ok (.iload_n 1, 1) := by decide +kernel
theorem dX11_keyFor_20 : decode cX11_keyFor 20 = .ok (.iaload, 1) := by decide +kernel
theorem dX11_keyFor_21 : decode cX11_keyFor 21 = .ok (.iadd, 1) := by decide +kernel
theorem dX11_keyFor_22 : decode cX11_keyFor 22 = .ok (.if_icmp .ge 49, 3) := by decide +kernel
theorem dX11_keyFor_25 : decode cX11_keyFor 25 = .ok (.aload_n 0, 1) := by decide +kernel
theorem dX11_keyFor_26 : decode cX11_keyFor 26 = .ok (.getfield 30, 3) := by decide +kernel
theorem dX11_keyFor_29 : decode cX11_keyFor 29 = .ok (.iload 4, 2) := by decide +kernel
theorem dX11_keyFor_31 : decode cX11_keyFor 31 = .ok (.iaload, 1) := by decide +kernel
theorem dX11_keyFor_32 : decode cX11_keyFor 32 = .ok (.iload_n 2, 1) := by decide +kernel
theorem dX11_keyFor_33 : decode cX11_keyFor 33 = .ok (.if_icmp .gt 30, 3) := by decide +kernel
theorem dX11_keyFor_36 : decode cX11_keyFor 36 = .ok (.iload_n 3, 1) := by decide +kernel
theorem dX11_keyFor_37 : decode cX11_keyFor 37 = .ok (.ldc 93, 2) := by decide +kernel
theorem dX11_keyFor_39 : decode cX11_keyFor 39 = .ok (.if_icmp .eq 19, 3) := by decide +kernel
theorem dX11_keyFor_42 : decode cX11_keyFor 42 = .ok (.aload_n 0, 1) := by decide +kernel
theorem dX11_keyFor_43 : decode cX11_keyFor 43 = .ok (.getfield 30, 3) := by decide +kernel
theorem dX11_keyFor_46 : decode cX11_keyFor 46 = .ok (.iload 4, 2) := by decide +kernel
theorem dX11_keyFor_48 : decode cX11_keyFor 48 = .ok (.iaload, 1) := by decide +kernel
theorem dX11_keyFor_49 : decode cX11_keyFor 49 = .ok (.aload_n 0, 1) := by decide +kernel
theorem dX11_keyFor_50 : decode cX11_keyFor 50 = .ok (.getfield 30, 3) := by decide +kernel
theorem dX11_keyFor_53 : decode cX11_keyFor 53 = .ok (.iload_n 3, 1) := by decide +kernel
theorem dX11_keyFor_54 : decode cX11_keyFor 54 = .ok (.iaload, 1) := by decide +kernel
theorem dX11_keyFor_55 : decode cX11_keyFor 55 = .ok (.if_icmp .lt 8, 3) := by decide +kernel
theorem dX11_keyFor_58 : decode cX11_keyFor 58 = .ok (.iload 4, 2) := by decide +kernel
theorem dX11_keyFor_60 : decode cX11_keyFor 60 = .ok (.goto 4, 3) := by decide +kernel
theorem dX11_keyFor_63 : decode cX11_keyFor 63 = .ok (.iload_n 3, 1) := by decide +kernel
theorem dX11_keyFor_64 : decode cX11_keyFor 64 = .ok (.istore_n 3, 1) := by decide +kernel
theorem dX11_keyFor_65 : decode cX11_keyFor 65 = .ok (.iinc 4 1, 3) := by decide +kernel
theorem dX11_keyFor_68 : decode cX11_keyFor 68 = .ok (.goto (-59), 3) := by decide +kernel
theorem dX11_keyFor_71 : decode cX11_keyFor 71 = .ok (.iload_n 3, 1) := by decide +kernel
theorem dX11_keyFor_72 : decode cX11_keyFor 72 = .ok (.ldc 93, 2) := by decide +kernel
theorem dX11_keyFor_74 : decode cX11_keyFor 74 = .ok (.if_icmp .ne 10, 3) := by decide +kernel
theorem dX11_keyFor_77 : decode cX11_keyFor 77 = .ok (.bipush 100, 2) := by decide +kernel
theorem dX11_keyFor_79 : decode cX11_keyFor 79 = .ok (.iload_n 1, 1) := by decide +kernel
theorem dX11_keyFor_80 : decode cX11_keyFor 80 = .ok (.iadd, 1) := by decide +kernel
theorem dX11_keyFor_81 : decode cX11_keyFor 81 = .ok (.goto 9, 3) := by decide +kernel
theorem dX11_keyFor_84 : decode cX11_keyFor 84 = .ok (.aload_n 0, 1) := by decide +kernel
theorem dX11_keyFor_85 : decode cX11_keyFor 85 = .ok (.getfield 33, 3) := by decide +kernel
theorem dX11_keyFor_88 : decode cX11_keyFor 88 = .ok (.iload_n 3, 1) := by decide +kernel
theorem dX11_keyFor_89 : decode cX11_keyFor 89 = .ok (.iaload, 1) := by decide +kernel
theorem dX11_keyFor_90 : decode cX11_keyFor 90 = .ok (.ireturn, 1) := by decide +kernel
theorem dX11_keyOn_0 : decode cX11_keyOn 0 = .ok (.aload_n 0, 1) := by decide +kernel
theorem dX11_keyOn_1 : decode cX11_keyOn 1 = .ok (.iconst 0, 1) := by decide +kernel
theorem dX11_keyOn_2 : decode cX11_keyOn 2 = .ok (.putfield 1, 3) := by decide +kernel
theorem dX11_keyOn_5 : decode cX11_keyOn 5 = .ok (.iload_n 1, 1) := by decide +kernel
theorem dX11_keyOn_6 : decode cX11_keyOn 6 = .ok (.invokestatic 115, 3) := by decide +kernel
theorem dX11_keyOn_9 : decode cX11_keyOn 9 = .ok (.ifCond .eq 10, 3) := by decide +kernel
theorem dX11_keyOn_12 : decode cX11_keyOn 12 = .ok (.iload_n 2, 1) := by decide +kernel
theorem dX11_keyOn_13 : decode cX11_keyOn 13 = .ok (.invokestatic 118, 3) := by decide +kernel
theorem dX11_keyOn_16 : decode cX11_keyOn 16 = .ok (.ifCond .ne 8, 3) := by decide +kernel
theorem dX11_keyOn_19 : decode cX11_keyOn 19 = .ok (.ldc 108, 2) := by decide +kernel
theorem dX11_keyOn_21 : decode cX11_keyOn 21 = .ok (.goto 9, 3) := by decide +kernel
theorem dX11_keyOn_24 : decode cX11_keyOn 24 = .ok (.aload_n 0, 1) := by decide +kernel
theorem dX11_keyOn_25 : decode cX11_keyOn 25 = .ok (.iload_n 1, 1) := by decide +kernel
theorem dX11_keyOn_26 : decode cX11_keyOn 26 = .ok (.iload_n 2, 1) := by decide +kernel
theorem dX11_keyOn_27 : decode cX11_keyOn 27 = .ok (.invokevirtual 124, 3) := by decide +kernel
theorem dX11_keyOn_30 : decode cX11_keyOn 30 = .ok (.ireturn, 1) := by decide +kernel
theorem dX11_close_0 : decode cX11_close 0 = .ok (.aload_n 0, 1) := by decide +kernel
theorem dX11_close_1 : decode cX11_close 1 = .ok (.iconst 0, 1) := by decide +kernel
theorem dX11_close_2 : decode cX11_close 2 = .ok (.putfield 1, 3) := by decide +kernel
theorem dX11_close_5 : decode cX11_close 5 = .ok (.iload_n 1, 1) := by decide +kernel
theorem dX11_close_6 : decode cX11_close 6 = .ok (.invokestatic 115, 3) := by decide +kernel
theorem dX11_close_9 : decode cX11_close 9 = .ok (.ifCond .eq 20, 3) := by decide +kernel
theorem dX11_close_12 : decode cX11_close 12 = .ok (.iload_n 2, 1) := by decide +kernel
theorem dX11_close_13 : decode cX11_close 13 = .ok (.i2l, 1) := by decide +kernel
theorem dX11_close_14 : decode cX11_close 14 = .ok (.lconst 0, 1) := by decide +kernel
theorem dX11_close_15 : decode cX11_close 15 = .ok (.lconst 1, 1) := by decide +kernel
theorem dX11_close_16 : decode cX11_close 16 = .ok (.invokestatic 96, 3) := by decide +kernel
theorem dX11_close_19 : decode cX11_close 19 = .ok (.ifCond .eq 10, 3) := by decide +kernel
theorem dX11_close_22 : decode cX11_close 22 = .ok (.iload_n 3, 1) := by decide +kernel
theorem dX11_close_23 : decode cX11_close 23 = .ok (.invokestatic 118, 3) := by decide +kernel
theorem dX11_close_26 : decode cX11_close 26 = .ok (.ifCond .ne 6, 3) := by decide +kernel
theorem dX11_close_29 : decode cX11_close 29 = .ok (.ldc 108, 2) := by decide +kernel
theorem dX11_close_31 : decode cX11_close 31 = .ok (.ireturn, 1) := by decide +kernel
theorem dX11_close_32 : decode cX11_close 32 = .ok (.aload_n 0, 1) := by decide +kernel
theorem dX11_close_33 : decode cX11_close 33 = .ok (.getfield 36, 3) := by decide +kernel
theorem dX11_close_36 : decode cX11_close 36 = .ok (.iconst 2, 1) := by decide +kernel
theorem dX11_close_37 : decode cX11_close 37 = .ok (.iload_n 1, 1) := by decide +kernel
theorem dX11_close_38 : decode cX11_close 38 = .ok (.imul, 1) := by decide +kernel
theorem dX11_close_39 : decode cX11_close 39 = .ok (.iload_n 2, 1) := by decide +kernel
theorem dX11_close_40 : decode cX11_close 40 = .ok (.iadd, 1) := by decide +kernel
theorem dX11_close_41 : decode cX11_close 41 = .ok (.iaload, 1) := by decide +kernel
theorem dX11_close_42 : decode cX11_close 42 = .ok (.ldc 93, 2) := by decide +kernel
theorem dX11_close_44 : decode cX11_close 44 = .ok (.if_icmp .eq 6, 3) := by decide +kernel
theorem dX11_close_47 : decode cX11_close 47 = .ok (.ldc 128, 2) := by decide +kernel
theorem dX11_close_49 : decode cX11_close 49 = .ok (.ireturn, 1) := by decide +kernel
theorem dX11_close_50 : decode cX11_close 50 = .ok (.aload_n 0, 1) := by decide +kernel
theorem dX11_close_51 : decode cX11_close 51 = .ok (.getfield 36, 3) := by decide +kernel
theorem dX11_close_54 : decode cX11_close 54 = .ok (.iconst 2, 1) := by decide +kernel
theorem dX11_close_55 : decode cX11_close 55 = .ok (.iload_n 1, 1) := by decide +kernel
theorem dX11_close_56 : decode cX11_close 56 = .ok (.imul, 1) := by decide +kernel
theorem dX11_close_57 : decode cX11_close 57 = .ok (.iload_n 2, 1) := by decide +kernel
theorem dX11_close_58 : decode cX11_close 58 = .ok (.iadd, 1) := by decide +kernel
theorem dX11_close_59 : decode cX11_close 59 = .ok (.iload_n 3, 1) := by decide +kernel
theorem dX11_close_60 : decode cX11_close 60 = .ok (.iastore, 1) := by decide +kernel
theorem dX11_close_61 : decode cX11_close 61 = .ok (.iconst 1, 1) := by decide +kernel
theorem dX11_close_62 : decode cX11_close 62 = .ok (.ireturn, 1) := by decide +kernel
theorem dX11_isPaper_0 : decode cX11_isPaper 0 = .ok (.iload_n 1, 1) := by decide +kernel
theorem dX11_isPaper_1 : decode cX11_isPaper 1 = .ok (.i2l, 1) := by decide +kernel
theorem dX11_isPaper_2 : decode cX11_isPaper 2 = .ok (.lconst 0, 1) := by decide +kernel
theorem dX11_isPaper_3 : decode cX11_isPaper 3 = .ok (.aload_n 0, 1) := by decide +kernel
theorem dX11_isPaper_4 : decode cX11_isPaper 4 = .ok (.getfield 129, 3) := by decide +kernel
theorem dX11_isPaper_7 : decode cX11_isPaper 7 = .ok (.iconst 1, 1) := by decide +kernel
theorem dX11_isPaper_8 : decode cX11_isPaper 8 = .ok (.isub, 1) := by decide +kernel
theorem dX11_isPaper_9 : decode cX11_isPaper 9 = .ok (.i2l, 1) := by decide +kernel
theorem dX11_isPaper_10 : decode cX11_isPaper 10 = .ok (.invokestatic 96, 3) := by decide +kernel
theorem dX11_isPaper_13 : decode cX11_isPaper 13 = .ok (.ireturn, 1) := by decide +kernel
theorem dX11_of_0 : decode cX11_of 0 = .ok (.aload_n 0, 1) := by decide +kernel
theorem dX11_of_1 : decode cX11_of 1 = .ok (.getfield 39, 3) := by decide +kernel
theorem dX11_of_4 : decode cX11_of 4 = .ok (.bipush 9, 2) := by decide +kernel
theorem dX11_of_6 : decode cX11_of 6 = .ok (.iload_n 1, 1) := by decide +kernel
theorem dX11_of_7 : decode cX11_of 7 = .ok (.imul, 1) := by decide +kernel
theorem dX11_of_8 : decode cX11_of 8 = .ok (.iload_n 2, 1) := by decide +kernel
theorem dX11_of_9 : decode cX11_of 9 = .ok (.iadd, 1) := by decide +kernel
theorem dX11_of_10 : decode cX11_of 10 = .ok (.iaload, 1) := by decide +kernel
theorem dX11_of_11 : decode cX11_of 11 = .ok (.ireturn, 1) := by decide +kernel
theorem dX11_field_0 : decode cX11_field 0 = .ok (.aload_n 0, 1) := by decide +kernel
theorem dX11_field_1 : decode cX11_field 1 = .ok (.getfield 39, 3) := by decide +kernel
theorem dX11_field_4 : decode cX11_field 4 = .ok (.bipush 9, 2) := by decide +kernel
theorem dX11_field_6 : decode cX11_field 6 = .ok (.iload_n 1, 1) := by decide +kernel
theorem dX11_field_7 : decode cX11_field 7 = .ok (.imul, 1) := by decide +kernel
theorem dX11_field_8 : decode cX11_field 8 = .ok (.iconst 5, 1) := by decide +kernel
theorem dX11_field_9 : decode cX11_field 9 = .ok (.iadd, 1) := by decide +kernel
theorem dX11_field_10 : decode cX11_field 10 = .ok (.iload_n 2, 1) := by decide +kernel
theorem dX11_field_11 : decode cX11_field 11 = .ok (.iadd, 1) := by decide +kernel
theorem dX11_field_12 : decode cX11_field 12 = .ok (.iaload, 1) := by decide +kernel
theorem dX11_field_13 : decode cX11_field 13 = .ok (.ireturn, 1) := by decide +kernel
theorem dX11_paper_0 : decode cX11_paper 0 = .ok (.aload_n 0, 1) := by decide +kernel
theorem dX11_paper_1 : decode cX11_paper 1 = .ok (.iconst 0, 1) := by decide +kernel
theorem dX11_paper_2 : decode cX11_paper 2 = .ok (.putfield 1, 3) := by decide +kernel
theorem dX11_paper_5 : decode cX11_paper 5 = .ok (.iload_n 1, 1) := by decide +kernel
theorem dX11_paper_6 : decode cX11_paper 6 = .ok (.invokestatic 102, 3) := by decide +kernel
theorem dX11_paper_9 : decode cX11_paper 9 = .ok (.ifCond .ne 6, 3) := by decide +kernel
theorem dX11_paper_12 : decode cX11_paper 12 = .ok (.ldc 108, 2) := by decide +kernel
theorem dX11_paper_14 : decode cX11_paper 14 = .ok (.ireturn, 1) := by decide +kernel
theorem dX11_paper_15 : decode cX11_paper 15 = .ok (.aload_n 0, 1) := by decide +kernel
theorem dX11_paper_16 : decode cX11_paper 16 = .ok (.getfield 129, 3) := by decide +kernel
theorem dX11_paper_19 : decode cX11_paper 19 = .ok (.bipush 12, 2) := by decide +kernel
theorem dX11_paper_21 : decode cX11_paper 21 = .ok (.if_icmp .ne 6, 3) := by decide +kernel
theorem dX11_paper_24 : decode cX11_paper 24 = .ok (.ldc 123, 2) := by decide +kernel
theorem dX11_paper_26 : decode cX11_paper 26 = .ok (.ireturn, 1) := by decide +kernel
theorem dX11_paper_27 : decode cX11_paper 27 = .ok (.aload_n 0, 1) := by decide +kernel
theorem dX11_paper_28 : decode cX11_paper 28 = .ok (.iload_n 1, 1) := by decide +kernel
theorem dX11_paper_29 : decode cX11_paper 29 = .ok (.iload_n 2, 1) := by decide +kernel
theorem dX11_paper_30 : decode cX11_paper 30 = .ok (.bipush 9, 2) := by decide +kernel
theorem dX11_paper_32 : decode cX11_paper 32 = .ok (.invokevirtual 132, 3) := by decide +kernel
theorem dX11_paper_35 : decode cX11_paper 35 = .ok (.istore_n 3, 1) := by decide +kernel
theorem dX11_paper_36 : decode cX11_paper 36 = .ok (.iload_n 3, 1) := by decide +kernel
theorem dX11_paper_37 : decode cX11_paper 37 = .ok (.ifCond .ge 5, 3) := by decide +kernel
theorem dX11_paper_40 : decode cX11_paper 40 = .ok (.iload_n 3, 1) := by decide +kernel
theorem dX11_paper_41 : decode cX11_paper 41 = .ok (.ireturn, 1) := by decide +kernel
theorem dX11_paper_42 : decode cX11_paper 42 = .ok (.bipush 60, 2) := by decide +kernel
theorem dX11_paper_44 : decode cX11_paper 44 = .ok (.iload_n 1, 1) := by decide +kernel
theorem dX11_paper_45 : decode cX11_paper 45 = .ok (.imul, 1) := by decide +kernel
theorem dX11_paper_46 : decode cX11_paper 46 = .ok (.iload_n 2, 1) := by decide +kernel
theorem dX11_paper_47 : decode cX11_paper 47 = .ok (.iadd, 1) := by decide +kernel
theorem dX11_paper_48 : decode cX11_paper 48 = .ok (.istore 4, 2) := by decide +kernel
theorem dX11_paper_50 : decode cX11_paper 50 = .ok (.aload_n 0, 1) := by decide +kernel
theorem dX11_paper_51 : decode cX11_paper 51 = .ok (.getfield 24, 3) := by decide +kernel
theorem dX11_paper_54 : decode cX11_paper 54 = .ok (.iload 4, 2) := by decide +kernel
theorem dX11_paper_56 : decode cX11_paper 56 = .ok (.iaload, 1) := by decide +kernel
theorem dX11_paper_57 : decode cX11_paper 57 = .ok (.invokestatic 115, 3) := by decide +kernel
theorem dX11_paper_60 : decode cX11_paper 60 = .ok (.ifCond .eq 91, 3) := by decide +kernel
theorem dX11_paper_63 : decode cX11_paper 63 = .ok (.aload_n 0, 1) := by decide +kernel
theorem dX11_paper_64 : decode cX11_paper 64 = .ok (.getfield 24, 3) := by decide +kernel
theorem dX11_paper_67 : decode cX11_paper 67 = .ok (.iload 4, 2) := by decide +kernel
theorem dX11_paper_69 : decode cX11_paper 69 = .ok (.iconst 1, 1) := by decide +kernel
theorem dX11_paper_70 : decode cX11_paper 70 = .ok (.iadd, 1) := by decide +kernel
theorem dX11_paper_71 : decode cX11_paper 71 = .ok (.iaload, 1) := by decide +kernel
theorem dX11_paper_72 : decode cX11_paper 72 = .ok (.i2l, 1) := by decide +kernel
theorem dX11_paper_73 : decode cX11_paper 73 = .ok (.lconst 0, 1) := by decide +kernel
theorem dX11_paper_74 : decode cX11_paper 74 = .ok (.ldc2_w 136, 3) := by decide +kernel
theorem dX11_paper_77 : decode cX11_paper 77 = .ok (.invokestatic 96, 3) := by decide +kernel
theorem dX11_paper_80 : decode cX11_paper 80 = .ok (.ifCond .eq 71, 3) := by decide +kernel
theorem dX11_paper_83 : decode cX11_paper 83 = .ok (.aload_n 0, 1) := by decide +kernel
theorem dX11_paper_84 : decode cX11_paper 84 = .ok (.getfield 24, 3) := by decide +kernel
theorem dX11_paper_87 : decode cX11_paper 87 = .ok (.iload 4, 2) := by decide +kernel
theorem dX11_paper_89 : decode cX11_paper 89 = .ok (.iconst 2, 1) := by decide +kernel
theorem dX11_paper_90 : decode cX11_paper 90 = .ok (.iadd, 1) := by decide +kernel
theorem dX11_paper_91 : decode cX11_paper 91 = .ok (.iaload, 1) := by decide +kernel
theorem dX11_paper_92 : decode cX11_paper 92 = .ok (.i2l, 1) := by decide +kernel
theorem dX11_paper_93 : decode cX11_paper 93 = .ok (.lconst 0, 1) := by decide +kernel
theorem dX11_paper_94 : decode cX11_paper 94 = .ok (.ldc2_w 138, 3) := by decide +kernel
theorem dX11_paper_97 : decode cX11_paper 97 = .ok (.invokestatic 96, 3) := by decide +kernel
theorem dX11_paper_100 : decode cX11_paper 100 = .ok (.ifCond .eq 51, 3) := by decide +kernel
theorem dX11_paper_103 : decode cX11_paper 103 = .ok (.aload_n 0, 1) := by decide +kernel
theorem dX11_paper_104 : decode cX11_paper 104 = .ok (.getfield 24, 3) := by decide +kernel
theorem dX11_paper_107 : decode cX11_paper 107 = .ok (.iload 4, 2) := by decide +kernel
theorem dX11_paper_109 : decode cX11_paper 109 = .ok (.iconst 3, 1) := by decide +kernel
theorem dX11_paper_110 : decode cX11_paper 110 = .ok (.iadd, 1) := by decide +kernel
theorem dX11_paper_111 : decode cX11_paper 111 = .ok (.iaload, 1) := by decide +kernel
theorem dX11_paper_112 : decode cX11_paper 112 = .ok (.invokestatic 118, 3) := by decide +kernel
theorem dX11_paper_115 : decode cX11_paper 115 = .ok (.ifCond .eq 36, 3) := by decide +kernel
theorem dX11_paper_118 : decode cX11_paper 118 = .ok (.aload_n 0, 1) := by decide +kernel
theorem dX11_paper_119 : decode cX11_paper 119 = .ok (.getfield 24, 3) := by decide +kernel
theorem dX11_paper_122 : decode cX11_paper 122 = .ok (.iload 4, 2) := by decide +kernel
theorem dX11_paper_124 : decode cX11_paper 124 = .ok (.iconst 4, 1) := by decide +kernel
theorem dX11_paper_125 : decode cX11_paper 125 = .ok (.iadd, 1) := by decide +kernel
theorem dX11_paper_126 : decode cX11_paper 126 = .ok (.iaload, 1) := by decide +kernel
theorem dX11_paper_127 : decode cX11_paper 127 = .ok (.i2l, 1) := by decide +kernel
theorem dX11_paper_128 : decode cX11_paper 128 = .ok (.aload_n 0, 1) := by decide +kernel
theorem dX11_paper_129 : decode cX11_paper 129 = .ok (.getfield 24, 3) := by decide +kernel
theorem dX11_paper_132 : decode cX11_paper 132 = .ok (.iload 4, 2) := by decide +kernel
theorem dX11_paper_134 : decode cX11_paper 134 = .ok (.iconst 3, 1) := by decide +kernel
theorem dX11_paper_135 : decode cX11_paper 135 = .ok (.iadd, 1) := by decide +kernel
theorem dX11_paper_136 : decode cX11_paper 136 = .ok (.iaload, 1) := by decide +kernel
theorem dX11_paper_137 : decode cX11_paper 137 = .ok (.i2l, 1) := by decide +kernel
theorem dX11_paper_138 : decode cX11_paper 138 = .ok (.ldc2_w 94, 3) := by decide +kernel
theorem dX11_paper_141 : decode cX11_paper 141 = .ok (.invokestatic 96, 3) := by decide +kernel
theorem dX11_paper_144 : decode cX11_paper 144 = .ok (.ifCond .eq 7, 3) := by decide +kernel
theorem dX11_paper_147 : decode cX11_paper 147 = .ok (.iconst 1, 1) := by decide +kernel
theorem dX11_paper_148 : decode cX11_paper 148 = .ok (.goto 4, 3) := by decide +kernel
theorem dX11_paper_151 : decode cX11_paper 151 = .ok (.iconst 0, 1) := by decide +kernel
theorem dX11_paper_152 : decode cX11_paper 152 = .ok (.istore 5, 2) := by decide +kernel
theorem dX11_paper_154 : decode cX11_paper 154 = .ok (.iconst 5, 1) := by decide +kernel
theorem dX11_paper_155 : decode cX11_paper 155 = .ok (.istore 6, 2) := by decide +kernel
theorem dX11_paper_157 : decode cX11_paper 157 = .ok (.iload 6, 2) := by decide +kernel
theorem dX11_paper_159 : decode cX11_paper 159 = .ok (.bipush 9, 2) := by decide +kernel
theorem dX11_paper_161 : decode cX11_paper 161 = .ok (.if_icmp .ge 42, 3) := by decide +kernel
theorem dX11_paper_164 : decode cX11_paper 164 = .ok (.iload 5, 2) := by decide +kernel
theorem dX11_paper_166 : decode cX11_paper 166 = .ok (.ifCond .eq 28, 3) := by decide +kernel
theorem dX11_paper_169 : decode cX11_paper 169 = .ok (.aload_n 0, 1) := by decide +kernel
theorem dX11_paper_170 : decode cX11_paper 170 = .ok (.getfield 24, 3) := by decide +kernel
theorem dX11_paper_173 : decode cX11_paper 173 = .ok (.iload 4, 2) := by decide +kernel
theorem dX11_paper_175 : decode cX11_paper 175 = .ok (.iload 6, 2) := by decide +kernel
theorem dX11_paper_177 : decode cX11_paper 177 = .ok (.iadd, 1) := by decide +kernel
theorem dX11_paper_178 : decode cX11_paper 178 = .ok (.iaload, 1) := by decide +kernel
theorem dX11_paper_179 : decode cX11_paper 179 = .ok (.i2l, 1) := by decide +kernel
theorem dX11_paper_180 : decode cX11_paper 180 = .ok (.lconst 0, 1) := by decide +kernel
theorem dX11_paper_181 : decode cX11_paper 181 = .ok (.ldc2_w 94, 3) := by decide +kernel
theorem dX11_paper_184 : decode cX11_paper 184 = .ok (.invokestatic 96, 3) := by decide +kernel
theorem dX11_paper_187 : decode cX11_paper 187 = .ok (.ifCond .eq 7, 3) := by decide +kernel
theorem dX11_paper_190 : decode cX11_paper 190 = .ok (.iconst 1, 1) := by decide +kernel
theorem dX11_paper_191 : decode cX11_paper 191 = .ok (.goto 4, 3) := by decide +kernel
theorem dX11_paper_194 : decode cX11_paper 194 = .ok (.iconst 0, 1) := by decide +kernel
theorem dX11_paper_195 : decode cX11_paper 195 = .ok (.istore 5, 2) := by decide +kernel
theorem dX11_paper_197 : decode cX11_paper 197 = .ok (.iinc 6 1, 3) := by decide +kernel
theorem dX11_paper_200 : decode cX11_paper 200 = .ok (.goto (-43), 3) := by decide +kernel
theorem dX11_paper_203 : decode cX11_paper 203 = .ok (.iload 5, 2) := by decide +kernel
theorem dX11_paper_205 : decode cX11_paper 205 = .ok (.ifCond .ne 6, 3) := by decide +kernel
theorem dX11_paper_208 : decode cX11_paper 208 = .ok (.ldc 108, 2) := by decide +kernel
theorem dX11_paper_210 : decode cX11_paper 210 = .ok (.ireturn, 1) := by decide +kernel
theorem dX11_paper_211 : decode cX11_paper 211 = .ok (.aload_n 0, 1) := by decide +kernel
theorem dX11_paper_212 : decode cX11_paper 212 = .ok (.iconst 0, 1) := by decide +kernel
theorem dX11_paper_213 : decode cX11_paper 213 = .ok (.putfield 7, 3) := by decide +kernel
theorem dX11_paper_216 : decode cX11_paper 216 = .ok (.iconst 0, 1) := by decide +kernel
theorem dX11_paper_217 : decode cX11_paper 217 = .ok (.istore 6, 2) := by decide +kernel
theorem dX11_paper_219 : decode cX11_paper 219 = .ok (.iload 6, 2) := by decide +kernel
theorem dX11_paper_221 : decode cX11_paper 221 = .ok (.bipush 9, 2) := by decide +kernel
theorem dX11_paper_223 : decode cX11_paper 223 = .ok (.if_icmp .ge 34, 3) := by decide +kernel
theorem dX11_paper_226 : decode cX11_paper 226 = .ok (.aload_n 0, 1) := by decide +kernel
theorem dX11_paper_227 : decode cX11_paper 227 = .ok (.getfield 39, 3) := by decide +kernel
theorem dX11_paper_230 : decode cX11_paper 230 = .ok (.bipush 9, 2) := by decide +kernel
theorem dX11_paper_232 : decode cX11_paper 232 = .ok (.aload_n 0, 1) := by decide +kernel
theorem dX11_paper_233 : decode cX11_paper 233 = .ok (.getfield 129, 3) := by decide +kernel
theorem dX11_paper_236 : decode cX11_paper 236 = .ok (.imul, 1) := by decide +kernel
theorem dX11_paper_237 : decode cX11_paper 237 = .ok (.iload 6, 2) := by decide +kernel
theorem dX11_paper_239 : decode cX11_paper 239 = .ok (.iadd, 1) := by decide +kernel
theorem dX11_paper_240 : decode cX11_paper 240 = .ok (.aload_n 0, 1) := by decide +kernel
theorem dX11_paper_241 : decode cX11_paper 241 = .ok (.getfield 24, 3) := by decide +kernel
theorem dX11_paper_244 : decode cX11_paper 244 = .ok (.iload 4, 2) := by decide +kernel
theorem dX11_paper_246 : decode cX11_paper 246 = .ok (.iload 6, 2) := by decide +kernel
theorem dX11_paper_248 : decode cX11_paper 248 = .ok (.iadd, 1) := by decide +kernel
theorem dX11_paper_249 : decode cX11_paper 249 = .ok (.iaload, 1) := by decide +kernel
theorem dX11_paper_250 : decode cX11_paper 250 = .ok (.iastore, 1) := by decide +kernel
theorem dX11_paper_251 : decode cX11_paper 251 = .ok (.iinc 6 1, 3) := by decide +kernel
theorem dX11_paper_254 : decode cX11_paper 254 = .ok (.goto (-35), 3) := by decide +kernel
theorem dX11_paper_257 : decode cX11_paper 257 = .ok (.aload_n 0, 1) := by decide +kernel
theorem dX11_paper_258 : decode cX11_paper 258 = .ok (.dup, 1) := by decide +kernel
theorem dX11_paper_259 : decode cX11_paper 259 = .ok (.getfield 129, 3) := by decide +kernel
theorem dX11_paper_262 : decode cX11_paper 262 = .ok (.iconst 1, 1) := by decide +kernel
theorem dX11_paper_263 : decode cX11_paper 263 = .ok (.iadd, 1) := by decide +kernel
theorem dX11_paper_264 : decode cX11_paper 264 = .ok (.putfield 129, 3) := by decide +kernel
theorem dX11_paper_267 : decode cX11_paper 267 = .ok (.aload_n 0, 1) := by decide +kernel
theorem dX11_paper_268 : decode cX11_paper 268 = .ok (.getfield 129, 3) := by decide +kernel
theorem dX11_paper_271 : decode cX11_paper 271 = .ok (.iconst 1, 1) := by decide +kernel
theorem dX11_paper_272 : decode cX11_paper 272 = .ok (.isub, 1) := by decide +kernel
theorem dX11_paper_273 : decode cX11_paper 273 = .ok (.ireturn, 1) := by decide +kernel
theorem dX11_join_0 : decode cX11_join 0 = .ok (.iload_n 0, 1) := by decide +kernel
theorem dX11_join_1 : decode cX11_join 1 = .ok (.i2l, 1) := by decide +kernel
theorem dX11_join_2 : decode cX11_join 2 = .ok (.iload_n 0, 1) := by decide +kernel
theorem dX11_join_3 : decode cX11_join 3 = .ok (.i2l, 1) := by decide +kernel
theorem dX11_join_4 : decode cX11_join 4 = .ok (.lmul, 1) := by decide +kernel
theorem dX11_join_5 : decode cX11_join 5 = .ok (.ldc2_w 113, 3) := by decide +kernel
theorem dX11_join_8 : decode cX11_join 8 = .ok (.iload_n 1, 1) := by decide +kernel
theorem dX11_join_9 : decode cX11_join 9 = .ok (.i2l, 1) := by decide +kernel
theorem dX11_join_10 : decode cX11_join 10 = .ok (.lmul, 1) := by decide +kernel
theorem dX11_join_11 : decode cX11_join 11 = .ok (.ladd, 1) := by decide +kernel
theorem dX11_join_12 : decode cX11_join 12 = .ok (.ldc2_w 136, 3) := by decide +kernel
theorem dX11_join_15 : decode cX11_join 15 = .ok (.ladd, 1) := by decide +kernel
theorem dX11_join_16 : decode cX11_join 16 = .ok (.ldc2_w 140, 3) := by decide +kernel
theorem dX11_join_19 : decode cX11_join 19 = .ok (.lrem, 1) := by decide +kernel
theorem dX11_join_20 : decode cX11_join 20 = .ok (.l2i, 1) := by decide +kernel
theorem dX11_join_21 : decode cX11_join 21 = .ok (.ireturn, 1) := by decide +kernel
theorem dX11_leaf_0 : decode cX11_leaf 0 = .ok (.bipush 31, 2) := by decide +kernel
theorem dX11_leaf_2 : decode cX11_leaf 2 = .ok (.iload_n 2, 1) := by decide +kernel
theorem dX11_leaf_3 : decode cX11_leaf 3 = .ok (.imul, 1) := by decide +kernel
theorem dX11_leaf_4 : decode cX11_leaf 4 = .ok (.bipush 7, 2) := by decide +kernel
theorem dX11_leaf_6 : decode cX11_leaf 6 = .ok (.iload_n 0, 1) := by decide +kernel
theorem dX11_leaf_7 : decode cX11_leaf 7 = .ok (.imul, 1) := by decide +kernel
theorem dX11_leaf_8 : decode cX11_leaf 8 = .ok (.iadd, 1) := by decide +kernel
theorem dX11_leaf_9 : decode cX11_leaf 9 = .ok (.iload_n 1, 1) := by decide +kernel
theorem dX11_leaf_10 : decode cX11_leaf 10 = .ok (.iadd, 1) := by decide +kernel
theorem dX11_leaf_11 : decode cX11_leaf 11 = .ok (.ldc 142, 2) := by decide +kernel
theorem dX11_leaf_13 : decode cX11_leaf 13 = .ok (.irem, 1) := by decide +kernel
theorem dX11_leaf_14 : decode cX11_leaf 14 = .ok (.ireturn, 1) := by decide +kernel
theorem dX11_halfOf_0 : decode cX11_halfOf 0 = .ok (.iload_n 1, 1) := by decide +kernel
theorem dX11_halfOf_1 : decode cX11_halfOf 1 = .ok (.iconst 2, 1) := by decide +kernel
theorem dX11_halfOf_2 : decode cX11_halfOf 2 = .ok (.iload_n 2, 1) := by decide +kernel
theorem dX11_halfOf_3 : decode cX11_halfOf 3 = .ok (.imul, 1) := by decide +kernel
theorem dX11_halfOf_4 : decode cX11_halfOf 4 = .ok (.aload_n 0, 1) := by decide +kernel
theorem dX11_halfOf_5 : decode cX11_halfOf 5 = .ok (.iload_n 1, 1) := by decide +kernel
theorem dX11_halfOf_6 : decode cX11_halfOf 6 = .ok (.iconst 2, 1) := by decide +kernel
theorem dX11_halfOf_7 : decode cX11_halfOf 7 = .ok (.iload_n 2, 1) := by decide +kernel
theorem dX11_halfOf_8 : decode cX11_halfOf 8 = .ok (.imul, 1) := by decide +kernel
theorem dX11_halfOf_9 : decode cX11_halfOf 9 = .ok (.invokevirtual 143, 3) := by decide +kernel
theorem dX11_halfOf_12 : decode cX11_halfOf 12 = .ok (.invokestatic 146, 3) := by decide +kernel
theorem dX11_halfOf_15 : decode cX11_halfOf 15 = .ok (.iload_n 1, 1) := by decide +kernel
theorem dX11_halfOf_16 : decode cX11_halfOf 16 = .ok (.iconst 2, 1) := by decide +kernel
theorem dX11_halfOf_17 : decode cX11_halfOf 17 = .ok (.iload_n 2, 1) := by decide +kernel
theorem dX11_halfOf_18 : decode cX11_halfOf 18 = .ok (.imul, 1) := by decide +kernel
theorem dX11_halfOf_19 : decode cX11_halfOf 19 = .ok (.iconst 1, 1) := by decide +kernel
theorem dX11_halfOf_20 : decode cX11_halfOf 20 = .ok (.iadd, 1) := by decide +kernel
theorem dX11_halfOf_21 : decode cX11_halfOf 21 = .ok (.aload_n 0, 1) := by decide +kernel
theorem dX11_halfOf_22 : decode cX11_halfOf 22 = .ok (.iload_n 1, 1) := by decide +kernel
theorem dX11_halfOf_23 : decode cX11_halfOf 23 = .ok (.iconst 2, 1) := by decide +kernel
theorem dX11_halfOf_24 : decode cX11_halfOf 24 = .ok (.iload_n 2, 1) := by decide +kernel
theorem dX11_halfOf_25 : decode cX11_halfOf 25 = .ok (.imul, 1) := by decide +kernel
theorem dX11_halfOf_26 : decode cX11_halfOf 26 = .ok (.iconst 1, 1) := by decide +kernel
theorem dX11_halfOf_27 : decode cX11_halfOf 27 = .ok (.iadd, 1) := by decide +kernel
theorem dX11_halfOf_28 : decode cX11_halfOf 28 = .ok (.invokevirtual 143, 3) := by decide +kernel
theorem dX11_halfOf_31 : decode cX11_halfOf 31 = .ok (.invokestatic 146, 3) := by decide +kernel
theorem dX11_halfOf_34 : decode cX11_halfOf 34 = .ok (.invokestatic 149, 3) := by decide +kernel
theorem dX11_halfOf_37 : decode cX11_halfOf 37 = .ok (.ireturn, 1) := by decide +kernel
theorem dX11_sealOf_0 : decode cX11_sealOf 0 = .ok (.iload_n 2, 1) := by decide +kernel
theorem dX11_sealOf_1 : decode cX11_sealOf 1 = .ok (.i2l, 1) := by decide +kernel
theorem dX11_sealOf_2 : decode cX11_sealOf 2 = .ok (.aload_n 0, 1) := by decide +kernel
theorem dX11_sealOf_3 : decode cX11_sealOf 3 = .ok (.aload_n 0, 1) := by decide +kernel
theorem dX11_sealOf_4 : decode cX11_sealOf 4 = .ok (.iload_n 1, 1) := by decide +kernel
theorem dX11_sealOf_5 : decode cX11_sealOf 5 = .ok (.iconst 0, 1) := by decide +kernel
theorem dX11_sealOf_6 : decode cX11_sealOf 6 = .ok (.invokevirtual 152, 3) := by decide +kernel
theorem dX11_sealOf_9 : decode cX11_sealOf 9 = .ok (.aload_n 0, 1) := by decide +kernel
theorem dX11_sealOf_10 : decode cX11_sealOf 10 = .ok (.iload_n 1, 1) := by decide +kernel
theorem dX11_sealOf_11 : decode cX11_sealOf 11 = .ok (.iconst 3, 1) := by decide +kernel
theorem dX11_sealOf_12 : decode cX11_sealOf 12 = .ok (.invokevirtual 152, 3) := by decide +kernel
theorem dX11_sealOf_15 : decode cX11_sealOf 15 = .ok (.invokevirtual 124, 3) := by decide +kernel
theorem dX11_sealOf_18 : decode cX11_sealOf 18 = .ok (.i2l, 1) := by decide +kernel
theorem dX11_sealOf_19 : decode cX11_sealOf 19 = .ok (.lmul, 1) := by decide +kernel
theorem dX11_sealOf_20 : decode cX11_sealOf 20 = .ok (.lconst 1, 1) := by decide +kernel
theorem dX11_sealOf_21 : decode cX11_sealOf 21 = .ok (.ladd, 1) := by decide +kernel
theorem dX11_sealOf_22 : decode cX11_sealOf 22 = .ok (.ldc2_w 140, 3) := by decide +kernel
theorem dX11_sealOf_25 : decode cX11_sealOf 25 = .ok (.lrem, 1) := by decide +kernel
theorem dX11_sealOf_26 : decode cX11_sealOf 26 = .ok (.l2i, 1) := by decide +kernel
theorem dX11_sealOf_27 : decode cX11_sealOf 27 = .ok (.ireturn, 1) := by decide +kernel
theorem dX11_rootOf_0 : decode cX11_rootOf 0 = .ok (.aload_n 0, 1) := by decide +kernel
theorem dX11_rootOf_1 : decode cX11_rootOf 1 = .ok (.iload_n 1, 1) := by decide +kernel
theorem dX11_rootOf_2 : decode cX11_rootOf 2 = .ok (.iconst 0, 1) := by decide +kernel
theorem dX11_rootOf_3 : decode cX11_rootOf 3 = .ok (.invokevirtual 155, 3) := by decide +kernel
theorem dX11_rootOf_6 : decode cX11_rootOf 6 = .ok (.aload_n 0, 1) := by decide +kernel
theorem dX11_rootOf_7 : decode cX11_rootOf 7 = .ok (.iload_n 1, 1) := by decide +kernel
theorem dX11_rootOf_8 : decode cX11_rootOf 8 = .ok (.iconst 1, 1) := by decide +kernel
theorem dX11_rootOf_9 : decode cX11_rootOf 9 = .ok (.invokevirtual 155, 3) := by decide +kernel
theorem dX11_rootOf_12 : decode cX11_rootOf 12 = .ok (.invokestatic 149, 3) := by decide +kernel
theorem dX11_rootOf_15 : decode cX11_rootOf 15 = .ok (.ireturn, 1) := by decide +kernel
theorem dX11_steps_0 : decode cX11_steps 0 = .ok (.iload_n 0, 1) := by decide +kernel
theorem dX11_steps_1 : decode cX11_steps 1 = .ok (.istore_n 2, 1) := by decide +kernel
theorem dX11_steps_2 : decode cX11_steps 2 = .ok (.iconst 0, 1) := by decide +kernel
theorem dX11_steps_3 : decode cX11_steps 3 = .ok (.istore_n 3, 1) := by decide +kernel
theorem dX11_steps_4 : decode cX11_steps 4 = .ok (.iload_n 3, 1) := by decide +kernel
theorem dX11_steps_5 : decode cX11_steps 5 = .ok (.iload_n 1, 1) := by decide +kernel
theorem dX11_steps_6 : decode cX11_steps 6 = .ok (.if_icmp .ge 24, 3) := by decide +kernel
theorem dX11_steps_9 : decode cX11_steps 9 = .ok (.iload_n 2, 1) := by decide +kernel
theorem dX11_steps_10 : decode cX11_steps 10 = .ok (.i2l, 1) := by decide +kernel
theorem dX11_steps_11 : decode cX11_steps 11 = .ok (.iload_n 2, 1) := by decide +kernel
theorem dX11_steps_12 : decode cX11_steps 12 = .ok (.i2l, 1) := by decide +kernel
theorem dX11_steps_13 : decode cX11_steps 13 = .ok (.lmul, 1) := by decide +kernel
theorem dX11_steps_14 : decode cX11_steps 14 = .ok (.ldc2_w 113, 3) := by decide +kernel
theorem dX11_steps_17 : decode cX11_steps 17 = .ok (.ladd, 1) := by decide +kernel
theorem dX11_steps_18 : decode cX11_steps 18 = .ok (.ldc2_w 140, 3) := by decide +kernel
theorem dX11_steps_21 : decode cX11_steps 21 = .ok (.lrem, 1) := by decide +kernel
theorem dX11_steps_22 : decode cX11_steps 22 = .ok (.l2i, 1) := by decide +kernel
theorem dX11_steps_23 : decode cX11_steps 23 = .ok (.istore_n 2, 1) := by decide +kernel
theorem dX11_steps_24 : decode cX11_steps 24 = .ok (.iinc 3 1, 3) := by decide +kernel
theorem dX11_steps_27 : decode cX11_steps 27 = .ok (.goto (-23), 3) := by decide +kernel
theorem dX11_steps_30 : decode cX11_steps 30 = .ok (.iload_n 2, 1) := by decide +kernel
theorem dX11_steps_31 : decode cX11_steps 31 = .ok (.ireturn, 1) := by decide +kernel
theorem dX11_beginning_0 : decode cX11_beginning 0 = .ok (.bipush 101, 2) := by decide +kernel
theorem dX11_beginning_2 : decode cX11_beginning 2 = .ok (.iload_n 0, 1) := by decide +kernel
theorem dX11_beginning_3 : decode cX11_beginning 3 = .ok (.imul, 1) := by decide +kernel
theorem dX11_beginning_4 : decode cX11_beginning 4 = .ok (.bipush 17, 2) := by decide +kernel
theorem dX11_beginning_6 : decode cX11_beginning 6 = .ok (.iload_n 1, 1) := by decide +kernel
theorem dX11_beginning_7 : decode cX11_beginning 7 = .ok (.imul, 1) := by decide +kernel
theorem dX11_beginning_8 : decode cX11_beginning 8 = .ok (.iadd, 1) := by decide +kernel
theorem dX11_beginning_9 : decode cX11_beginning 9 = .ok (.iconst 1, 1) := by decide +kernel
theorem dX11_beginning_10 : decode cX11_beginning 10 = .ok (.iadd, 1) := by decide +kernel
theorem dX11_beginning_11 : decode cX11_beginning 11 = .ok (.ireturn, 1) := by decide +kernel
theorem dX11_endOf_0 : decode cX11_endOf 0 = .ok (.iload_n 1, 1) := by decide +kernel
theorem dX11_endOf_1 : decode cX11_endOf 1 = .ok (.iload_n 2, 1) := by decide +kernel
theorem dX11_endOf_2 : decode cX11_endOf 2 = .ok (.invokestatic 158, 3) := by decide +kernel
theorem dX11_endOf_5 : decode cX11_endOf 5 = .ok (.aload_n 0, 1) := by decide +kernel
theorem dX11_endOf_6 : decode cX11_endOf 6 = .ok (.iload_n 1, 1) := by decide +kernel
theorem dX11_endOf_7 : decode cX11_endOf 7 = .ok (.iload_n 2, 1) := by decide +kernel
theorem dX11_endOf_8 : decode cX11_endOf 8 = .ok (.invokevirtual 143, 3) := by decide +kernel
theorem dX11_endOf_11 : decode cX11_endOf 11 = .ok (.iconst 1, 1) := by decide +kernel
theorem dX11_endOf_12 : decode cX11_endOf 12 = .ok (.iadd, 1) := by decide +kernel
theorem dX11_endOf_13 : decode cX11_endOf 13 = .ok (.invokestatic 161, 3) := by decide +kernel
theorem dX11_endOf_16 : decode cX11_endOf 16 = .ok (.ireturn, 1) := by decide +kernel
theorem dX11_told_0 : decode cX11_told 0 = .ok (.aload_n 0, 1) := by decide +kernel
theorem dX11_told_1 : decode cX11_told 1 = .ok (.iconst 0, 1) := by decide +kernel
theorem dX11_told_2 : decode cX11_told 2 = .ok (.putfield 1, 3) := by decide +kernel
theorem dX11_told_5 : decode cX11_told 5 = .ok (.aload_n 0, 1) := by decide +kernel
theorem dX11_told_6 : decode cX11_told 6 = .ok (.iload_n 1, 1) := by decide +kernel
theorem dX11_told_7 : decode cX11_told 7 = .ok (.invokevirtual 164, 3) := by decide +kernel
theorem dX11_told_10 : decode cX11_told 10 = .ok (.ifCond .eq 15, 3) := by decide +kernel
theorem dX11_told_13 : decode cX11_told 13 = .ok (.iload_n 2, 1) := by decide +kernel
theorem dX11_told_14 : decode cX11_told 14 = .ok (.i2l, 1) := by decide +kernel
theorem dX11_told_15 : decode cX11_told 15 = .ok (.lconst 0, 1) := by decide +kernel
theorem dX11_told_16 : decode cX11_told 16 = .ok (.ldc2_w 167, 3) := by decide +kernel
theorem dX11_told_19 : decode cX11_told 19 = .ok (.invokestatic 96, 3) := by decide +kernel
theorem dX11_told_22 : decode cX11_told 22 = .ok (.ifCond .ne 6, 3) := by decide +kernel
theorem dX11_told_25 : decode cX11_told 25 = .ok (.ldc 108, 2) := by decide +kernel
theorem dX11_told_27 : decode cX11_told 27 = .ok (.ireturn, 1) := by decide +kernel
theorem dX11_told_28 : decode cX11_told 28 = .ok (.iload_n 2, 1) := by decide +kernel
theorem dX11_told_29 : decode cX11_told 29 = .ok (.tableswitch 106 4 11 #[47, 54, 61, 67, 78, 85, 92, 99], 47) := by decide +kernel
theorem dX11_told_76 : decode cX11_told 76 = .ok (.aload_n 0, 1) := by decide +kernel
theorem dX11_told_77 : decode cX11_told 77 = .ok (.iload_n 1, 1) := by decide +kernel
theorem dX11_told_78 : decode cX11_told 78 = .ok (.iconst 0, 1) := by decide +kernel
theorem dX11_told_79 : decode cX11_told 79 = .ok (.invokevirtual 155, 3) := by decide +kernel
theorem dX11_told_82 : decode cX11_told 82 = .ok (.ireturn, 1) := by decide +kernel
theorem dX11_told_83 : decode cX11_told 83 = .ok (.aload_n 0, 1) := by decide +kernel
theorem dX11_told_84 : decode cX11_told 84 = .ok (.iload_n 1, 1) := by decide +kernel
theorem dX11_told_85 : decode cX11_told 85 = .ok (.iconst 1, 1) := by decide +kernel
theorem dX11_told_86 : decode cX11_told 86 = .ok (.invokevirtual 155, 3) := by decide +kernel
theorem dX11_told_89 : decode cX11_told 89 = .ok (.ireturn, 1) := by decide +kernel
theorem dX11_told_90 : decode cX11_told 90 = .ok (.aload_n 0, 1) := by decide +kernel
theorem dX11_told_91 : decode cX11_told 91 = .ok (.iload_n 1, 1) := by decide +kernel
theorem dX11_told_92 : decode cX11_told 92 = .ok (.invokevirtual 169, 3) := by decide +kernel
theorem dX11_told_95 : decode cX11_told 95 = .ok (.ireturn, 1) := by decide +kernel
theorem dX11_told_96 : decode cX11_told 96 = .ok (.aload_n 0, 1) := by decide +kernel
theorem dX11_told_97 : decode cX11_told 97 = .ok (.iload_n 1, 1) := by decide +kernel
theorem dX11_told_98 : decode cX11_told 98 = .ok (.aload_n 0, 1) := by decide +kernel
theorem dX11_told_99 : decode cX11_told 99 = .ok (.iload_n 1, 1) := by decide +kernel
theorem dX11_told_100 : decode cX11_told 100 = .ok (.invokevirtual 169, 3) := by decide +kernel
theorem dX11_told_103 : decode cX11_told 103 = .ok (.invokevirtual 172, 3) := by decide +kernel
theorem dX11_told_106 : decode cX11_told 106 = .ok (.ireturn, 1) := by decide +kernel
theorem dX11_told_107 : decode cX11_told 107 = .ok (.aload_n 0, 1) := by decide +kernel
theorem dX11_told_108 : decode cX11_told 108 = .ok (.iload_n 1, 1) := by decide +kernel
theorem dX11_told_109 : decode cX11_told 109 = .ok (.iconst 0, 1) := by decide +kernel
theorem dX11_told_110 : decode cX11_told 110 = .ok (.invokevirtual 152, 3) := by decide +kernel
theorem dX11_told_113 : decode cX11_told 113 = .ok (.ireturn, 1) := by decide +kernel
theorem dX11_told_114 : decode cX11_told 114 = .ok (.aload_n 0, 1) := by decide +kernel
theorem dX11_told_115 : decode cX11_told 115 = .ok (.iload_n 1, 1) := by decide +kernel
theorem dX11_told_116 : decode cX11_told 116 = .ok (.iconst 1, 1) := by decide +kernel
theorem dX11_told_117 : decode cX11_told 117 = .ok (.invokevirtual 152, 3) := by decide +kernel
theorem dX11_told_120 : decode cX11_told 120 = .ok (.ireturn, 1) := by decide +kernel
theorem dX11_told_121 : decode cX11_told 121 = .ok (.aload_n 0, 1) := by decide +kernel
theorem dX11_told_122 : decode cX11_told 122 = .ok (.iload_n 1, 1) := by decide +kernel
theorem dX11_told_123 : decode cX11_told 123 = .ok (.iconst 3, 1) := by decide +kernel
theorem dX11_told_124 : decode cX11_told 124 = .ok (.invokevirtual 152, 3) := by decide +kernel
theorem dX11_told_127 : decode cX11_told 127 = .ok (.ireturn, 1) := by decide +kernel
theorem dX11_told_128 : decode cX11_told 128 = .ok (.aload_n 0, 1) := by decide +kernel
theorem dX11_told_129 : decode cX11_told 129 = .ok (.iload_n 1, 1) := by decide +kernel
theorem dX11_told_130 : decode cX11_told 130 = .ok (.iconst 4, 1) := by decide +kernel
theorem dX11_told_131 : decode cX11_told 131 = .ok (.invokevirtual 152, 3) := by decide +kernel
theorem dX11_told_134 : decode cX11_told 134 = .ok (.ireturn, 1) := by decide +kernel
theorem dX11_told_135 : decode cX11_told 135 = .ok (.iload_n 2, 1) := by decide +kernel
theorem dX11_told_136 : decode cX11_told 136 = .ok (.iconst 4, 1) := by decide +kernel
theorem dX11_told_137 : decode cX11_told 137 = .ok (.if_icmp .ge 12, 3) := by decide +kernel
theorem dX11_told_140 : decode cX11_told 140 = .ok (.aload_n 0, 1) := by decide +kernel
theorem dX11_told_141 : decode cX11_told 141 = .ok (.iload_n 1, 1) := by decide +kernel
theorem dX11_told_142 : decode cX11_told 142 = .ok (.iload_n 2, 1) := by decide +kernel
theorem dX11_told_143 : decode cX11_told 143 = .ok (.invokevirtual 143, 3) := by decide +kernel
theorem dX11_told_146 : decode cX11_told 146 = .ok (.goto 12, 3) := by decide +kernel
theorem dX11_told_149 : decode cX11_told 149 = .ok (.aload_n 0, 1) := by decide +kernel
theorem dX11_told_150 : decode cX11_told 150 = .ok (.iload_n 1, 1) := by decide +kernel
theorem dX11_told_151 : decode cX11_told 151 = .ok (.iload_n 2, 1) := by decide +kernel
theorem dX11_told_152 : decode cX11_told 152 = .ok (.bipush 12, 2) := by decide +kernel
theorem dX11_told_154 : decode cX11_told 154 = .ok (.isub, 1) := by decide +kernel
theorem dX11_told_155 : decode cX11_told 155 = .ok (.invokevirtual 175, 3) := by decide +kernel
theorem dX11_told_158 : decode cX11_told 158 = .ok (.ireturn, 1) := by decide +kernel
theorem dX11_showAll_0 : decode cX11_showAll 0 = .ok (.iconst 0, 1) := by decide +kernel
theorem dX11_showAll_1 : decode cX11_showAll 1 = .ok (.istore_n 3, 1) := by decide +kernel
theorem dX11_showAll_2 : decode cX11_showAll 2 = .ok (.iconst 0, 1) := by decide +kernel
theorem dX11_showAll_3 : decode cX11_showAll 3 = .ok (.istore 4, 2) := by decide +kernel
theorem dX11_showAll_5 : decode cX11_showAll 5 = .ok (.iload 4, 2) := by decide +kernel
theorem dX11_showAll_7 : decode cX11_showAll 7 = .ok (.iconst 2, 1) := by decide +kernel
theorem dX11_showAll_8 : decode cX11_showAll 8 = .ok (.if_icmp .ge 104, 3) := by decide +kernel
theorem dX11_showAll_11 : decode cX11_showAll 11 = .ok (.iload_n 2, 1) := by decide +kernel
theorem dX11_showAll_12 : decode cX11_showAll 12 = .ok (.iconst 2, 1) := by decide +kernel
theorem dX11_showAll_13 : decode cX11_showAll 13 = .ok (.iload 4, 2) := by decide +kernel
theorem dX11_showAll_15 : decode cX11_showAll 15 = .ok (.imul, 1) := by decide +kernel
theorem dX11_showAll_16 : decode cX11_showAll 16 = .ok (.ishr, 1) := by decide +kernel
theorem dX11_showAll_17 : decode cX11_showAll 17 = .ok (.iconst 3, 1) := by decide +kernel
theorem dX11_showAll_18 : decode cX11_showAll 18 = .ok (.iand, 1) := by decide +kernel
theorem dX11_showAll_19 : decode cX11_showAll 19 = .ok (.ifCond .ne 22, 3) := by decide +kernel
theorem dX11_showAll_22 : decode cX11_showAll 22 = .ok (.aload_n 0, 1) := by decide +kernel
theorem dX11_showAll_23 : decode cX11_showAll 23 = .ok (.getfield 45, 3) := by decide +kernel
theorem dX11_showAll_26 : decode cX11_showAll 26 = .ok (.iload_n 3, 1) := by decide +kernel
theorem dX11_showAll_27 : decode cX11_showAll 27 = .ok (.aload_n 0, 1) := by decide +kernel
theorem dX11_showAll_28 : decode cX11_showAll 28 = .ok (.iload_n 1, 1) := by decide +kernel
theorem dX11_showAll_29 : decode cX11_showAll 29 = .ok (.iload 4, 2) := by decide +kernel
theorem dX11_showAll_31 : decode cX11_showAll 31 = .ok (.invokevirtual 155, 3) := by decide +kernel
theorem dX11_showAll_34 : decode cX11_showAll 34 = .ok (.iastore, 1) := by decide +kernel
theorem dX11_showAll_35 : decode cX11_showAll 35 = .ok (.iinc 3 1, 3) := by decide +kernel
theorem dX11_showAll_38 : decode cX11_showAll 38 = .ok (.goto 68, 3) := by decide +kernel
theorem dX11_showAll_41 : decode cX11_showAll 41 = .ok (.iconst 2, 1) := by decide +kernel
theorem dX11_showAll_42 : decode cX11_showAll 42 = .ok (.iload 4, 2) := by decide +kernel
theorem dX11_showAll_44 : decode cX11_showAll 44 = .ok (.imul, 1) := by decide +kernel
theorem dX11_showAll_45 : decode cX11_showAll 45 = .ok (.istore 5, 2) := by decide +kernel
theorem dX11_showAll_47 : decode cX11_showAll 47 = .ok (.iload 5, 2) := by decide +kernel
theorem dX11_showAll_49 : decode cX11_showAll 49 = .ok (.iconst 2, 1) := by decide +kernel
theorem dX11_showAll_50 : decode cX11_showAll 50 = .ok (.iload 4, 2) := by decide +kernel
theorem dX11_showAll_52 : decode cX11_showAll 52 = .ok (.imul, 1) := by decide +kernel
theorem dX11_showAll_53 : decode cX11_showAll 53 = .ok (.iconst 2, 1) := by decide +kernel
theorem dX11_showAll_54 : decode cX11_showAll 54 = .ok (.iadd, 1) := by decide +kernel
theorem dX11_showAll_55 : decode cX11_showAll 55 = .ok (.if_icmp .ge 51, 3) := by decide +kernel
theorem dX11_showAll_58 : decode cX11_showAll 58 = .ok (.aload_n 0, 1) := by decide +kernel
theorem dX11_showAll_59 : decode cX11_showAll 59 = .ok (.getfield 45, 3) := by decide +kernel
theorem dX11_showAll_62 : decode cX11_showAll 62 = .ok (.iload_n 3, 1) := by decide +kernel
theorem dX11_showAll_63 : decode cX11_showAll 63 = .ok (.iload_n 2, 1) := by decide +kernel
theorem dX11_showAll_64 : decode cX11_showAll 64 = .ok (.iload 5, 2) := by decide +kernel
theorem dX11_showAll_66 : decode cX11_showAll 66 = .ok (.ishr, 1) := by decide +kernel
theorem dX11_showAll_67 : decode cX11_showAll 67 = .ok (.iconst 1, 1) := by decide +kernel
theorem dX11_showAll_68 : decode cX11_showAll 68 = .ok (.iand, 1) := by decide +kernel
theorem dX11_showAll_69 : decode cX11_showAll 69 = .ok (.iconst 1, 1) := by decide +kernel
theorem dX11_showAll_70 : decode cX11_showAll 70 = .ok (.if_icmp .ne 13, 3) := by decide +kernel
theorem dX11_showAll_73 : decode cX11_showAll 73 = .ok (.aload_n 0, 1) := by decide +kernel
theorem dX11_showAll_74 : decode cX11_showAll 74 = .ok (.iload_n 1, 1) := by decide +kernel
theorem dX11_showAll_75 : decode cX11_showAll 75 = .ok (.iload 5, 2) := by decide +kernel
theorem dX11_showAll_77 : decode cX11_showAll 77 = .ok (.invokevirtual 143, 3) := by decide +kernel
theorem dX11_showAll_80 : decode cX11_showAll 80 = .ok (.goto 16, 3) := by decide +kernel
theorem dX11_showAll_83 : decode cX11_showAll 83 = .ok (.iload_n 1, 1) := by decide +kernel
theorem dX11_showAll_84 : decode cX11_showAll 84 = .ok (.iload 5, 2) := by decide +kernel
theorem dX11_showAll_86 : decode cX11_showAll 86 = .ok (.aload_n 0, 1) := by decide +kernel
theorem dX11_showAll_87 : decode cX11_showAll 87 = .ok (.iload_n 1, 1) := by decide +kernel
theorem dX11_showAll_88 : decode cX11_showAll 88 = .ok (.iload 5, 2) := by decide +kernel
theorem dX11_showAll_90 : decode cX11_showAll 90 = .ok (.invokevirtual 143, 3) := by decide +kernel
theorem dX11_showAll_93 : decode cX11_showAll 93 = .ok (.invokestatic 146, 3) := by decide +kernel
theorem dX11_showAll_96 : decode cX11_showAll 96 = .ok (.iastore, 1) := by decide +kernel
theorem dX11_showAll_97 : decode cX11_showAll 97 = .ok (.iinc 3 1, 3) := by decide +kernel
theorem dX11_showAll_100 : decode cX11_showAll 100 = .ok (.iinc 5 1, 3) := by decide +kernel
theorem dX11_showAll_103 : decode cX11_showAll 103 = .ok (.goto (-56), 3) := by decide +kernel
theorem dX11_showAll_106 : decode cX11_showAll 106 = .ok (.iinc 4 1, 3) := by decide +kernel
theorem dX11_showAll_109 : decode cX11_showAll 109 = .ok (.goto (-104), 3) := by decide +kernel
theorem dX11_showAll_112 : decode cX11_showAll 112 = .ok (.iload_n 3, 1) := by decide +kernel
theorem dX11_showAll_113 : decode cX11_showAll 113 = .ok (.ireturn, 1) := by decide +kernel
theorem dX11_show_0 : decode cX11_show 0 = .ok (.aload_n 0, 1) := by decide +kernel
theorem dX11_show_1 : decode cX11_show 1 = .ok (.iconst 0, 1) := by decide +kernel
theorem dX11_show_2 : decode cX11_show 2 = .ok (.putfield 1, 3) := by decide +kernel
theorem dX11_show_5 : decode cX11_show 5 = .ok (.aload_n 0, 1) := by decide +kernel
theorem dX11_show_6 : decode cX11_show 6 = .ok (.iload_n 1, 1) := by decide +kernel
theorem dX11_show_7 : decode cX11_show 7 = .ok (.invokevirtual 164, 3) := by decide +kernel
theorem dX11_show_10 : decode cX11_show 10 = .ok (.ifCond .eq 20, 3) := by decide +kernel
theorem dX11_show_13 : decode cX11_show 13 = .ok (.iload_n 2, 1) := by decide +kernel
theorem dX11_show_14 : decode cX11_show 14 = .ok (.i2l, 1) := by decide +kernel
theorem dX11_show_15 : decode cX11_show 15 = .ok (.lconst 0, 1) := by decide +kernel
theorem dX11_show_16 : decode cX11_show 16 = .ok (.ldc2_w 167, 3) := by decide +kernel
theorem dX11_show_19 : decode cX11_show 19 = .ok (.invokestatic 96, 3) := by decide +kernel
theorem dX11_show_22 : decode cX11_show 22 = .ok (.ifCond .eq 8, 3) := by decide +kernel
theorem dX11_show_25 : decode cX11_show 25 = .ok (.iload_n 3, 1) := by decide +kernel
theorem dX11_show_26 : decode cX11_show 26 = .ok (.iconst (-1), 1) := by decide +kernel
theorem dX11_show_27 : decode cX11_show 27 = .ok (.if_icmp .ge 6, 3) := by decide +kernel
theorem dX11_show_30 : decode cX11_show 30 = .ok (.ldc 108, 2) := by decide +kernel
theorem dX11_show_32 : decode cX11_show 32 = .ok (.ireturn, 1) := by decide +kernel
theorem dX11_show_33 : decode cX11_show 33 = .ok (.aload_n 0, 1) := by decide +kernel
theorem dX11_show_34 : decode cX11_show 34 = .ok (.iload_n 1, 1) := by decide +kernel
theorem dX11_show_35 : decode cX11_show 35 = .ok (.iload_n 2, 1) := by decide +kernel
theorem dX11_show_36 : decode cX11_show 36 = .ok (.invokevirtual 178, 3) := by decide +kernel
theorem dX11_show_39 : decode cX11_show 39 = .ok (.istore 4, 2) := by decide +kernel
theorem dX11_show_41 : decode cX11_show 41 = .ok (.iload_n 3, 1) := by decide +kernel
theorem dX11_show_42 : decode cX11_show 42 = .ok (.iconst (-1), 1) := by decide +kernel
theorem dX11_show_43 : decode cX11_show 43 = .ok (.if_icmp .ne 8, 3) := by decide +kernel
theorem dX11_show_46 : decode cX11_show 46 = .ok (.iload 4, 2) := by decide +kernel
theorem dX11_show_48 : decode cX11_show 48 = .ok (.goto 20, 3) := by decide +kernel
theorem dX11_show_51 : decode cX11_show 51 = .ok (.iload_n 3, 1) := by decide +kernel
theorem dX11_show_52 : decode cX11_show 52 = .ok (.iload 4, 2) := by decide +kernel
theorem dX11_show_54 : decode cX11_show 54 = .ok (.if_icmp .ge 12, 3) := by decide +kernel
theorem dX11_show_57 : decode cX11_show 57 = .ok (.aload_n 0, 1) := by decide +kernel
theorem dX11_show_58 : decode cX11_show 58 = .ok (.getfield 45, 3) := by decide +kernel
theorem dX11_show_61 : decode cX11_show 61 = .ok (.iload_n 3, 1) := by decide +kernel
theorem dX11_show_62 : decode cX11_show 62 = .ok (.iaload, 1) := by decide +kernel
theorem dX11_show_63 : decode cX11_show 63 = .ok (.goto 5, 3) := by decide +kernel
theorem dX11_show_66 : decode cX11_show 66 = .ok (.ldc 93, 2) := by decide +kernel
theorem dX11_show_68 : decode cX11_show 68 = .ok (.ireturn, 1) := by decide +kernel
theorem dX11_check_0 : decode cX11_check 0 = .ok (.aload_n 0, 1) := by decide +kernel
theorem dX11_check_1 : decode cX11_check 1 = .ok (.iconst 0, 1) := by decide +kernel
theorem dX11_check_2 : decode cX11_check 2 = .ok (.putfield 1, 3) := by decide +kernel
theorem dX11_check_5 : decode cX11_check 5 = .ok (.aload_n 0, 1) := by decide +kernel
theorem dX11_check_6 : decode cX11_check 6 = .ok (.iload_n 1, 1) := by decide +kernel
theorem dX11_check_7 : decode cX11_check 7 = .ok (.invokevirtual 164, 3) := by decide +kernel
theorem dX11_check_10 : decode cX11_check 10 = .ok (.ifCond .eq 33, 3) := by decide +kernel
theorem dX11_check_13 : decode cX11_check 13 = .ok (.iload_n 2, 1) := by decide +kernel
theorem dX11_check_14 : decode cX11_check 14 = .ok (.i2l, 1) := by decide +kernel
theorem dX11_check_15 : decode cX11_check 15 = .ok (.lconst 0, 1) := by decide +kernel
theorem dX11_check_16 : decode cX11_check 16 = .ok (.ldc2_w 167, 3) := by decide +kernel
theorem dX11_check_19 : decode cX11_check 19 = .ok (.invokestatic 96, 3) := by decide +kernel
theorem dX11_check_22 : decode cX11_check 22 = .ok (.ifCond .eq 21, 3) := by decide +kernel
theorem dX11_check_25 : decode cX11_check 25 = .ok (.iload_n 3, 1) := by decide +kernel
theorem dX11_check_26 : decode cX11_check 26 = .ok (.invokestatic 102, 3) := by decide +kernel
theorem dX11_check_29 : decode cX11_check 29 = .ok (.ifCond .eq 14, 3) := by decide +kernel
theorem dX11_check_32 : decode cX11_check 32 = .ok (.iload 5, 2) := by decide +kernel
theorem dX11_check_34 : decode cX11_check 34 = .ok (.aload_n 0, 1) := by decide +kernel
theorem dX11_check_35 : decode cX11_check 35 = .ok (.iload_n 1, 1) := by decide +kernel
theorem dX11_check_36 : decode cX11_check 36 = .ok (.iload_n 2, 1) := by decide +kernel
theorem dX11_check_37 : decode cX11_check 37 = .ok (.invokevirtual 178, 3) := by decide +kernel
theorem dX11_check_40 : decode cX11_check 40 = .ok (.if_icmp .eq 6, 3) := by decide +kernel
theorem dX11_check_43 : decode cX11_check 43 = .ok (.ldc 108, 2) := by decide +kernel
theorem dX11_check_45 : decode cX11_check 45 = .ok (.ireturn, 1) := by decide +kernel
theorem dX11_check_46 : decode cX11_check 46 = .ok (.aload_n 0, 1) := by decide +kernel
theorem dX11_check_47 : decode cX11_check 47 = .ok (.iload_n 3, 1) := by decide +kernel
theorem dX11_check_48 : decode cX11_check 48 = .ok (.iload 4, 2) := by decide +kernel
theorem dX11_check_50 : decode cX11_check 50 = .ok (.iload 5, 2) := by decide +kernel
theorem dX11_check_52 : decode cX11_check 52 = .ok (.invokevirtual 132, 3) := by decide +kernel
theorem dX11_check_55 : decode cX11_check 55 = .ok (.istore 6, 2) := by decide +kernel
theorem dX11_check_57 : decode cX11_check 57 = .ok (.iload 6, 2) := by decide +kernel
theorem dX11_check_59 : decode cX11_check 59 = .ok (.ifCond .ge 6, 3) := by decide +kernel
theorem dX11_check_62 : decode cX11_check 62 = .ok (.iload 6, 2) := by decide +kernel
theorem dX11_check_64 : decode cX11_check 64 = .ok (.ireturn, 1) := by decide +kernel
theorem dX11_check_65 : decode cX11_check 65 = .ok (.bipush 60, 2) := by decide +kernel
theorem dX11_check_67 : decode cX11_check 67 = .ok (.iload_n 3, 1) := by decide +kernel
theorem dX11_check_68 : decode cX11_check 68 = .ok (.imul, 1) := by decide +kernel
theorem dX11_check_69 : decode cX11_check 69 = .ok (.iload 4, 2) := by decide +kernel
theorem dX11_check_71 : decode cX11_check 71 = .ok (.iadd, 1) := by decide +kernel
theorem dX11_check_72 : decode cX11_check 72 = .ok (.istore 7, 2) := by decide +kernel
theorem dX11_check_74 : decode cX11_check 74 = .ok (.iconst 0, 1) := by decide +kernel
theorem dX11_check_75 : decode cX11_check 75 = .ok (.istore 8, 2) := by decide +kernel
theorem dX11_check_77 : decode cX11_check 77 = .ok (.iload 8, 2) := by decide +kernel
theorem dX11_check_79 : decode cX11_check 79 = .ok (.iconst 2, 1) := by decide +kernel
theorem dX11_check_80 : decode cX11_check 80 = .ok (.if_icmp .ge 190, 3) := by decide +kernel
theorem dX11_check_83 : decode cX11_check 83 = .ok (.iload_n 2, 1) := by decide +kernel
theorem dX11_check_84 : decode cX11_check 84 = .ok (.iconst 2, 1) := by decide +kernel
theorem dX11_check_85 : decode cX11_check 85 = .ok (.iload 8, 2) := by decide +kernel
theorem dX11_check_87 : decode cX11_check 87 = .ok (.imul, 1) := by decide +kernel
theorem dX11_check_88 : decode cX11_check 88 = .ok (.ishr, 1) := by decide +kernel
theorem dX11_check_89 : decode cX11_check 89 = .ok (.iconst 3, 1) := by decide +kernel
theorem dX11_check_90 : decode cX11_check 90 = .ok (.iand, 1) := by decide +kernel
theorem dX11_check_91 : decode cX11_check 91 = .ok (.ifCond .ne 44, 3) := by decide +kernel
theorem dX11_check_94 : decode cX11_check 94 = .ok (.aload_n 0, 1) := by decide +kernel
theorem dX11_check_95 : decode cX11_check 95 = .ok (.getfield 24, 3) := by decide +kernel
theorem dX11_check_98 : decode cX11_check 98 = .ok (.iload 7, 2) := by decide +kernel
theorem dX11_check_100 : decode cX11_check 100 = .ok (.iaload, 1) := by decide +kernel
theorem dX11_check_101 : decode cX11_check 101 = .ok (.i2l, 1) := by decide +kernel
theorem dX11_check_102 : decode cX11_check 102 = .ok (.lconst 0, 1) := by decide +kernel
theorem dX11_check_103 : decode cX11_check 103 = .ok (.ldc2_w 121, 3) := by decide +kernel
theorem dX11_check_106 : decode cX11_check 106 = .ok (.invokestatic 96, 3) := by decide +kernel
theorem dX11_check_109 : decode cX11_check 109 = .ok (.ifCond .ne 6, 3) := by decide +kernel
theorem dX11_check_112 : decode cX11_check 112 = .ok (.ldc 108, 2) := by decide +kernel
theorem dX11_check_114 : decode cX11_check 114 = .ok (.ireturn, 1) := by decide +kernel
theorem dX11_check_115 : decode cX11_check 115 = .ok (.aload_n 0, 1) := by decide +kernel
theorem dX11_check_116 : decode cX11_check 116 = .ok (.getfield 48, 3) := by decide +kernel
theorem dX11_check_119 : decode cX11_check 119 = .ok (.iload 8, 2) := by decide +kernel
theorem dX11_check_121 : decode cX11_check 121 = .ok (.aload_n 0, 1) := by decide +kernel
theorem dX11_check_122 : decode cX11_check 122 = .ok (.getfield 24, 3) := by decide +kernel
theorem dX11_check_125 : decode cX11_check 125 = .ok (.iload 7, 2) := by decide +kernel
theorem dX11_check_127 : decode cX11_check 127 = .ok (.iaload, 1) := by decide +kernel
theorem dX11_check_128 : decode cX11_check 128 = .ok (.iastore, 1) := by decide +kernel
theorem dX11_check_129 : decode cX11_check 129 = .ok (.iinc 7 1, 3) := by decide +kernel
theorem dX11_check_132 : decode cX11_check 132 = .ok (.goto 132, 3) := by decide +kernel
theorem dX11_check_135 : decode cX11_check 135 = .ok (.iconst 0, 1) := by decide +kernel
theorem dX11_check_136 : decode cX11_check 136 = .ok (.istore 9, 2) := by decide +kernel
theorem dX11_check_138 : decode cX11_check 138 = .ok (.iconst 0, 1) := by decide +kernel
theorem dX11_check_139 : decode cX11_check 139 = .ok (.istore 10, 2) := by decide +kernel
theorem dX11_check_141 : decode cX11_check 141 = .ok (.iconst 2, 1) := by decide +kernel
theorem dX11_check_142 : decode cX11_check 142 = .ok (.iload 8, 2) := by decide +kernel
theorem dX11_check_144 : decode cX11_check 144 = .ok (.imul, 1) := by decide +kernel
theorem dX11_check_145 : decode cX11_check 145 = .ok (.istore 11, 2) := by decide +kernel
theorem dX11_check_147 : decode cX11_check 147 = .ok (.iload 11, 2) := by decide +kernel
theorem dX11_check_149 : decode cX11_check 149 = .ok (.iconst 2, 1) := by decide +kernel
theorem dX11_check_150 : decode cX11_check 150 = .ok (.iload 8, 2) := by decide +kernel
theorem dX11_check_152 : decode cX11_check 152 = .ok (.imul, 1) := by decide +kernel
theorem dX11_check_153 : decode cX11_check 153 = .ok (.iconst 2, 1) := by decide +kernel
theorem dX11_check_154 : decode cX11_check 154 = .ok (.iadd, 1) := by decide +kernel
theorem dX11_check_155 : decode cX11_check 155 = .ok (.if_icmp .ge 95, 3) := by decide +kernel
theorem dX11_check_158 : decode cX11_check 158 = .ok (.iload_n 2, 1) := by decide +kernel
theorem dX11_check_159 : decode cX11_check 159 = .ok (.iload 11, 2) := by decide +kernel
theorem dX11_check_161 : decode cX11_check 161 = .ok (.ishr, 1) := by decide +kernel
theorem dX11_check_162 : decode cX11_check 162 = .ok (.iconst 1, 1) := by decide +kernel
theorem dX11_check_163 : decode cX11_check 163 = .ok (.iand, 1) := by decide +kernel
theorem dX11_check_164 : decode cX11_check 164 = .ok (.iconst 1, 1) := by decide +kernel
theorem dX11_check_165 : decode cX11_check 165 = .ok (.if_icmp .ne 7, 3) := by decide +kernel
theorem dX11_check_168 : decode cX11_check 168 = .ok (.iconst 1, 1) := by decide +kernel
theorem dX11_check_169 : decode cX11_check 169 = .ok (.goto 4, 3) := by decide +kernel
theorem dX11_check_172 : decode cX11_check 172 = .ok (.iconst 0, 1) := by decide +kernel
theorem dX11_check_173 : decode cX11_check 173 = .ok (.istore 12, 2) := by decide +kernel
theorem dX11_check_175 : decode cX11_check 175 = .ok (.aload_n 0, 1) := by decide +kernel
theorem dX11_check_176 : decode cX11_check 176 = .ok (.getfield 24, 3) := by decide +kernel
theorem dX11_check_179 : decode cX11_check 179 = .ok (.iload 7, 2) := by decide +kernel
theorem dX11_check_181 : decode cX11_check 181 = .ok (.iaload, 1) := by decide +kernel
theorem dX11_check_182 : decode cX11_check 182 = .ok (.i2l, 1) := by decide +kernel
theorem dX11_check_183 : decode cX11_check 183 = .ok (.lconst 0, 1) := by decide +kernel
theorem dX11_check_184 : decode cX11_check 184 = .ok (.iload 12, 2) := by decide +kernel
theorem dX11_check_186 : decode cX11_check 186 = .ok (.ifCond .eq 9, 3) := by decide +kernel
theorem dX11_check_189 : decode cX11_check 189 = .ok (.ldc2_w 94, 3) := by decide +kernel
theorem dX11_check_192 : decode cX11_check 192 = .ok (.goto 6, 3) := by decide +kernel
theorem dX11_check_195 : decode cX11_check 195 = .ok (.ldc2_w 121, 3) := by decide +kernel
theorem dX11_check_198 : decode cX11_check 198 = .ok (.invokestatic 96, 3) := by decide +kernel
theorem dX11_check_201 : decode cX11_check 201 = .ok (.ifCond .ne 6, 3) := by decide +kernel
theorem dX11_check_204 : decode cX11_check 204 = .ok (.ldc 108, 2) := by decide +kernel
theorem dX11_check_206 : decode cX11_check 206 = .ok (.ireturn, 1) := by decide +kernel
theorem dX11_check_207 : decode cX11_check 207 = .ok (.iload 10, 2) := by decide +kernel
theorem dX11_check_209 : decode cX11_check 209 = .ok (.istore 9, 2) := by decide +kernel
theorem dX11_check_211 : decode cX11_check 211 = .ok (.iload 12, 2) := by decide +kernel
theorem dX11_check_213 : decode cX11_check 213 = .ok (.ifCond .eq 19, 3) := by decide +kernel
theorem dX11_check_216 : decode cX11_check 216 = .ok (.iload_n 1, 1) := by decide +kernel
theorem dX11_check_217 : decode cX11_check 217 = .ok (.iload 11, 2) := by decide +kernel
theorem dX11_check_219 : decode cX11_check 219 = .ok (.aload_n 0, 1) := by decide +kernel
theorem dX11_check_220 : decode cX11_check 220 = .ok (.getfield 24, 3) := by decide +kernel
theorem dX11_check_223 : decode cX11_check 223 = .ok (.iload 7, 2) := by decide +kernel
theorem dX11_check_225 : decode cX11_check 225 = .ok (.iaload, 1) := by decide +kernel
theorem dX11_check_226 : decode cX11_check 226 = .ok (.invokestatic 146, 3) := by decide +kernel
theorem dX11_check_229 : decode cX11_check 229 = .ok (.goto 10, 3) := by decide +kernel
theorem dX11_check_232 : decode cX11_check 232 = .ok (.aload_n 0, 1) := by decide +kernel
theorem dX11_check_233 : decode cX11_check 233 = .ok (.getfield 24, 3) := by decide +kernel
theorem dX11_check_236 : decode cX11_check 236 = .ok (.iload 7, 2) := by decide +kernel
theorem dX11_check_238 : decode cX11_check 238 = .ok (.iaload, 1) := by decide +kernel
theorem dX11_check_239 : decode cX11_check 239 = .ok (.istore 10, 2) := by decide +kernel
theorem dX11_check_241 : decode cX11_check 241 = .ok (.iinc 7 1, 3) := by decide +kernel
theorem dX11_check_244 : decode cX11_check 244 = .ok (.iinc 11 1, 3) := by decide +kernel
theorem dX11_check_247 : decode cX11_check 247 = .ok (.goto (-100), 3) := by decide +kernel
theorem dX11_check_250 : decode cX11_check 250 = .ok (.aload_n 0, 1) := by decide +kernel
theorem dX11_check_251 : decode cX11_check 251 = .ok (.getfield 48, 3) := by decide +kernel
theorem dX11_check_254 : decode cX11_check 254 = .ok (.iload 8, 2) := by decide +kernel
theorem dX11_check_256 : decode cX11_check 256 = .ok (.iload 9, 2) := by decide +kernel
theorem dX11_check_258 : decode cX11_check 258 = .ok (.iload 10, 2) := by decide +kernel
theorem dX11_check_260 : decode cX11_check 260 = .ok (.invokestatic 149, 3) := by decide +kernel
theorem dX11_check_263 : decode cX11_check 263 = .ok (.iastore, 1) := by decide +kernel
theorem dX11_check_264 : decode cX11_check 264 = .ok (.iinc 8 1, 3) := by decide +kernel
theorem dX11_check_267 : decode cX11_check 267 = .ok (.goto (-190), 3) := by decide +kernel
theorem dX11_check_270 : decode cX11_check 270 = .ok (.aload_n 0, 1) := by decide +kernel
theorem dX11_check_271 : decode cX11_check 271 = .ok (.iconst 0, 1) := by decide +kernel
theorem dX11_check_272 : decode cX11_check 272 = .ok (.putfield 7, 3) := by decide +kernel
theorem dX11_check_275 : decode cX11_check 275 = .ok (.aload_n 0, 1) := by decide +kernel
theorem dX11_check_276 : decode cX11_check 276 = .ok (.iload_n 1, 1) := by decide +kernel
theorem dX11_check_277 : decode cX11_check 277 = .ok (.aload_n 0, 1) := by decide +kernel
theorem dX11_check_278 : decode cX11_check 278 = .ok (.getfield 48, 3) := by decide +kernel
theorem dX11_check_281 : decode cX11_check 281 = .ok (.iconst 0, 1) := by decide +kernel
theorem dX11_check_282 : decode cX11_check 282 = .ok (.iaload, 1) := by decide +kernel
theorem dX11_check_283 : decode cX11_check 283 = .ok (.aload_n 0, 1) := by decide +kernel
theorem dX11_check_284 : decode cX11_check 284 = .ok (.getfield 48, 3) := by decide +kernel
theorem dX11_check_287 : decode cX11_check 287 = .ok (.iconst 1, 1) := by decide +kernel
theorem dX11_check_288 : decode cX11_check 288 = .ok (.iaload, 1) := by decide +kernel
theorem dX11_check_289 : decode cX11_check 289 = .ok (.invokestatic 149, 3) := by decide +kernel
theorem dX11_check_292 : decode cX11_check 292 = .ok (.invokevirtual 172, 3) := by decide +kernel
theorem dX11_check_295 : decode cX11_check 295 = .ok (.aload_n 0, 1) := by decide +kernel
theorem dX11_check_296 : decode cX11_check 296 = .ok (.iload_n 1, 1) := by decide +kernel
theorem dX11_check_297 : decode cX11_check 297 = .ok (.aload_n 0, 1) := by decide +kernel
theorem dX11_check_298 : decode cX11_check 298 = .ok (.iload_n 1, 1) := by decide +kernel
theorem dX11_check_299 : decode cX11_check 299 = .ok (.invokevirtual 169, 3) := by decide +kernel
theorem dX11_check_302 : decode cX11_check 302 = .ok (.invokevirtual 172, 3) := by decide +kernel
theorem dX11_check_305 : decode cX11_check 305 = .ok (.if_icmp .ne 7, 3) := by decide +kernel
theorem dX11_check_308 : decode cX11_check 308 = .ok (.iconst 1, 1) := by decide +kernel
theorem dX11_check_309 : decode cX11_check 309 = .ok (.goto 4, 3) := by decide +kernel
theorem dX11_check_312 : decode cX11_check 312 = .ok (.iconst 0, 1) := by decide +kernel
theorem dX11_check_313 : decode cX11_check 313 = .ok (.ireturn, 1) := by decide +kernel
theorem dX11_lies_0 : decode cX11_lies 0 = .ok (.aload_n 0, 1) := by decide +kernel
theorem dX11_lies_1 : decode cX11_lies 1 = .ok (.iconst 0, 1) := by decide +kernel
theorem dX11_lies_2 : decode cX11_lies 2 = .ok (.putfield 1, 3) := by decide +kernel
theorem dX11_lies_5 : decode cX11_lies 5 = .ok (.aload_n 0, 1) := by decide +kernel
theorem dX11_lies_6 : decode cX11_lies 6 = .ok (.iload_n 1, 1) := by decide +kernel
theorem dX11_lies_7 : decode cX11_lies 7 = .ok (.invokevirtual 164, 3) := by decide +kernel
theorem dX11_lies_10 : decode cX11_lies 10 = .ok (.ifCond .eq 15, 3) := by decide +kernel
theorem dX11_lies_13 : decode cX11_lies 13 = .ok (.iload_n 2, 1) := by decide +kernel
theorem dX11_lies_14 : decode cX11_lies 14 = .ok (.i2l, 1) := by decide +kernel
theorem dX11_lies_15 : decode cX11_lies 15 = .ok (.lconst 0, 1) := by decide +kernel
theorem dX11_lies_16 : decode cX11_lies 16 = .ok (.ldc2_w 113, 3) := by decide +kernel
theorem dX11_lies_19 : decode cX11_lies 19 = .ok (.invokestatic 96, 3) := by decide +kernel
theorem dX11_lies_22 : decode cX11_lies 22 = .ok (.ifCond .ne 6, 3) := by decide +kernel
theorem dX11_lies_25 : decode cX11_lies 25 = .ok (.ldc 108, 2) := by decide +kernel
theorem dX11_lies_27 : decode cX11_lies 27 = .ok (.ireturn, 1) := by decide +kernel
theorem dX11_lies_28 : decode cX11_lies 28 = .ok (.aload_n 0, 1) := by decide +kernel
theorem dX11_lies_29 : decode cX11_lies 29 = .ok (.iload_n 1, 1) := by decide +kernel
theorem dX11_lies_30 : decode cX11_lies 30 = .ok (.aload_n 0, 1) := by decide +kernel
theorem dX11_lies_31 : decode cX11_lies 31 = .ok (.iload_n 1, 1) := by decide +kernel
theorem dX11_lies_32 : decode cX11_lies 32 = .ok (.invokevirtual 169, 3) := by decide +kernel
theorem dX11_lies_35 : decode cX11_lies 35 = .ok (.invokevirtual 172, 3) := by decide +kernel
theorem dX11_lies_38 : decode cX11_lies 38 = .ok (.istore_n 3, 1) := by decide +kernel
theorem dX11_lies_39 : decode cX11_lies 39 = .ok (.iconst 0, 1) := by decide +kernel
theorem dX11_lies_40 : decode cX11_lies 40 = .ok (.istore 4, 2) := by decide +kernel
theorem dX11_lies_42 : decode cX11_lies 42 = .ok (.iconst 0, 1) := by decide +kernel
theorem dX11_lies_43 : decode cX11_lies 43 = .ok (.istore 5, 2) := by decide +kernel
theorem dX11_lies_45 : decode cX11_lies 45 = .ok (.iload 5, 2) := by decide +kernel
theorem dX11_lies_47 : decode cX11_lies 47 = .ok (.sipush 1000, 3) := by decide +kernel
theorem dX11_lies_50 : decode cX11_lies 50 = .ok (.if_icmp .ge 128, 3) := by decide +kernel
theorem dX11_lies_53 : decode cX11_lies 53 = .ok (.iload_n 1, 1) := by decide +kernel
theorem dX11_lies_54 : decode cX11_lies 54 = .ok (.iload_n 2, 1) := by decide +kernel
theorem dX11_lies_55 : decode cX11_lies 55 = .ok (.iconst 2, 1) := by decide +kernel
theorem dX11_lies_56 : decode cX11_lies 56 = .ok (.iand, 1) := by decide +kernel
theorem dX11_lies_57 : decode cX11_lies 57 = .ok (.iload_n 2, 1) := by decide +kernel
theorem dX11_lies_58 : decode cX11_lies 58 = .ok (.iconst 1, 1) := by decide +kernel
theorem dX11_lies_59 : decode cX11_lies 59 = .ok (.iand, 1) := by decide +kernel
theorem dX11_lies_60 : decode cX11_lies 60 = .ok (.ifCond .ne 8, 3) := by decide +kernel
theorem dX11_lies_63 : decode cX11_lies 63 = .ok (.iload 5, 2) := by decide +kernel
theorem dX11_lies_65 : decode cX11_lies 65 = .ok (.goto 11, 3) := by decide +kernel
theorem dX11_lies_68 : decode cX11_lies 68 = .ok (.aload_n 0, 1) := by decide +kernel
theorem dX11_lies_69 : decode cX11_lies 69 = .ok (.iload_n 1, 1) := by decide +kernel
theorem dX11_lies_70 : decode cX11_lies 70 = .ok (.iload_n 2, 1) := by decide +kernel
theorem dX11_lies_71 : decode cX11_lies 71 = .ok (.iconst 2, 1) := by decide +kernel
theorem dX11_lies_72 : decode cX11_lies 72 = .ok (.iand, 1) := by decide +kernel
theorem dX11_lies_73 : decode cX11_lies 73 = .ok (.invokevirtual 143, 3) := by decide +kernel
theorem dX11_lies_76 : decode cX11_lies 76 = .ok (.invokestatic 146, 3) := by decide +kernel
theorem dX11_lies_79 : decode cX11_lies 79 = .ok (.istore 6, 2) := by decide +kernel
theorem dX11_lies_81 : decode cX11_lies 81 = .ok (.iload_n 1, 1) := by decide +kernel
theorem dX11_lies_82 : decode cX11_lies 82 = .ok (.iload_n 2, 1) := by decide +kernel
theorem dX11_lies_83 : decode cX11_lies 83 = .ok (.iconst 1, 1) := by decide +kernel
theorem dX11_lies_84 : decode cX11_lies 84 = .ok (.ior, 1) := by decide +kernel
theorem dX11_lies_85 : decode cX11_lies 85 = .ok (.iload_n 2, 1) := by decide +kernel
theorem dX11_lies_86 : decode cX11_lies 86 = .ok (.iconst 1, 1) := by decide +kernel
theorem dX11_lies_87 : decode cX11_lies 87 = .ok (.iand, 1) := by decide +kernel
theorem dX11_lies_88 : decode cX11_lies 88 = .ok (.iconst 1, 1) := by decide +kernel
theorem dX11_lies_89 : decode cX11_lies 89 = .ok (.if_icmp .ne 8, 3) := by decide +kernel
theorem dX11_lies_92 : decode cX11_lies 92 = .ok (.iload 5, 2) := by decide +kernel
theorem dX11_lies_94 : decode cX11_lies 94 = .ok (.goto 11, 3) := by decide +kernel
theorem dX11_lies_97 : decode cX11_lies 97 = .ok (.aload_n 0, 1) := by decide +kernel
theorem dX11_lies_98 : decode cX11_lies 98 = .ok (.iload_n 1, 1) := by decide +kernel
theorem dX11_lies_99 : decode cX11_lies 99 = .ok (.iload_n 2, 1) := by decide +kernel
theorem dX11_lies_100 : decode cX11_lies 100 = .ok (.iconst 1, 1) := by decide +kernel
theorem dX11_lies_101 : decode cX11_lies 101 = .ok (.ior, 1) := by decide +kernel
theorem dX11_lies_102 : decode cX11_lies 102 = .ok (.invokevirtual 143, 3) := by decide +kernel
theorem dX11_lies_105 : decode cX11_lies 105 = .ok (.invokestatic 146, 3) := by decide +kernel
theorem dX11_lies_108 : decode cX11_lies 108 = .ok (.istore 7, 2) := by decide +kernel
theorem dX11_lies_110 : decode cX11_lies 110 = .ok (.iload 6, 2) := by decide +kernel
theorem dX11_lies_112 : decode cX11_lies 112 = .ok (.iload 7, 2) := by decide +kernel
theorem dX11_lies_114 : decode cX11_lies 114 = .ok (.invokestatic 149, 3) := by decide +kernel
theorem dX11_lies_117 : decode cX11_lies 117 = .ok (.istore 8, 2) := by decide +kernel
theorem dX11_lies_119 : decode cX11_lies 119 = .ok (.iload_n 2, 1) := by decide +kernel
theorem dX11_lies_120 : decode cX11_lies 120 = .ok (.iconst 2, 1) := by decide +kernel
theorem dX11_lies_121 : decode cX11_lies 121 = .ok (.if_icmp .ge 17, 3) := by decide +kernel
theorem dX11_lies_124 : decode cX11_lies 124 = .ok (.iload 8, 2) := by decide +kernel
theorem dX11_lies_126 : decode cX11_lies 126 = .ok (.aload_n 0, 1) := by decide +kernel
theorem dX11_lies_127 : decode cX11_lies 127 = .ok (.iload_n 1, 1) := by decide +kernel
theorem dX11_lies_128 : decode cX11_lies 128 = .ok (.iconst 1, 1) := by decide +kernel
theorem dX11_lies_129 : decode cX11_lies 129 = .ok (.invokevirtual 155, 3) := by decide +kernel
theorem dX11_lies_132 : decode cX11_lies 132 = .ok (.invokestatic 149, 3) := by decide +kernel
theorem dX11_lies_135 : decode cX11_lies 135 = .ok (.goto 14, 3) := by decide +kernel
theorem dX11_lies_138 : decode cX11_lies 138 = .ok (.aload_n 0, 1) := by decide +kernel
theorem dX11_lies_139 : decode cX11_lies 139 = .ok (.iload_n 1, 1) := by decide +kernel
theorem dX11_lies_140 : decode cX11_lies 140 = .ok (.iconst 0, 1) := by decide +kernel
theorem dX11_lies_141 : decode cX11_lies 141 = .ok (.invokevirtual 155, 3) := by decide +kernel
theorem dX11_lies_144 : decode cX11_lies 144 = .ok (.iload 8, 2) := by decide +kernel
theorem dX11_lies_146 : decode cX11_lies 146 = .ok (.invokestatic 149, 3) := by decide +kernel
theorem dX11_lies_149 : decode cX11_lies 149 = .ok (.istore 9, 2) := by decide +kernel
theorem dX11_lies_151 : decode cX11_lies 151 = .ok (.iload 4, 2) := by decide +kernel
theorem dX11_lies_153 : decode cX11_lies 153 = .ok (.aload_n 0, 1) := by decide +kernel
theorem dX11_lies_154 : decode cX11_lies 154 = .ok (.iload_n 1, 1) := by decide +kernel
theorem dX11_lies_155 : decode cX11_lies 155 = .ok (.iload 9, 2) := by decide +kernel
theorem dX11_lies_157 : decode cX11_lies 157 = .ok (.invokevirtual 172, 3) := by decide +kernel
theorem dX11_lies_160 : decode cX11_lies 160 = .ok (.iload_n 3, 1) := by decide +kernel
theorem dX11_lies_161 : decode cX11_lies 161 = .ok (.if_icmp .ne 7, 3) := by decide +kernel
theorem dX11_lies_164 : decode cX11_lies 164 = .ok (.iconst 1, 1) := by decide +kernel
theorem dX11_lies_165 : decode cX11_lies 165 = .ok (.goto 4, 3) := by decide +kernel
theorem dX11_lies_168 : decode cX11_lies 168 = .ok (.iconst 0, 1) := by decide +kernel
theorem dX11_lies_169 : decode cX11_lies 169 = .ok (.iadd, 1) := by decide +kernel
theorem dX11_lies_170 : decode cX11_lies 170 = .ok (.istore 4, 2) := by decide +kernel
theorem dX11_lies_172 : decode cX11_lies 172 = .ok (.iinc 5 1, 3) := by decide +kernel
theorem dX11_lies_175 : decode cX11_lies 175 = .ok (.goto (-130), 3) := by decide +kernel
theorem dX11_lies_178 : decode cX11_lies 178 = .ok (.iload 4, 2) := by decide +kernel
theorem dX11_lies_180 : decode cX11_lies 180 = .ok (.ireturn, 1) := by decide +kernel
theorem dX11_over_0 : decode cX11_over 0 = .ok (.aload_n 0, 1) := by decide +kernel
theorem dX11_over_1 : decode cX11_over 1 = .ok (.iconst 0, 1) := by decide +kernel
theorem dX11_over_2 : decode cX11_over 2 = .ok (.putfield 1, 3) := by decide +kernel
theorem dX11_over_5 : decode cX11_over 5 = .ok (.aload_n 0, 1) := by decide +kernel
theorem dX11_over_6 : decode cX11_over 6 = .ok (.iload_n 1, 1) := by decide +kernel
theorem dX11_over_7 : decode cX11_over 7 = .ok (.invokevirtual 164, 3) := by decide +kernel
theorem dX11_over_10 : decode cX11_over 10 = .ok (.ifCond .eq 27, 3) := by decide +kernel
theorem dX11_over_13 : decode cX11_over 13 = .ok (.iload_n 2, 1) := by decide +kernel
theorem dX11_over_14 : decode cX11_over 14 = .ok (.i2l, 1) := by decide +kernel
theorem dX11_over_15 : decode cX11_over 15 = .ok (.lconst 0, 1) := by decide +kernel
theorem dX11_over_16 : decode cX11_over 16 = .ok (.ldc2_w 113, 3) := by decide +kernel
theorem dX11_over_19 : decode cX11_over 19 = .ok (.invokestatic 96, 3) := by decide +kernel
theorem dX11_over_22 : decode cX11_over 22 = .ok (.ifCond .eq 15, 3) := by decide +kernel
theorem dX11_over_25 : decode cX11_over 25 = .ok (.iload_n 3, 1) := by decide +kernel
theorem dX11_over_26 : decode cX11_over 26 = .ok (.i2l, 1) := by decide +kernel
theorem dX11_over_27 : decode cX11_over 27 = .ok (.lconst 0, 1) := by decide +kernel
theorem dX11_over_28 : decode cX11_over 28 = .ok (.ldc2_w 94, 3) := by decide +kernel
theorem dX11_over_31 : decode cX11_over 31 = .ok (.invokestatic 96, 3) := by decide +kernel
theorem dX11_over_34 : decode cX11_over 34 = .ok (.ifCond .ne 6, 3) := by decide +kernel
theorem dX11_over_37 : decode cX11_over 37 = .ok (.ldc 108, 2) := by decide +kernel
theorem dX11_over_39 : decode cX11_over 39 = .ok (.ireturn, 1) := by decide +kernel
theorem dX11_over_40 : decode cX11_over 40 = .ok (.aload_n 0, 1) := by decide +kernel
theorem dX11_over_41 : decode cX11_over 41 = .ok (.iload_n 1, 1) := by decide +kernel
theorem dX11_over_42 : decode cX11_over 42 = .ok (.iload_n 2, 1) := by decide +kernel
theorem dX11_over_43 : decode cX11_over 43 = .ok (.invokevirtual 143, 3) := by decide +kernel
theorem dX11_over_46 : decode cX11_over 46 = .ok (.iload_n 3, 1) := by decide +kernel
theorem dX11_over_47 : decode cX11_over 47 = .ok (.if_icmp .ge 8, 3) := by decide +kernel
theorem dX11_over_50 : decode cX11_over 50 = .ok (.ldc 128, 2) := by decide +kernel
theorem dX11_over_52 : decode cX11_over 52 = .ok (.goto 19, 3) := by decide +kernel
theorem dX11_over_55 : decode cX11_over 55 = .ok (.iload_n 1, 1) := by decide +kernel
theorem dX11_over_56 : decode cX11_over 56 = .ok (.iload_n 2, 1) := by decide +kernel
theorem dX11_over_57 : decode cX11_over 57 = .ok (.invokestatic 158, 3) := by decide +kernel
theorem dX11_over_60 : decode cX11_over 60 = .ok (.aload_n 0, 1) := by decide +kernel
theorem dX11_over_61 : decode cX11_over 61 = .ok (.iload_n 1, 1) := by decide +kernel
theorem dX11_over_62 : decode cX11_over 62 = .ok (.iload_n 2, 1) := by decide +kernel
theorem dX11_over_63 : decode cX11_over 63 = .ok (.invokevirtual 143, 3) := by decide +kernel
theorem dX11_over_66 : decode cX11_over 66 = .ok (.iload_n 3, 1) := by decide +kernel
theorem dX11_over_67 : decode cX11_over 67 = .ok (.isub, 1) := by decide +kernel
theorem dX11_over_68 : decode cX11_over 68 = .ok (.invokestatic 161, 3) := by decide +kernel
theorem dX11_over_71 : decode cX11_over 71 = .ok (.ireturn, 1) := by decide +kernel
theorem dX11_isOver_0 : decode cX11_isOver 0 = .ok (.aload_n 0, 1) := by decide +kernel
theorem dX11_isOver_1 : decode cX11_isOver 1 = .ok (.iconst 0, 1) := by decide +kernel
theorem dX11_isOver_2 : decode cX11_isOver 2 = .ok (.putfield 1, 3) := by decide +kernel
theorem dX11_isOver_5 : decode cX11_isOver 5 = .ok (.aload_n 0, 1) := by decide +kernel
theorem dX11_isOver_6 : decode cX11_isOver 6 = .ok (.iload_n 1, 1) := by decide +kernel
theorem dX11_isOver_7 : decode cX11_isOver 7 = .ok (.invokevirtual 164, 3) := by decide +kernel
theorem dX11_isOver_10 : decode cX11_isOver 10 = .ok (.ifCond .eq 40, 3) := by decide +kernel
theorem dX11_isOver_13 : decode cX11_isOver 13 = .ok (.iload_n 2, 1) := by decide +kernel
theorem dX11_isOver_14 : decode cX11_isOver 14 = .ok (.i2l, 1) := by decide +kernel
theorem dX11_isOver_15 : decode cX11_isOver 15 = .ok (.lconst 0, 1) := by decide +kernel
theorem dX11_isOver_16 : decode cX11_isOver 16 = .ok (.ldc2_w 113, 3) := by decide +kernel
theorem dX11_isOver_19 : decode cX11_isOver 19 = .ok (.invokestatic 96, 3) := by decide +kernel
theorem dX11_isOver_22 : decode cX11_isOver 22 = .ok (.ifCond .eq 28, 3) := by decide +kernel
theorem dX11_isOver_25 : decode cX11_isOver 25 = .ok (.iload_n 3, 1) := by decide +kernel
theorem dX11_isOver_26 : decode cX11_isOver 26 = .ok (.i2l, 1) := by decide +kernel
theorem dX11_isOver_27 : decode cX11_isOver 27 = .ok (.lconst 0, 1) := by decide +kernel
theorem dX11_isOver_28 : decode cX11_isOver 28 = .ok (.ldc2_w 94, 3) := by decide +kernel
theorem dX11_isOver_31 : decode cX11_isOver 31 = .ok (.invokestatic 96, 3) := by decide +kernel
theorem dX11_isOver_34 : decode cX11_isOver 34 = .ok (.ifCond .eq 16, 3) := by decide +kernel
theorem dX11_isOver_37 : decode cX11_isOver 37 = .ok (.iload 4, 2) := by decide +kernel
theorem dX11_isOver_39 : decode cX11_isOver 39 = .ok (.i2l, 1) := by decide +kernel
theorem dX11_isOver_40 : decode cX11_isOver 40 = .ok (.lconst 0, 1) := by decide +kernel
theorem dX11_isOver_41 : decode cX11_isOver 41 = .ok (.ldc2_w 121, 3) := by decide +kernel
theorem dX11_isOver_44 : decode cX11_isOver 44 = .ok (.invokestatic 96, 3) := by decide +kernel
theorem dX11_isOver_47 : decode cX11_isOver 47 = .ok (.ifCond .ne 6, 3) := by decide +kernel
theorem dX11_isOver_50 : decode cX11_isOver 50 = .ok (.ldc 108, 2) := by decide +kernel
theorem dX11_isOver_52 : decode cX11_isOver 52 = .ok (.ireturn, 1) := by decide +kernel
theorem dX11_isOver_53 : decode cX11_isOver 53 = .ok (.iload 4, 2) := by decide +kernel
theorem dX11_isOver_55 : decode cX11_isOver 55 = .ok (.iload_n 3, 1) := by decide +kernel
theorem dX11_isOver_56 : decode cX11_isOver 56 = .ok (.iconst 1, 1) := by decide +kernel
theorem dX11_isOver_57 : decode cX11_isOver 57 = .ok (.iadd, 1) := by decide +kernel
theorem dX11_isOver_58 : decode cX11_isOver 58 = .ok (.invokestatic 161, 3) := by decide +kernel
theorem dX11_isOver_61 : decode cX11_isOver 61 = .ok (.aload_n 0, 1) := by decide +kernel
theorem dX11_isOver_62 : decode cX11_isOver 62 = .ok (.iload_n 1, 1) := by decide +kernel
theorem dX11_isOver_63 : decode cX11_isOver 63 = .ok (.iload_n 2, 1) := by decide +kernel
theorem dX11_isOver_64 : decode cX11_isOver 64 = .ok (.invokevirtual 175, 3) := by decide +kernel
theorem dX11_isOver_67 : decode cX11_isOver 67 = .ok (.if_icmp .ne 7, 3) := by decide +kernel
theorem dX11_isOver_70 : decode cX11_isOver 70 = .ok (.iconst 1, 1) := by decide +kernel
theorem dX11_isOver_71 : decode cX11_isOver 71 = .ok (.goto 4, 3) := by decide +kernel
theorem dX11_isOver_74 : decode cX11_isOver 74 = .ok (.iconst 0, 1) := by decide +kernel
theorem dX11_isOver_75 : decode cX11_isOver 75 = .ok (.ireturn, 1) := by decide +kernel
theorem dX11_isBearer_0 : decode cX11_isBearer 0 = .ok (.iload_n 0, 1) := by decide +kernel
theorem dX11_isBearer_1 : decode cX11_isBearer 1 = .ok (.i2l, 1) := by decide +kernel
theorem dX11_isBearer_2 : decode cX11_isBearer 2 = .ok (.lconst 0, 1) := by decide +kernel
theorem dX11_isBearer_3 : decode cX11_isBearer 3 = .ok (.ldc2_w 136, 3) := by decide +kernel
theorem dX11_isBearer_6 : decode cX11_isBearer 6 = .ok (.invokestatic 96, 3) := by decide +kernel
theorem dX11_isBearer_9 : decode cX11_isBearer 9 = .ok (.ireturn, 1) := by decide +kernel
theorem dX11_power_0 : decode cX11_power 0 = .ok (.iconst 1, 1) := by decide +kernel
theorem dX11_power_1 : decode cX11_power 1 = .ok (.istore_n 2, 1) := by decide +kernel
theorem dX11_power_2 : decode cX11_power 2 = .ok (.iconst 0, 1) := by decide +kernel
theorem dX11_power_3 : decode cX11_power 3 = .ok (.istore_n 3, 1) := by decide +kernel
theorem dX11_power_4 : decode cX11_power 4 = .ok (.iload_n 3, 1) := by decide +kernel
theorem dX11_power_5 : decode cX11_power 5 = .ok (.iload_n 1, 1) := by decide +kernel
theorem dX11_power_6 : decode cX11_power 6 = .ok (.if_icmp .ge 16, 3) := by decide +kernel
theorem dX11_power_9 : decode cX11_power 9 = .ok (.iload_n 2, 1) := by decide +kernel
theorem dX11_power_10 : decode cX11_power 10 = .ok (.iload_n 0, 1) := by decide +kernel
theorem dX11_power_11 : decode cX11_power 11 = .ok (.imul, 1) := by decide +kernel
theorem dX11_power_12 : decode cX11_power 12 = .ok (.bipush 47, 2) := by decide +kernel
theorem dX11_power_14 : decode cX11_power 14 = .ok (.irem, 1) := by decide +kernel
theorem dX11_power_15 : decode cX11_power 15 = .ok (.istore_n 2, 1) := by decide +kernel
theorem dX11_power_16 : decode cX11_power 16 = .ok (.iinc 3 1, 3) := by decide +kernel
theorem dX11_power_19 : decode cX11_power 19 = .ok (.goto (-15), 3) := by decide +kernel
theorem dX11_power_22 : decode cX11_power 22 = .ok (.iload_n 2, 1) := by decide +kernel
theorem dX11_power_23 : decode cX11_power 23 = .ok (.ireturn, 1) := by decide +kernel
theorem dX11_secret_0 : decode cX11_secret 0 = .ok (.aload_n 0, 1) := by decide +kernel
theorem dX11_secret_1 : decode cX11_secret 1 = .ok (.iconst 0, 1) := by decide +kernel
theorem dX11_secret_2 : decode cX11_secret 2 = .ok (.putfield 1, 3) := by decide +kernel
theorem dX11_secret_5 : decode cX11_secret 5 = .ok (.iload_n 1, 1) := by decide +kernel
theorem dX11_secret_6 : decode cX11_secret 6 = .ok (.invokestatic 181, 3) := by decide +kernel
theorem dX11_secret_9 : decode cX11_secret 9 = .ok (.ifCond .eq 15, 3) := by decide +kernel
theorem dX11_secret_12 : decode cX11_secret 12 = .ok (.iload_n 2, 1) := by decide +kernel
theorem dX11_secret_13 : decode cX11_secret 13 = .ok (.i2l, 1) := by decide +kernel
theorem dX11_secret_14 : decode cX11_secret 14 = .ok (.lconst 0, 1) := by decide +kernel
theorem dX11_secret_15 : decode cX11_secret 15 = .ok (.ldc2_w 184, 3) := by decide +kernel
theorem dX11_secret_18 : decode cX11_secret 18 = .ok (.invokestatic 96, 3) := by decide +kernel
theorem dX11_secret_21 : decode cX11_secret 21 = .ok (.ifCond .ne 6, 3) := by decide +kernel
theorem dX11_secret_24 : decode cX11_secret 24 = .ok (.ldc 108, 2) := by decide +kernel
theorem dX11_secret_26 : decode cX11_secret 26 = .ok (.ireturn, 1) := by decide +kernel
theorem dX11_secret_27 : decode cX11_secret 27 = .ok (.aload_n 0, 1) := by decide +kernel
theorem dX11_secret_28 : decode cX11_secret 28 = .ok (.getfield 51, 3) := by decide +kernel
theorem dX11_secret_31 : decode cX11_secret 31 = .ok (.iload_n 1, 1) := by decide +kernel
theorem dX11_secret_32 : decode cX11_secret 32 = .ok (.iload_n 2, 1) := by decide +kernel
theorem dX11_secret_33 : decode cX11_secret 33 = .ok (.ifCond .ne 12, 3) := by decide +kernel
theorem dX11_secret_36 : decode cX11_secret 36 = .ok (.aload_n 0, 1) := by decide +kernel
theorem dX11_secret_37 : decode cX11_secret 37 = .ok (.getfield 51, 3) := by decide +kernel
theorem dX11_secret_40 : decode cX11_secret 40 = .ok (.iload_n 1, 1) := by decide +kernel
theorem dX11_secret_41 : decode cX11_secret 41 = .ok (.iaload, 1) := by decide +kernel
theorem dX11_secret_42 : decode cX11_secret 42 = .ok (.goto 4, 3) := by decide +kernel
theorem dX11_secret_45 : decode cX11_secret 45 = .ok (.iload_n 2, 1) := by decide +kernel
theorem dX11_secret_46 : decode cX11_secret 46 = .ok (.iastore, 1) := by decide +kernel
theorem dX11_secret_47 : decode cX11_secret 47 = .ok (.iconst 4, 1) := by decide +kernel
theorem dX11_secret_48 : decode cX11_secret 48 = .ok (.aload_n 0, 1) := by decide +kernel
theorem dX11_secret_49 : decode cX11_secret 49 = .ok (.getfield 51, 3) := by decide +kernel
theorem dX11_secret_52 : decode cX11_secret 52 = .ok (.iload_n 1, 1) := by decide +kernel
theorem dX11_secret_53 : decode cX11_secret 53 = .ok (.iaload, 1) := by decide +kernel
theorem dX11_secret_54 : decode cX11_secret 54 = .ok (.invokestatic 186, 3) := by decide +kernel
theorem dX11_secret_57 : decode cX11_secret 57 = .ok (.ireturn, 1) := by decide +kernel
theorem dX11_answer_0 : decode cX11_answer 0 = .ok (.aload_n 0, 1) := by decide +kernel
theorem dX11_answer_1 : decode cX11_answer 1 = .ok (.iconst 0, 1) := by decide +kernel
theorem dX11_answer_2 : decode cX11_answer 2 = .ok (.putfield 1, 3) := by decide +kernel
theorem dX11_answer_5 : decode cX11_answer 5 = .ok (.iload_n 1, 1) := by decide +kernel
theorem dX11_answer_6 : decode cX11_answer 6 = .ok (.invokestatic 181, 3) := by decide +kernel
theorem dX11_answer_9 : decode cX11_answer 9 = .ok (.ifCond .eq 38, 3) := by decide +kernel
theorem dX11_answer_12 : decode cX11_answer 12 = .ok (.iload_n 2, 1) := by decide +kernel
theorem dX11_answer_13 : decode cX11_answer 13 = .ok (.i2l, 1) := by decide +kernel
theorem dX11_answer_14 : decode cX11_answer 14 = .ok (.lconst 0, 1) := by decide +kernel
theorem dX11_answer_15 : decode cX11_answer 15 = .ok (.ldc2_w 184, 3) := by decide +kernel
theorem dX11_answer_18 : decode cX11_answer 18 = .ok (.invokestatic 96, 3) := by decide +kernel
theorem dX11_answer_21 : decode cX11_answer 21 = .ok (.ifCond .eq 26, 3) := by decide +kernel
theorem dX11_answer_24 : decode cX11_answer 24 = .ok (.iload_n 3, 1) := by decide +kernel
theorem dX11_answer_25 : decode cX11_answer 25 = .ok (.i2l, 1) := by decide +kernel
theorem dX11_answer_26 : decode cX11_answer 26 = .ok (.lconst 0, 1) := by decide +kernel
theorem dX11_answer_27 : decode cX11_answer 27 = .ok (.ldc2_w 184, 3) := by decide +kernel
theorem dX11_answer_30 : decode cX11_answer 30 = .ok (.invokestatic 96, 3) := by decide +kernel
theorem dX11_answer_33 : decode cX11_answer 33 = .ok (.ifCond .eq 14, 3) := by decide +kernel
theorem dX11_answer_36 : decode cX11_answer 36 = .ok (.iload 4, 2) := by decide +kernel
theorem dX11_answer_38 : decode cX11_answer 38 = .ok (.i2l, 1) := by decide +kernel
theorem dX11_answer_39 : decode cX11_answer 39 = .ok (.lconst 0, 1) := by decide +kernel
theorem dX11_answer_40 : decode cX11_answer 40 = .ok (.lconst 1, 1) := by decide +kernel
theorem dX11_answer_41 : decode cX11_answer 41 = .ok (.invokestatic 96, 3) := by decide +kernel
theorem dX11_answer_44 : decode cX11_answer 44 = .ok (.ifCond .ne 6, 3) := by decide +kernel
theorem dX11_answer_47 : decode cX11_answer 47 = .ok (.ldc 108, 2) := by decide +kernel
theorem dX11_answer_49 : decode cX11_answer 49 = .ok (.ireturn, 1) := by decide +kernel
theorem dX11_answer_50 : decode cX11_answer 50 = .ok (.iload 4, 2) := by decide +kernel
theorem dX11_answer_52 : decode cX11_answer 52 = .ok (.ifCond .ne 11, 3) := by decide +kernel
theorem dX11_answer_55 : decode cX11_answer 55 = .ok (.iconst 4, 1) := by decide +kernel
theorem dX11_answer_56 : decode cX11_answer 56 = .ok (.iload_n 2, 1) := by decide +kernel
theorem dX11_answer_57 : decode cX11_answer 57 = .ok (.invokestatic 186, 3) := by decide +kernel
theorem dX11_answer_60 : decode cX11_answer 60 = .ok (.goto 16, 3) := by decide +kernel
theorem dX11_answer_63 : decode cX11_answer 63 = .ok (.iload_n 2, 1) := by decide +kernel
theorem dX11_answer_64 : decode cX11_answer 64 = .ok (.iload_n 3, 1) := by decide +kernel
theorem dX11_answer_65 : decode cX11_answer 65 = .ok (.aload_n 0, 1) := by decide +kernel
theorem dX11_answer_66 : decode cX11_answer 66 = .ok (.getfield 51, 3) := by decide +kernel
theorem dX11_answer_69 : decode cX11_answer 69 = .ok (.iload_n 1, 1) := by decide +kernel
theorem dX11_answer_70 : decode cX11_answer 70 = .ok (.iaload, 1) := by decide +kernel
theorem dX11_answer_71 : decode cX11_answer 71 = .ok (.imul, 1) := by decide +kernel
theorem dX11_answer_72 : decode cX11_answer 72 = .ok (.iadd, 1) := by decide +kernel
theorem dX11_answer_73 : decode cX11_answer 73 = .ok (.bipush 23, 2) := by decide +kernel
theorem dX11_answer_75 : decode cX11_answer 75 = .ok (.irem, 1) := by decide +kernel
theorem dX11_answer_76 : decode cX11_answer 76 = .ok (.ireturn, 1) := by decide +kernel
theorem dX11_isTaken_0 : decode cX11_isTaken 0 = .ok (.iconst 4, 1) := by decide +kernel
theorem dX11_isTaken_1 : decode cX11_isTaken 1 = .ok (.iload 4, 2) := by decide +kernel
theorem dX11_isTaken_3 : decode cX11_isTaken 3 = .ok (.invokestatic 186, 3) := by decide +kernel
theorem dX11_isTaken_6 : decode cX11_isTaken 6 = .ok (.iload_n 2, 1) := by decide +kernel
theorem dX11_isTaken_7 : decode cX11_isTaken 7 = .ok (.iconst 4, 1) := by decide +kernel
theorem dX11_isTaken_8 : decode cX11_isTaken 8 = .ok (.aload_n 0, 1) := by decide +kernel
theorem dX11_isTaken_9 : decode cX11_isTaken 9 = .ok (.getfield 51, 3) := by decide +kernel
theorem dX11_isTaken_12 : decode cX11_isTaken 12 = .ok (.iload_n 1, 1) := by decide +kernel
theorem dX11_isTaken_13 : decode cX11_isTaken 13 = .ok (.iaload, 1) := by decide +kernel
theorem dX11_isTaken_14 : decode cX11_isTaken 14 = .ok (.invokestatic 186, 3) := by decide +kernel
theorem dX11_isTaken_17 : decode cX11_isTaken 17 = .ok (.iload_n 3, 1) := by decide +kernel
theorem dX11_isTaken_18 : decode cX11_isTaken 18 = .ok (.invokestatic 186, 3) := by decide +kernel
theorem dX11_isTaken_21 : decode cX11_isTaken 21 = .ok (.imul, 1) := by decide +kernel
theorem dX11_isTaken_22 : decode cX11_isTaken 22 = .ok (.bipush 47, 2) := by decide +kernel
theorem dX11_isTaken_24 : decode cX11_isTaken 24 = .ok (.irem, 1) := by decide +kernel
theorem dX11_isTaken_25 : decode cX11_isTaken 25 = .ok (.if_icmp .ne 7, 3) := by decide +kernel
theorem dX11_isTaken_28 : decode cX11_isTaken 28 = .ok (.iconst 1, 1) := by decide +kernel
theorem dX11_isTaken_29 : decode cX11_isTaken 29 = .ok (.goto 4, 3) := by decide +kernel
theorem dX11_isTaken_32 : decode cX11_isTaken 32 = .ok (.iconst 0, 1) := by decide +kernel
theorem dX11_isTaken_33 : decode cX11_isTaken 33 = .ok (.ireturn, 1) := by decide +kernel
theorem dX11_taken_0 : decode cX11_taken 0 = .ok (.aload_n 0, 1) := by decide +kernel
theorem dX11_taken_1 : decode cX11_taken 1 = .ok (.iconst 0, 1) := by decide +kernel
theorem dX11_taken_2 : decode cX11_taken 2 = .ok (.putfield 1, 3) := by decide +kernel
theorem dX11_taken_5 : decode cX11_taken 5 = .ok (.iload_n 1, 1) := by decide +kernel
theorem dX11_taken_6 : decode cX11_taken 6 = .ok (.invokestatic 181, 3) := by decide +kernel
theorem dX11_taken_9 : decode cX11_taken 9 = .ok (.ifCond .eq 40, 3) := by decide +kernel
theorem dX11_taken_12 : decode cX11_taken 12 = .ok (.iload_n 2, 1) := by decide +kernel
theorem dX11_taken_13 : decode cX11_taken 13 = .ok (.i2l, 1) := by decide +kernel
theorem dX11_taken_14 : decode cX11_taken 14 = .ok (.lconst 0, 1) := by decide +kernel
theorem dX11_taken_15 : decode cX11_taken 15 = .ok (.ldc2_w 189, 3) := by decide +kernel
theorem dX11_taken_18 : decode cX11_taken 18 = .ok (.invokestatic 96, 3) := by decide +kernel
theorem dX11_taken_21 : decode cX11_taken 21 = .ok (.ifCond .eq 28, 3) := by decide +kernel
theorem dX11_taken_24 : decode cX11_taken 24 = .ok (.iload_n 3, 1) := by decide +kernel
theorem dX11_taken_25 : decode cX11_taken 25 = .ok (.i2l, 1) := by decide +kernel
theorem dX11_taken_26 : decode cX11_taken 26 = .ok (.lconst 0, 1) := by decide +kernel
theorem dX11_taken_27 : decode cX11_taken 27 = .ok (.ldc2_w 184, 3) := by decide +kernel
theorem dX11_taken_30 : decode cX11_taken 30 = .ok (.invokestatic 96, 3) := by decide +kernel
theorem dX11_taken_33 : decode cX11_taken 33 = .ok (.ifCond .eq 16, 3) := by decide +kernel
theorem dX11_taken_36 : decode cX11_taken 36 = .ok (.iload 4, 2) := by decide +kernel
theorem dX11_taken_38 : decode cX11_taken 38 = .ok (.i2l, 1) := by decide +kernel
theorem dX11_taken_39 : decode cX11_taken 39 = .ok (.lconst 0, 1) := by decide +kernel
theorem dX11_taken_40 : decode cX11_taken 40 = .ok (.ldc2_w 184, 3) := by decide +kernel
theorem dX11_taken_43 : decode cX11_taken 43 = .ok (.invokestatic 96, 3) := by decide +kernel
theorem dX11_taken_46 : decode cX11_taken 46 = .ok (.ifCond .ne 6, 3) := by decide +kernel
theorem dX11_taken_49 : decode cX11_taken 49 = .ok (.ldc 108, 2) := by decide +kernel
theorem dX11_taken_51 : decode cX11_taken 51 = .ok (.ireturn, 1) := by decide +kernel
theorem dX11_taken_52 : decode cX11_taken 52 = .ok (.aload_n 0, 1) := by decide +kernel
theorem dX11_taken_53 : decode cX11_taken 53 = .ok (.iload_n 1, 1) := by decide +kernel
theorem dX11_taken_54 : decode cX11_taken 54 = .ok (.iload_n 2, 1) := by decide +kernel
theorem dX11_taken_55 : decode cX11_taken 55 = .ok (.iload_n 3, 1) := by decide +kernel
theorem dX11_taken_56 : decode cX11_taken 56 = .ok (.iload 4, 2) := by decide +kernel
theorem dX11_taken_58 : decode cX11_taken 58 = .ok (.invokevirtual 191, 3) := by decide +kernel
theorem dX11_taken_61 : decode cX11_taken 61 = .ok (.ifCond .eq 7, 3) := by decide +kernel
theorem dX11_taken_64 : decode cX11_taken 64 = .ok (.iconst 1, 1) := by decide +kernel
theorem dX11_taken_65 : decode cX11_taken 65 = .ok (.goto 4, 3) := by decide +kernel
theorem dX11_taken_68 : decode cX11_taken 68 = .ok (.iconst 0, 1) := by decide +kernel
theorem dX11_taken_69 : decode cX11_taken 69 = .ok (.ireturn, 1) := by decide +kernel
theorem dX11_odds_0 : decode cX11_odds 0 = .ok (.aload_n 0, 1) := by decide +kernel
theorem dX11_odds_1 : decode cX11_odds 1 = .ok (.iconst 0, 1) := by decide +kernel
theorem dX11_odds_2 : decode cX11_odds 2 = .ok (.putfield 1, 3) := by decide +kernel
theorem dX11_odds_5 : decode cX11_odds 5 = .ok (.iload_n 1, 1) := by decide +kernel
theorem dX11_odds_6 : decode cX11_odds 6 = .ok (.invokestatic 181, 3) := by decide +kernel
theorem dX11_odds_9 : decode cX11_odds 9 = .ok (.ifCond .eq 27, 3) := by decide +kernel
theorem dX11_odds_12 : decode cX11_odds 12 = .ok (.iload_n 2, 1) := by decide +kernel
theorem dX11_odds_13 : decode cX11_odds 13 = .ok (.i2l, 1) := by decide +kernel
theorem dX11_odds_14 : decode cX11_odds 14 = .ok (.lconst 0, 1) := by decide +kernel
theorem dX11_odds_15 : decode cX11_odds 15 = .ok (.ldc2_w 189, 3) := by decide +kernel
theorem dX11_odds_18 : decode cX11_odds 18 = .ok (.invokestatic 96, 3) := by decide +kernel
theorem dX11_odds_21 : decode cX11_odds 21 = .ok (.ifCond .eq 15, 3) := by decide +kernel
theorem dX11_odds_24 : decode cX11_odds 24 = .ok (.iload_n 3, 1) := by decide +kernel
theorem dX11_odds_25 : decode cX11_odds 25 = .ok (.i2l, 1) := by decide +kernel
theorem dX11_odds_26 : decode cX11_odds 26 = .ok (.lconst 0, 1) := by decide +kernel
theorem dX11_odds_27 : decode cX11_odds 27 = .ok (.ldc2_w 184, 3) := by decide +kernel
theorem dX11_odds_30 : decode cX11_odds 30 = .ok (.invokestatic 96, 3) := by decide +kernel
theorem dX11_odds_33 : decode cX11_odds 33 = .ok (.ifCond .ne 6, 3) := by decide +kernel
theorem dX11_odds_36 : decode cX11_odds 36 = .ok (.ldc 108, 2) := by decide +kernel
theorem dX11_odds_38 : decode cX11_odds 38 = .ok (.ireturn, 1) := by decide +kernel
theorem dX11_odds_39 : decode cX11_odds 39 = .ok (.iconst 0, 1) := by decide +kernel
theorem dX11_odds_40 : decode cX11_odds 40 = .ok (.istore 4, 2) := by decide +kernel
theorem dX11_odds_42 : decode cX11_odds 42 = .ok (.iconst 0, 1) := by decide +kernel
theorem dX11_odds_43 : decode cX11_odds 43 = .ok (.istore 5, 2) := by decide +kernel
theorem dX11_odds_45 : decode cX11_odds 45 = .ok (.iload 5, 2) := by decide +kernel
theorem dX11_odds_47 : decode cX11_odds 47 = .ok (.bipush 23, 2) := by decide +kernel
theorem dX11_odds_49 : decode cX11_odds 49 = .ok (.if_icmp .ge 31, 3) := by decide +kernel
theorem dX11_odds_52 : decode cX11_odds 52 = .ok (.iload 4, 2) := by decide +kernel
theorem dX11_odds_54 : decode cX11_odds 54 = .ok (.aload_n 0, 1) := by decide +kernel
theorem dX11_odds_55 : decode cX11_odds 55 = .ok (.iload_n 1, 1) := by decide +kernel
theorem dX11_odds_56 : decode cX11_odds 56 = .ok (.iload_n 2, 1) := by decide +kernel
theorem dX11_odds_57 : decode cX11_odds 57 = .ok (.iload 5, 2) := by decide +kernel
theorem dX11_odds_59 : decode cX11_odds 59 = .ok (.iload_n 3, 1) := by decide +kernel
theorem dX11_odds_60 : decode cX11_odds 60 = .ok (.invokevirtual 191, 3) := by decide +kernel
theorem dX11_odds_63 : decode cX11_odds 63 = .ok (.ifCond .eq 7, 3) := by decide +kernel
theorem dX11_odds_66 : decode cX11_odds 66 = .ok (.iconst 1, 1) := by decide +kernel
theorem dX11_odds_67 : decode cX11_odds 67 = .ok (.goto 4, 3) := by decide +kernel
theorem dX11_odds_70 : decode cX11_odds 70 = .ok (.iconst 0, 1) := by decide +kernel
theorem dX11_odds_71 : decode cX11_odds 71 = .ok (.iadd, 1) := by decide +kernel
theorem dX11_odds_72 : decode cX11_odds 72 = .ok (.istore 4, 2) := by decide +kernel
theorem dX11_odds_74 : decode cX11_odds 74 = .ok (.iinc 5 1, 3) := by decide +kernel
theorem dX11_odds_77 : decode cX11_odds 77 = .ok (.goto (-32), 3) := by decide +kernel
theorem dX11_odds_80 : decode cX11_odds 80 = .ok (.iload 4, 2) := by decide +kernel
theorem dX11_odds_82 : decode cX11_odds 82 = .ok (.ireturn, 1) := by decide +kernel
theorem dX11_partOf_0 : decode cX11_partOf 0 = .ok (.iload_n 0, 1) := by decide +kernel
theorem dX11_partOf_1 : decode cX11_partOf 1 = .ok (.istore_n 3, 1) := by decide +kernel
theorem dX11_partOf_2 : decode cX11_partOf 2 = .ok (.iconst 1, 1) := by decide +kernel
theorem dX11_partOf_3 : decode cX11_partOf 3 = .ok (.istore 4, 2) := by decide +kernel
theorem dX11_partOf_5 : decode cX11_partOf 5 = .ok (.iconst 1, 1) := by decide +kernel
theorem dX11_partOf_6 : decode cX11_partOf 6 = .ok (.istore 5, 2) := by decide +kernel
theorem dX11_partOf_8 : decode cX11_partOf 8 = .ok (.iload 5, 2) := by decide +kernel
theorem dX11_partOf_10 : decode cX11_partOf 10 = .ok (.iload_n 1, 1) := by decide +kernel
theorem dX11_partOf_11 : decode cX11_partOf 11 = .ok (.if_icmp .ge 47, 3) := by decide +kernel
theorem dX11_partOf_14 : decode cX11_partOf 14 = .ok (.iload 4, 2) := by decide +kernel
theorem dX11_partOf_16 : decode cX11_partOf 16 = .ok (.iload_n 2, 1) := by decide +kernel
theorem dX11_partOf_17 : decode cX11_partOf 17 = .ok (.imul, 1) := by decide +kernel
theorem dX11_partOf_18 : decode cX11_partOf 18 = .ok (.sipush 257, 3) := by decide +kernel
theorem dX11_partOf_21 : decode cX11_partOf 21 = .ok (.irem, 1) := by decide +kernel
theorem dX11_partOf_22 : decode cX11_partOf 22 = .ok (.istore 4, 2) := by decide +kernel
theorem dX11_partOf_24 : decode cX11_partOf 24 = .ok (.iload_n 3, 1) := by decide +kernel
theorem dX11_partOf_25 : decode cX11_partOf 25 = .ok (.iload_n 0, 1) := by decide +kernel
theorem dX11_partOf_26 : decode cX11_partOf 26 = .ok (.iload 5, 2) := by decide +kernel
theorem dX11_partOf_28 : decode cX11_partOf 28 = .ok (.iconst 3, 1) := by decide +kernel
theorem dX11_partOf_29 : decode cX11_partOf 29 = .ok (.iadd, 1) := by decide +kernel
theorem dX11_partOf_30 : decode cX11_partOf 30 = .ok (.imul, 1) := by decide +kernel
theorem dX11_partOf_31 : decode cX11_partOf 31 = .ok (.bipush 11, 2) := by decide +kernel
theorem dX11_partOf_33 : decode cX11_partOf 33 = .ok (.iload 5, 2) := by decide +kernel
theorem dX11_partOf_35 : decode cX11_partOf 35 = .ok (.imul, 1) := by decide +kernel
theorem dX11_partOf_36 : decode cX11_partOf 36 = .ok (.iadd, 1) := by decide +kernel
theorem dX11_partOf_37 : decode cX11_partOf 37 = .ok (.iconst 5, 1) := by decide +kernel
theorem dX11_partOf_38 : decode cX11_partOf 38 = .ok (.iadd, 1) := by decide +kernel
theorem dX11_partOf_39 : decode cX11_partOf 39 = .ok (.sipush 257, 3) := by decide +kernel
theorem dX11_partOf_42 : decode cX11_partOf 42 = .ok (.irem, 1) := by decide +kernel
theorem dX11_partOf_43 : decode cX11_partOf 43 = .ok (.iload 4, 2) := by decide +kernel
theorem dX11_partOf_45 : decode cX11_partOf 45 = .ok (.imul, 1) := by decide +kernel
theorem dX11_partOf_46 : decode cX11_partOf 46 = .ok (.iadd, 1) := by decide +kernel
theorem dX11_partOf_47 : decode cX11_partOf 47 = .ok (.sipush 257, 3) := by decide +kernel
theorem dX11_partOf_50 : decode cX11_partOf 50 = .ok (.irem, 1) := by decide +kernel
theorem dX11_partOf_51 : decode cX11_partOf 51 = .ok (.istore_n 3, 1) := by decide +kernel
theorem dX11_partOf_52 : decode cX11_partOf 52 = .ok (.iinc 5 1, 3) := by decide +kernel
theorem dX11_partOf_55 : decode cX11_partOf 55 = .ok (.goto (-47), 3) := by decide +kernel
theorem dX11_partOf_58 : decode cX11_partOf 58 = .ok (.iload_n 3, 1) := by decide +kernel
theorem dX11_partOf_59 : decode cX11_partOf 59 = .ok (.ireturn, 1) := by decide +kernel
theorem dX11_part_0 : decode cX11_part 0 = .ok (.aload_n 0, 1) := by decide +kernel
theorem dX11_part_1 : decode cX11_part 1 = .ok (.iconst 0, 1) := by decide +kernel
theorem dX11_part_2 : decode cX11_part 2 = .ok (.putfield 1, 3) := by decide +kernel
theorem dX11_part_5 : decode cX11_part 5 = .ok (.iload_n 1, 1) := by decide +kernel
theorem dX11_part_6 : decode cX11_part 6 = .ok (.i2l, 1) := by decide +kernel
theorem dX11_part_7 : decode cX11_part 7 = .ok (.lconst 0, 1) := by decide +kernel
theorem dX11_part_8 : decode cX11_part 8 = .ok (.ldc2_w 195, 3) := by decide +kernel
theorem dX11_part_11 : decode cX11_part 11 = .ok (.invokestatic 96, 3) := by decide +kernel
theorem dX11_part_14 : decode cX11_part 14 = .ok (.ifCond .eq 27, 3) := by decide +kernel
theorem dX11_part_17 : decode cX11_part 17 = .ok (.iload_n 2, 1) := by decide +kernel
theorem dX11_part_18 : decode cX11_part 18 = .ok (.i2l, 1) := by decide +kernel
theorem dX11_part_19 : decode cX11_part 19 = .ok (.lconst 1, 1) := by decide +kernel
theorem dX11_part_20 : decode cX11_part 20 = .ok (.ldc2_w 138, 3) := by decide +kernel
theorem dX11_part_23 : decode cX11_part 23 = .ok (.invokestatic 96, 3) := by decide +kernel
theorem dX11_part_26 : decode cX11_part 26 = .ok (.ifCond .eq 15, 3) := by decide +kernel
theorem dX11_part_29 : decode cX11_part 29 = .ok (.iload_n 3, 1) := by decide +kernel
theorem dX11_part_30 : decode cX11_part 30 = .ok (.i2l, 1) := by decide +kernel
theorem dX11_part_31 : decode cX11_part 31 = .ok (.lconst 1, 1) := by decide +kernel
theorem dX11_part_32 : decode cX11_part 32 = .ok (.ldc2_w 197, 3) := by decide +kernel
theorem dX11_part_35 : decode cX11_part 35 = .ok (.invokestatic 96, 3) := by decide +kernel
theorem dX11_part_38 : decode cX11_part 38 = .ok (.ifCond .ne 8, 3) := by decide +kernel
theorem dX11_part_41 : decode cX11_part 41 = .ok (.ldc 108, 2) := by decide +kernel
theorem dX11_part_43 : decode cX11_part 43 = .ok (.goto 9, 3) := by decide +kernel
theorem dX11_part_46 : decode cX11_part 46 = .ok (.iload_n 1, 1) := by decide +kernel
theorem dX11_part_47 : decode cX11_part 47 = .ok (.iload_n 2, 1) := by decide +kernel
theorem dX11_part_48 : decode cX11_part 48 = .ok (.iload_n 3, 1) := by decide +kernel
theorem dX11_part_49 : decode cX11_part 49 = .ok (.invokestatic 199, 3) := by decide +kernel
theorem dX11_part_52 : decode cX11_part 52 = .ok (.ireturn, 1) := by decide +kernel
theorem dX11_turned_0 : decode cX11_turned 0 = .ok (.iconst 1, 1) := by decide +kernel
theorem dX11_turned_1 : decode cX11_turned 1 = .ok (.istore_n 1, 1) := by decide +kernel
theorem dX11_turned_2 : decode cX11_turned 2 = .ok (.iload_n 1, 1) := by decide +kernel
theorem dX11_turned_3 : decode cX11_turned 3 = .ok (.iload_n 0, 1) := by decide +kernel
theorem dX11_turned_4 : decode cX11_turned 4 = .ok (.imul, 1) := by decide +kernel
theorem dX11_turned_5 : decode cX11_turned 5 = .ok (.sipush 257, 3) := by decide +kernel
theorem dX11_turned_8 : decode cX11_turned 8 = .ok (.irem, 1) := by decide +kernel
theorem dX11_turned_9 : decode cX11_turned 9 = .ok (.iconst 1, 1) := by decide +kernel
theorem dX11_turned_10 : decode cX11_turned 10 = .ok (.if_icmp .eq 9, 3) := by decide +kernel
theorem dX11_turned_13 : decode cX11_turned 13 = .ok (.iinc 1 1, 3) := by decide +kernel
theorem dX11_turned_16 : decode cX11_turned 16 = .ok (.goto (-14), 3) := by decide +kernel
theorem dX11_turned_19 : decode cX11_turned 19 = .ok (.iload_n 1, 1) := by decide +kernel
theorem dX11_turned_20 : decode cX11_turned 20 = .ok (.ireturn, 1) := by decide +kernel
theorem dX11_valueAt_0 : decode cX11_valueAt 0 = .ok (.iconst 0, 1) := by decide +kernel
theorem dX11_valueAt_1 : decode cX11_valueAt 1 = .ok (.istore 4, 2) := by decide +kernel
theorem dX11_valueAt_3 : decode cX11_valueAt 3 = .ok (.iconst 0, 1) := by decide +kernel
theorem dX11_valueAt_4 : decode cX11_valueAt 4 = .ok (.istore 5, 2) := by decide +kernel
theorem dX11_valueAt_6 : decode cX11_valueAt 6 = .ok (.iload 5, 2) := by decide +kernel
theorem dX11_valueAt_8 : decode cX11_valueAt 8 = .ok (.iload_n 2, 1) := by decide +kernel
theorem dX11_valueAt_9 : decode cX11_valueAt 9 = .ok (.if_icmp .ge 130, 3) := by decide +kernel
theorem dX11_valueAt_12 : decode cX11_valueAt 12 = .ok (.aload_n 0, 1) := by decide +kernel
theorem dX11_valueAt_13 : decode cX11_valueAt 13 = .ok (.getfield 24, 3) := by decide +kernel
theorem dX11_valueAt_16 : decode cX11_valueAt 16 = .ok (.iload_n 1, 1) := by decide +kernel
theorem dX11_valueAt_17 : decode cX11_valueAt 17 = .ok (.iconst 2, 1) := by decide +kernel
theorem dX11_valueAt_18 : decode cX11_valueAt 18 = .ok (.iload 5, 2) := by decide +kernel
theorem dX11_valueAt_20 : decode cX11_valueAt 20 = .ok (.imul, 1) := by decide +kernel
theorem dX11_valueAt_21 : decode cX11_valueAt 21 = .ok (.iadd, 1) := by decide +kernel
theorem dX11_valueAt_22 : decode cX11_valueAt 22 = .ok (.iconst 1, 1) := by decide +kernel
theorem dX11_valueAt_23 : decode cX11_valueAt 23 = .ok (.iadd, 1) := by decide +kernel
theorem dX11_valueAt_24 : decode cX11_valueAt 24 = .ok (.iaload, 1) := by decide +kernel
theorem dX11_valueAt_25 : decode cX11_valueAt 25 = .ok (.istore 6, 2) := by decide +kernel
theorem dX11_valueAt_27 : decode cX11_valueAt 27 = .ok (.iconst 0, 1) := by decide +kernel
theorem dX11_valueAt_28 : decode cX11_valueAt 28 = .ok (.istore 7, 2) := by decide +kernel
theorem dX11_valueAt_30 : decode cX11_valueAt 30 = .ok (.iload 7, 2) := by decide +kernel
theorem dX11_valueAt_32 : decode cX11_valueAt 32 = .ok (.iload_n 2, 1) := by decide +kernel
theorem dX11_valueAt_33 : decode cX11_valueAt 33 = .ok (.if_icmp .ge 89, 3) := by decide +kernel
theorem dX11_valueAt_36 : decode cX11_valueAt 36 = .ok (.iload 7, 2) := by decide +kernel
theorem dX11_valueAt_38 : decode cX11_valueAt 38 = .ok (.iload 5, 2) := by decide +kernel
theorem dX11_valueAt_40 : decode cX11_valueAt 40 = .ok (.if_icmp .eq 76, 3) := by decide +kernel
theorem dX11_valueAt_43 : decode cX11_valueAt 43 = .ok (.aload_n 0, 1) := by decide +kernel
theorem dX11_valueAt_44 : decode cX11_valueAt 44 = .ok (.getfield 24, 3) := by decide +kernel
theorem dX11_valueAt_47 : decode cX11_valueAt 47 = .ok (.iload_n 1, 1) := by decide +kernel
theorem dX11_valueAt_48 : decode cX11_valueAt 48 = .ok (.iconst 2, 1) := by decide +kernel
theorem dX11_valueAt_49 : decode cX11_valueAt 49 = .ok (.iload 5, 2) := by decide +kernel
theorem dX11_valueAt_51 : decode cX11_valueAt 51 = .ok (.imul, 1) := by decide +kernel
theorem dX11_valueAt_52 : decode cX11_valueAt 52 = .ok (.iadd, 1) := by decide +kernel
theorem dX11_valueAt_53 : decode cX11_valueAt 53 = .ok (.iaload, 1) := by decide +kernel
theorem dX11_valueAt_54 : decode cX11_valueAt 54 = .ok (.aload_n 0, 1) := by decide +kernel
theorem dX11_valueAt_55 : decode cX11_valueAt 55 = .ok (.getfield 24, 3) := by decide +kernel
theorem dX11_valueAt_58 : decode cX11_valueAt 58 = .ok (.iload_n 1, 1) := by decide +kernel
theorem dX11_valueAt_59 : decode cX11_valueAt 59 = .ok (.iconst 2, 1) := by decide +kernel
theorem dX11_valueAt_60 : decode cX11_valueAt 60 = .ok (.iload 7, 2) := by decide +kernel
theorem dX11_valueAt_62 : decode cX11_valueAt 62 = .ok (.imul, 1) := by decide +kernel
theorem dX11_valueAt_63 : decode cX11_valueAt 63 = .ok (.iadd, 1) := by decide +kernel
theorem dX11_valueAt_64 : decode cX11_valueAt 64 = .ok (.iaload, 1) := by decide +kernel
theorem dX11_valueAt_65 : decode cX11_valueAt 65 = .ok (.isub, 1) := by decide +kernel
theorem dX11_valueAt_66 : decode cX11_valueAt 66 = .ok (.sipush 257, 3) := by decide +kernel
theorem dX11_valueAt_69 : decode cX11_valueAt 69 = .ok (.iadd, 1) := by decide +kernel
theorem dX11_valueAt_70 : decode cX11_valueAt 70 = .ok (.sipush 257, 3) := by decide +kernel
theorem dX11_valueAt_73 : decode cX11_valueAt 73 = .ok (.irem, 1) := by decide +kernel
theorem dX11_valueAt_74 : decode cX11_valueAt 74 = .ok (.istore 8, 2) := by decide +kernel
theorem dX11_valueAt_76 : decode cX11_valueAt 76 = .ok (.iload 6, 2) := by decide +kernel
theorem dX11_valueAt_78 : decode cX11_valueAt 78 = .ok (.iload_n 3, 1) := by decide +kernel
theorem dX11_valueAt_79 : decode cX11_valueAt 79 = .ok (.aload_n 0, 1) := by decide +kernel
theorem dX11_valueAt_80 : decode cX11_valueAt 80 = .ok (.getfield 24, 3) := by decide +kernel
theorem dX11_valueAt_83 : decode cX11_valueAt 83 = .ok (.iload_n 1, 1) := by decide +kernel
theorem dX11_valueAt_84 : decode cX11_valueAt 84 = .ok (.iconst 2, 1) := by decide +kernel
theorem dX11_valueAt_85 : decode cX11_valueAt 85 = .ok (.iload 7, 2) := by decide +kernel
theorem dX11_valueAt_87 : decode cX11_valueAt 87 = .ok (.imul, 1) := by decide +kernel
theorem dX11_valueAt_88 : decode cX11_valueAt 88 = .ok (.iadd, 1) := by decide +kernel
theorem dX11_valueAt_89 : decode cX11_valueAt 89 = .ok (.iaload, 1) := by decide +kernel
theorem dX11_valueAt_90 : decode cX11_valueAt 90 = .ok (.isub, 1) := by decide +kernel
theorem dX11_valueAt_91 : decode cX11_valueAt 91 = .ok (.sipush 257, 3) := by decide +kernel
theorem dX11_valueAt_94 : decode cX11_valueAt 94 = .ok (.iadd, 1) := by decide +kernel
theorem dX11_valueAt_95 : decode cX11_valueAt 95 = .ok (.sipush 257, 3) := by decide +kernel
theorem dX11_valueAt_98 : decode cX11_valueAt 98 = .ok (.irem, 1) := by decide +kernel
theorem dX11_valueAt_99 : decode cX11_valueAt 99 = .ok (.imul, 1) := by decide +kernel
theorem dX11_valueAt_100 : decode cX11_valueAt 100 = .ok (.sipush 257, 3) := by decide +kernel
theorem dX11_valueAt_103 : decode cX11_valueAt 103 = .ok (.irem, 1) := by decide +kernel
theorem dX11_valueAt_104 : decode cX11_valueAt 104 = .ok (.iload 8, 2) := by decide +kernel
theorem dX11_valueAt_106 : decode cX11_valueAt 106 = .ok (.invokestatic 202, 3) := by decide +kernel
theorem dX11_valueAt_109 : decode cX11_valueAt 109 = .ok (.imul, 1) := by decide +kernel
theorem dX11_valueAt_110 : decode cX11_valueAt 110 = .ok (.sipush 257, 3) := by decide +kernel
theorem dX11_valueAt_113 : decode cX11_valueAt 113 = .ok (.irem, 1) := by decide +kernel
theorem dX11_valueAt_114 : decode cX11_valueAt 114 = .ok (.istore 6, 2) := by decide +kernel
theorem dX11_valueAt_116 : decode cX11_valueAt 116 = .ok (.iinc 7 1, 3) := by decide +kernel
theorem dX11_valueAt_119 : decode cX11_valueAt 119 = .ok (.goto (-89), 3) := by decide +kernel
theorem dX11_valueAt_122 : decode cX11_valueAt 122 = .ok (.iload 4, 2) := by decide +kernel
theorem dX11_valueAt_124 : decode cX11_valueAt 124 = .ok (.iload 6, 2) := by decide +kernel
theorem dX11_valueAt_126 : decode cX11_valueAt 126 = .ok (.iadd, 1) := by decide +kernel
theorem dX11_valueAt_127 : decode cX11_valueAt 127 = .ok (.sipush 257, 3) := by decide +kernel
theorem dX11_valueAt_130 : decode cX11_valueAt 130 = .ok (.irem, 1) := by decide +kernel
theorem dX11_valueAt_131 : decode cX11_valueAt 131 = .ok (.istore 4, 2) := by decide +kernel
theorem dX11_valueAt_133 : decode cX11_valueAt 133 = .ok (.iinc 5 1, 3) := by decide +kernel
theorem dX11_valueAt_136 : decode cX11_valueAt 136 = .ok (.goto (-130), 3) := by decide +kernel
theorem dX11_valueAt_139 : decode cX11_valueAt 139 = .ok (.iload 4, 2) := by decide +kernel
theorem dX11_valueAt_141 : decode cX11_valueAt 141 = .ok (.ireturn, 1) := by decide +kernel
theorem dX11_friends_0 : decode cX11_friends 0 = .ok (.aload_n 0, 1) := by decide +kernel
theorem dX11_friends_1 : decode cX11_friends 1 = .ok (.iconst 0, 1) := by decide +kernel
theorem dX11_friends_2 : decode cX11_friends 2 = .ok (.putfield 1, 3) := by decide +kernel
theorem dX11_friends_5 : decode cX11_friends 5 = .ok (.iload_n 1, 1) := by decide +kernel
theorem dX11_friends_6 : decode cX11_friends 6 = .ok (.invokestatic 102, 3) := by decide +kernel
theorem dX11_friends_9 : decode cX11_friends 9 = .ok (.ifCond .eq 28, 3) := by decide +kernel
theorem dX11_friends_12 : decode cX11_friends 12 = .ok (.iload_n 3, 1) := by decide +kernel
theorem dX11_friends_13 : decode cX11_friends 13 = .ok (.i2l, 1) := by decide +kernel
theorem dX11_friends_14 : decode cX11_friends 14 = .ok (.lconst 1, 1) := by decide +kernel
theorem dX11_friends_15 : decode cX11_friends 15 = .ok (.ldc2_w 197, 3) := by decide +kernel
theorem dX11_friends_18 : decode cX11_friends 18 = .ok (.invokestatic 96, 3) := by decide +kernel
theorem dX11_friends_21 : decode cX11_friends 21 = .ok (.ifCond .eq 16, 3) := by decide +kernel
theorem dX11_friends_24 : decode cX11_friends 24 = .ok (.iload 4, 2) := by decide +kernel
theorem dX11_friends_26 : decode cX11_friends 26 = .ok (.i2l, 1) := by decide +kernel
theorem dX11_friends_27 : decode cX11_friends 27 = .ok (.lconst 0, 1) := by decide +kernel
theorem dX11_friends_28 : decode cX11_friends 28 = .ok (.ldc2_w 138, 3) := by decide +kernel
theorem dX11_friends_31 : decode cX11_friends 31 = .ok (.invokestatic 96, 3) := by decide +kernel
theorem dX11_friends_34 : decode cX11_friends 34 = .ok (.ifCond .ne 6, 3) := by decide +kernel
theorem dX11_friends_37 : decode cX11_friends 37 = .ok (.ldc 108, 2) := by decide +kernel
theorem dX11_friends_39 : decode cX11_friends 39 = .ok (.ireturn, 1) := by decide +kernel
theorem dX11_friends_40 : decode cX11_friends 40 = .ok (.aload_n 0, 1) := by decide +kernel
theorem dX11_friends_41 : decode cX11_friends 41 = .ok (.iload_n 1, 1) := by decide +kernel
theorem dX11_friends_42 : decode cX11_friends 42 = .ok (.iload_n 2, 1) := by decide +kernel
theorem dX11_friends_43 : decode cX11_friends 43 = .ok (.iconst 2, 1) := by decide +kernel
theorem dX11_friends_44 : decode cX11_friends 44 = .ok (.iload_n 3, 1) := by decide +kernel
theorem dX11_friends_45 : decode cX11_friends 45 = .ok (.imul, 1) := by decide +kernel
theorem dX11_friends_46 : decode cX11_friends 46 = .ok (.invokevirtual 132, 3) := by decide +kernel
theorem dX11_friends_49 : decode cX11_friends 49 = .ok (.istore 5, 2) := by decide +kernel
theorem dX11_friends_51 : decode cX11_friends 51 = .ok (.iload 5, 2) := by decide +kernel
theorem dX11_friends_53 : decode cX11_friends 53 = .ok (.ifCond .ge 6, 3) := by decide +kernel
theorem dX11_friends_56 : decode cX11_friends 56 = .ok (.iload 5, 2) := by decide +kernel
theorem dX11_friends_58 : decode cX11_friends 58 = .ok (.ireturn, 1) := by decide +kernel
theorem dX11_friends_59 : decode cX11_friends 59 = .ok (.bipush 60, 2) := by decide +kernel
theorem dX11_friends_61 : decode cX11_friends 61 = .ok (.iload_n 1, 1) := by decide +kernel
theorem dX11_friends_62 : decode cX11_friends 62 = .ok (.imul, 1) := by decide +kernel
theorem dX11_friends_63 : decode cX11_friends 63 = .ok (.iload_n 2, 1) := by decide +kernel
theorem dX11_friends_64 : decode cX11_friends 64 = .ok (.iadd, 1) := by decide +kernel
theorem dX11_friends_65 : decode cX11_friends 65 = .ok (.istore 6, 2) := by decide +kernel
theorem dX11_friends_67 : decode cX11_friends 67 = .ok (.iconst 0, 1) := by decide +kernel
theorem dX11_friends_68 : decode cX11_friends 68 = .ok (.istore 7, 2) := by decide +kernel
theorem dX11_friends_70 : decode cX11_friends 70 = .ok (.iconst 0, 1) := by decide +kernel
theorem dX11_friends_71 : decode cX11_friends 71 = .ok (.istore 8, 2) := by decide +kernel
theorem dX11_friends_73 : decode cX11_friends 73 = .ok (.iload 8, 2) := by decide +kernel
theorem dX11_friends_75 : decode cX11_friends 75 = .ok (.iload_n 3, 1) := by decide +kernel
theorem dX11_friends_76 : decode cX11_friends 76 = .ok (.if_icmp .ge 100, 3) := by decide +kernel
theorem dX11_friends_79 : decode cX11_friends 79 = .ok (.aload_n 0, 1) := by decide +kernel
theorem dX11_friends_80 : decode cX11_friends 80 = .ok (.getfield 24, 3) := by decide +kernel
theorem dX11_friends_83 : decode cX11_friends 83 = .ok (.iload 6, 2) := by decide +kernel
theorem dX11_friends_85 : decode cX11_friends 85 = .ok (.iconst 2, 1) := by decide +kernel
theorem dX11_friends_86 : decode cX11_friends 86 = .ok (.iload 8, 2) := by decide +kernel
theorem dX11_friends_88 : decode cX11_friends 88 = .ok (.imul, 1) := by decide +kernel
theorem dX11_friends_89 : decode cX11_friends 89 = .ok (.iadd, 1) := by decide +kernel
theorem dX11_friends_90 : decode cX11_friends 90 = .ok (.iaload, 1) := by decide +kernel
theorem dX11_friends_91 : decode cX11_friends 91 = .ok (.i2l, 1) := by decide +kernel
theorem dX11_friends_92 : decode cX11_friends 92 = .ok (.lconst 1, 1) := by decide +kernel
theorem dX11_friends_93 : decode cX11_friends 93 = .ok (.ldc2_w 197, 3) := by decide +kernel
theorem dX11_friends_96 : decode cX11_friends 96 = .ok (.invokestatic 96, 3) := by decide +kernel
theorem dX11_friends_99 : decode cX11_friends 99 = .ok (.ifCond .eq 49, 3) := by decide +kernel
theorem dX11_friends_102 : decode cX11_friends 102 = .ok (.aload_n 0, 1) := by decide +kernel
theorem dX11_friends_103 : decode cX11_friends 103 = .ok (.getfield 24, 3) := by decide +kernel
theorem dX11_friends_106 : decode cX11_friends 106 = .ok (.iload 6, 2) := by decide +kernel
theorem dX11_friends_108 : decode cX11_friends 108 = .ok (.iconst 2, 1) := by decide +kernel
theorem dX11_friends_109 : decode cX11_friends 109 = .ok (.iload 8, 2) := by decide +kernel
theorem dX11_friends_111 : decode cX11_friends 111 = .ok (.imul, 1) := by decide +kernel
theorem dX11_friends_112 : decode cX11_friends 112 = .ok (.iadd, 1) := by decide +kernel
theorem dX11_friends_113 : decode cX11_friends 113 = .ok (.iconst 1, 1) := by decide +kernel
theorem dX11_friends_114 : decode cX11_friends 114 = .ok (.iadd, 1) := by decide +kernel
theorem dX11_friends_115 : decode cX11_friends 115 = .ok (.iaload, 1) := by decide +kernel
theorem dX11_friends_116 : decode cX11_friends 116 = .ok (.i2l, 1) := by decide +kernel
theorem dX11_friends_117 : decode cX11_friends 117 = .ok (.lconst 0, 1) := by decide +kernel
theorem dX11_friends_118 : decode cX11_friends 118 = .ok (.ldc2_w 195, 3) := by decide +kernel
theorem dX11_friends_121 : decode cX11_friends 121 = .ok (.invokestatic 96, 3) := by decide +kernel
theorem dX11_friends_124 : decode cX11_friends 124 = .ok (.ifCond .eq 24, 3) := by decide +kernel
theorem dX11_friends_127 : decode cX11_friends 127 = .ok (.iload 7, 2) := by decide +kernel
theorem dX11_friends_129 : decode cX11_friends 129 = .ok (.aload_n 0, 1) := by decide +kernel
theorem dX11_friends_130 : decode cX11_friends 130 = .ok (.getfield 24, 3) := by decide +kernel
theorem dX11_friends_133 : decode cX11_friends 133 = .ok (.iload 6, 2) := by decide +kernel
theorem dX11_friends_135 : decode cX11_friends 135 = .ok (.iconst 2, 1) := by decide +kernel
theorem dX11_friends_136 : decode cX11_friends 136 = .ok (.iload 8, 2) := by decide +kernel
theorem dX11_friends_138 : decode cX11_friends 138 = .ok (.imul, 1) := by decide +kernel
theorem dX11_friends_139 : decode cX11_friends 139 = .ok (.iadd, 1) := by decide +kernel
theorem dX11_friends_140 : decode cX11_friends 140 = .ok (.iaload, 1) := by decide +kernel
theorem dX11_friends_141 : decode cX11_friends 141 = .ok (.ishr, 1) := by decide +kernel
theorem dX11_friends_142 : decode cX11_friends 142 = .ok (.iconst 1, 1) := by decide +kernel
theorem dX11_friends_143 : decode cX11_friends 143 = .ok (.iand, 1) := by decide +kernel
theorem dX11_friends_144 : decode cX11_friends 144 = .ok (.iconst 1, 1) := by decide +kernel
theorem dX11_friends_145 : decode cX11_friends 145 = .ok (.if_icmp .ne 6, 3) := by decide +kernel
theorem dX11_friends_148 : decode cX11_friends 148 = .ok (.ldc 108, 2) := by decide +kernel
theorem dX11_friends_150 : decode cX11_friends 150 = .ok (.ireturn, 1) := by decide +kernel
theorem dX11_friends_151 : decode cX11_friends 151 = .ok (.iload 7, 2) := by decide +kernel
theorem dX11_friends_153 : decode cX11_friends 153 = .ok (.iconst 1, 1) := by decide +kernel
theorem dX11_friends_154 : decode cX11_friends 154 = .ok (.aload_n 0, 1) := by decide +kernel
theorem dX11_friends_155 : decode cX11_friends 155 = .ok (.getfield 24, 3) := by decide +kernel
theorem dX11_friends_158 : decode cX11_friends 158 = .ok (.iload 6, 2) := by decide +kernel
theorem dX11_friends_160 : decode cX11_friends 160 = .ok (.iconst 2, 1) := by decide +kernel
theorem dX11_friends_161 : decode cX11_friends 161 = .ok (.iload 8, 2) := by decide +kernel
theorem dX11_friends_163 : decode cX11_friends 163 = .ok (.imul, 1) := by decide +kernel
theorem dX11_friends_164 : decode cX11_friends 164 = .ok (.iadd, 1) := by decide +kernel
theorem dX11_friends_165 : decode cX11_friends 165 = .ok (.iaload, 1) := by decide +kernel
theorem dX11_friends_166 : decode cX11_friends 166 = .ok (.ishl, 1) := by decide +kernel
theorem dX11_friends_167 : decode cX11_friends 167 = .ok (.ior, 1) := by decide +kernel
theorem dX11_friends_168 : decode cX11_friends 168 = .ok (.istore 7, 2) := by decide +kernel
theorem dX11_friends_170 : decode cX11_friends 170 = .ok (.iinc 8 1, 3) := by decide +kernel
theorem dX11_friends_173 : decode cX11_friends 173 = .ok (.goto (-100), 3) := by decide +kernel
theorem dX11_friends_176 : decode cX11_friends 176 = .ok (.aload_n 0, 1) := by decide +kernel
theorem dX11_friends_177 : decode cX11_friends 177 = .ok (.iconst 0, 1) := by decide +kernel
theorem dX11_friends_178 : decode cX11_friends 178 = .ok (.putfield 7, 3) := by decide +kernel
theorem dX11_friends_181 : decode cX11_friends 181 = .ok (.iload 4, 2) := by decide +kernel
theorem dX11_friends_183 : decode cX11_friends 183 = .ok (.ifCond .ne 12, 3) := by decide +kernel
theorem dX11_friends_186 : decode cX11_friends 186 = .ok (.aload_n 0, 1) := by decide +kernel
theorem dX11_friends_187 : decode cX11_friends 187 = .ok (.iload 6, 2) := by decide +kernel
theorem dX11_friends_189 : decode cX11_friends 189 = .ok (.iload_n 3, 1) := by decide +kernel
theorem dX11_friends_190 : decode cX11_friends 190 = .ok (.iconst 0, 1) := by decide +kernel
theorem dX11_friends_191 : decode cX11_friends 191 = .ok (.invokevirtual 205, 3) := by decide +kernel
theorem dX11_friends_194 : decode cX11_friends 194 = .ok (.ireturn, 1) := by decide +kernel
theorem dX11_friends_195 : decode cX11_friends 195 = .ok (.iload_n 3, 1) := by decide +kernel
theorem dX11_friends_196 : decode cX11_friends 196 = .ok (.iload 4, 2) := by decide +kernel
theorem dX11_friends_198 : decode cX11_friends 198 = .ok (.if_icmp .ge 7, 3) := by decide +kernel
theorem dX11_friends_201 : decode cX11_friends 201 = .ok (.sipush 257, 3) := by decide +kernel
theorem dX11_friends_204 : decode cX11_friends 204 = .ok (.ireturn, 1) := by decide +kernel
theorem dX11_friends_205 : decode cX11_friends 205 = .ok (.iconst 1, 1) := by decide +kernel
theorem dX11_friends_206 : decode cX11_friends 206 = .ok (.istore 8, 2) := by decide +kernel
theorem dX11_friends_208 : decode cX11_friends 208 = .ok (.iload 4, 2) := by decide +kernel
theorem dX11_friends_210 : decode cX11_friends 210 = .ok (.istore 9, 2) := by decide +kernel
theorem dX11_friends_212 : decode cX11_friends 212 = .ok (.iload 9, 2) := by decide +kernel
theorem dX11_friends_214 : decode cX11_friends 214 = .ok (.iload_n 3, 1) := by decide +kernel
theorem dX11_friends_215 : decode cX11_friends 215 = .ok (.if_icmp .ge 58, 3) := by decide +kernel
theorem dX11_friends_218 : decode cX11_friends 218 = .ok (.iload 8, 2) := by decide +kernel
theorem dX11_friends_220 : decode cX11_friends 220 = .ok (.ifCond .eq 44, 3) := by decide +kernel
theorem dX11_friends_223 : decode cX11_friends 223 = .ok (.aload_n 0, 1) := by decide +kernel
theorem dX11_friends_224 : decode cX11_friends 224 = .ok (.iload 6, 2) := by decide +kernel
theorem dX11_friends_226 : decode cX11_friends 226 = .ok (.iload 4, 2) := by decide +kernel
theorem dX11_friends_228 : decode cX11_friends 228 = .ok (.aload_n 0, 1) := by decide +kernel
theorem dX11_friends_229 : decode cX11_friends 229 = .ok (.getfield 24, 3) := by decide +kernel
theorem dX11_friends_232 : decode cX11_friends 232 = .ok (.iload 6, 2) := by decide +kernel
theorem dX11_friends_234 : decode cX11_friends 234 = .ok (.iconst 2, 1) := by decide +kernel
theorem dX11_friends_235 : decode cX11_friends 235 = .ok (.iload 9, 2) := by decide +kernel
theorem dX11_friends_237 : decode cX11_friends 237 = .ok (.imul, 1) := by decide +kernel
theorem dX11_friends_238 : decode cX11_friends 238 = .ok (.iadd, 1) := by decide +kernel
theorem dX11_friends_239 : decode cX11_friends 239 = .ok (.iaload, 1) := by decide +kernel
theorem dX11_friends_240 : decode cX11_friends 240 = .ok (.invokevirtual 205, 3) := by decide +kernel
theorem dX11_friends_243 : decode cX11_friends 243 = .ok (.aload_n 0, 1) := by decide +kernel
theorem dX11_friends_244 : decode cX11_friends 244 = .ok (.getfield 24, 3) := by decide +kernel
theorem dX11_friends_247 : decode cX11_friends 247 = .ok (.iload 6, 2) := by decide +kernel
theorem dX11_friends_249 : decode cX11_friends 249 = .ok (.iconst 2, 1) := by decide +kernel
theorem dX11_friends_250 : decode cX11_friends 250 = .ok (.iload 9, 2) := by decide +kernel
theorem dX11_friends_252 : decode cX11_friends 252 = .ok (.imul, 1) := by decide +kernel
theorem dX11_friends_253 : decode cX11_friends 253 = .ok (.iadd, 1) := by decide +kernel
theorem dX11_friends_254 : decode cX11_friends 254 = .ok (.iconst 1, 1) := by decide +kernel
theorem dX11_friends_255 : decode cX11_friends 255 = .ok (.iadd, 1) := by decide +kernel
theorem dX11_friends_256 : decode cX11_friends 256 = .ok (.iaload, 1) := by decide +kernel
theorem dX11_friends_257 : decode cX11_friends 257 = .ok (.if_icmp .ne 7, 3) := by decide +kernel
theorem dX11_friends_260 : decode cX11_friends 260 = .ok (.iconst 1, 1) := by decide +kernel
theorem dX11_friends_261 : decode cX11_friends 261 = .ok (.goto 4, 3) := by decide +kernel
theorem dX11_friends_264 : decode cX11_friends 264 = .ok (.iconst 0, 1) := by decide +kernel
theorem dX11_friends_265 : decode cX11_friends 265 = .ok (.istore 8, 2) := by decide +kernel
theorem dX11_friends_267 : decode cX11_friends 267 = .ok (.iinc 9 1, 3) := by decide +kernel
theorem dX11_friends_270 : decode cX11_friends 270 = .ok (.goto (-58), 3) := by decide +kernel
theorem dX11_friends_273 : decode cX11_friends 273 = .ok (.iload 8, 2) := by decide +kernel
theorem dX11_friends_275 : decode cX11_friends 275 = .ok (.ifCond .eq 7, 3) := by decide +kernel
theorem dX11_friends_278 : decode cX11_friends 278 = .ok (.iconst 1, 1) := by decide +kernel
theorem dX11_friends_279 : decode cX11_friends 279 = .ok (.goto 4, 3) := by decide +kernel
theorem dX11_friends_282 : decode cX11_friends 282 = .ok (.iconst 0, 1) := by decide +kernel
theorem dX11_friends_283 : decode cX11_friends 283 = .ok (.ireturn, 1) := by decide +kernel
theorem dX11_isDoor_0 : decode cX11_isDoor 0 = .ok (.iload_n 0, 1) := by decide +kernel
theorem dX11_isDoor_1 : decode cX11_isDoor 1 = .ok (.i2l, 1) := by decide +kernel
theorem dX11_isDoor_2 : decode cX11_isDoor 2 = .ok (.lconst 0, 1) := by decide +kernel
theorem dX11_isDoor_3 : decode cX11_isDoor 3 = .ok (.ldc2_w 113, 3) := by decide +kernel
theorem dX11_isDoor_6 : decode cX11_isDoor 6 = .ok (.invokestatic 96, 3) := by decide +kernel
theorem dX11_isDoor_9 : decode cX11_isDoor 9 = .ok (.ireturn, 1) := by decide +kernel
theorem dX11_book_0 : decode cX11_book 0 = .ok (.aload_n 0, 1) := by decide +kernel
theorem dX11_book_1 : decode cX11_book 1 = .ok (.iconst 0, 1) := by decide +kernel
theorem dX11_book_2 : decode cX11_book 2 = .ok (.putfield 1, 3) := by decide +kernel
theorem dX11_book_5 : decode cX11_book 5 = .ok (.iload_n 1, 1) := by decide +kernel
theorem dX11_book_6 : decode cX11_book 6 = .ok (.invokestatic 208, 3) := by decide +kernel
theorem dX11_book_9 : decode cX11_book 9 = .ok (.ifCond .eq 10, 3) := by decide +kernel
theorem dX11_book_12 : decode cX11_book 12 = .ok (.iload_n 2, 1) := by decide +kernel
theorem dX11_book_13 : decode cX11_book 13 = .ok (.invokestatic 118, 3) := by decide +kernel
theorem dX11_book_16 : decode cX11_book 16 = .ok (.ifCond .ne 6, 3) := by decide +kernel
theorem dX11_book_19 : decode cX11_book 19 = .ok (.ldc 108, 2) := by decide +kernel
theorem dX11_book_21 : decode cX11_book 21 = .ok (.ireturn, 1) := by decide +kernel
theorem dX11_book_22 : decode cX11_book 22 = .ok (.aload_n 0, 1) := by decide +kernel
theorem dX11_book_23 : decode cX11_book 23 = .ok (.getfield 54, 3) := by decide +kernel
theorem dX11_book_26 : decode cX11_book 26 = .ok (.iload_n 1, 1) := by decide +kernel
theorem dX11_book_27 : decode cX11_book 27 = .ok (.iaload, 1) := by decide +kernel
theorem dX11_book_28 : decode cX11_book 28 = .ok (.istore_n 3, 1) := by decide +kernel
theorem dX11_book_29 : decode cX11_book 29 = .ok (.aload_n 0, 1) := by decide +kernel
theorem dX11_book_30 : decode cX11_book 30 = .ok (.getfield 54, 3) := by decide +kernel
theorem dX11_book_33 : decode cX11_book 33 = .ok (.iload_n 1, 1) := by decide +kernel
theorem dX11_book_34 : decode cX11_book 34 = .ok (.iload_n 2, 1) := by decide +kernel
theorem dX11_book_35 : decode cX11_book 35 = .ok (.iastore, 1) := by decide +kernel
theorem dX11_book_36 : decode cX11_book 36 = .ok (.iload_n 3, 1) := by decide +kernel
theorem dX11_book_37 : decode cX11_book 37 = .ok (.ireturn, 1) := by decide +kernel
theorem dX11_revoke_0 : decode cX11_revoke 0 = .ok (.aload_n 0, 1) := by decide +kernel
theorem dX11_revoke_1 : decode cX11_revoke 1 = .ok (.iconst 0, 1) := by decide +kernel
theorem dX11_revoke_2 : decode cX11_revoke 2 = .ok (.putfield 1, 3) := by decide +kernel
theorem dX11_revoke_5 : decode cX11_revoke 5 = .ok (.aload_n 0, 1) := by decide +kernel
theorem dX11_revoke_6 : decode cX11_revoke 6 = .ok (.iload_n 1, 1) := by decide +kernel
theorem dX11_revoke_7 : decode cX11_revoke 7 = .ok (.invokevirtual 164, 3) := by decide +kernel
theorem dX11_revoke_10 : decode cX11_revoke 10 = .ok (.ifCond .eq 10, 3) := by decide +kernel
theorem dX11_revoke_13 : decode cX11_revoke 13 = .ok (.iload_n 2, 1) := by decide +kernel
theorem dX11_revoke_14 : decode cX11_revoke 14 = .ok (.invokestatic 118, 3) := by decide +kernel
theorem dX11_revoke_17 : decode cX11_revoke 17 = .ok (.ifCond .ne 6, 3) := by decide +kernel
theorem dX11_revoke_20 : decode cX11_revoke 20 = .ok (.ldc 108, 2) := by decide +kernel
theorem dX11_revoke_22 : decode cX11_revoke 22 = .ok (.ireturn, 1) := by decide +kernel
theorem dX11_revoke_23 : decode cX11_revoke 23 = .ok (.aload_n 0, 1) := by decide +kernel
theorem dX11_revoke_24 : decode cX11_revoke 24 = .ok (.getfield 42, 3) := by decide +kernel
theorem dX11_revoke_27 : decode cX11_revoke 27 = .ok (.iload_n 1, 1) := by decide +kernel
theorem dX11_revoke_28 : decode cX11_revoke 28 = .ok (.iaload, 1) := by decide +kernel
theorem dX11_revoke_29 : decode cX11_revoke 29 = .ok (.ldc 93, 2) := by decide +kernel
theorem dX11_revoke_31 : decode cX11_revoke 31 = .ok (.if_icmp .eq 6, 3) := by decide +kernel
theorem dX11_revoke_34 : decode cX11_revoke 34 = .ok (.ldc 128, 2) := by decide +kernel
theorem dX11_revoke_36 : decode cX11_revoke 36 = .ok (.ireturn, 1) := by decide +kernel
theorem dX11_revoke_37 : decode cX11_revoke 37 = .ok (.aload_n 0, 1) := by decide +kernel
theorem dX11_revoke_38 : decode cX11_revoke 38 = .ok (.getfield 42, 3) := by decide +kernel
theorem dX11_revoke_41 : decode cX11_revoke 41 = .ok (.iload_n 1, 1) := by decide +kernel
theorem dX11_revoke_42 : decode cX11_revoke 42 = .ok (.iload_n 2, 1) := by decide +kernel
theorem dX11_revoke_43 : decode cX11_revoke 43 = .ok (.iastore, 1) := by decide +kernel
theorem dX11_revoke_44 : decode cX11_revoke 44 = .ok (.iconst 1, 1) := by decide +kernel
theorem dX11_revoke_45 : decode cX11_revoke 45 = .ok (.ireturn, 1) := by decide +kernel
theorem dX11_isKnown_0 : decode cX11_isKnown 0 = .ok (.iload_n 0, 1) := by decide +kernel
theorem dX11_isKnown_1 : decode cX11_isKnown 1 = .ok (.ldc 93, 2) := by decide +kernel
theorem dX11_isKnown_3 : decode cX11_isKnown 3 = .ok (.if_icmp .eq 12, 3) := by decide +kernel
theorem dX11_isKnown_6 : decode cX11_isKnown 6 = .ok (.iload_n 0, 1) := by decide +kernel
theorem dX11_isKnown_7 : decode cX11_isKnown 7 = .ok (.iload_n 1, 1) := by decide +kernel
theorem dX11_isKnown_8 : decode cX11_isKnown 8 = .ok (.if_icmp .gt 7, 3) := by decide +kernel
theorem dX11_isKnown_11 : decode cX11_isKnown 11 = .ok (.iconst 1, 1) := by decide +kernel
theorem dX11_isKnown_12 : decode cX11_isKnown 12 = .ok (.goto 4, 3) := by decide +kernel
theorem dX11_isKnown_15 : decode cX11_isKnown 15 = .ok (.iconst 0, 1) := by decide +kernel
theorem dX11_isKnown_16 : decode cX11_isKnown 16 = .ok (.ireturn, 1) := by decide +kernel
theorem dX11_holdsAt_0 : decode cX11_holdsAt 0 = .ok (.aload_n 0, 1) := by decide +kernel
theorem dX11_holdsAt_1 : decode cX11_holdsAt 1 = .ok (.getfield 54, 3) := by decide +kernel
theorem dX11_holdsAt_4 : decode cX11_holdsAt 4 = .ok (.iload_n 2, 1) := by decide +kernel
theorem dX11_holdsAt_5 : decode cX11_holdsAt 5 = .ok (.iaload, 1) := by decide +kernel
theorem dX11_holdsAt_6 : decode cX11_holdsAt 6 = .ok (.istore 4, 2) := by decide +kernel
theorem dX11_holdsAt_8 : decode cX11_holdsAt 8 = .ok (.aload_n 0, 1) := by decide +kernel
theorem dX11_holdsAt_9 : decode cX11_holdsAt 9 = .ok (.getfield 36, 3) := by decide +kernel
theorem dX11_holdsAt_12 : decode cX11_holdsAt 12 = .ok (.iconst 2, 1) := by decide +kernel
theorem dX11_holdsAt_13 : decode cX11_holdsAt 13 = .ok (.aload_n 0, 1) := by decide +kernel
theorem dX11_holdsAt_14 : decode cX11_holdsAt 14 = .ok (.iload_n 1, 1) := by decide +kernel
theorem dX11_holdsAt_15 : decode cX11_holdsAt 15 = .ok (.iconst 0, 1) := by decide +kernel
theorem dX11_holdsAt_16 : decode cX11_holdsAt 16 = .ok (.invokevirtual 152, 3) := by decide +kernel
theorem dX11_holdsAt_19 : decode cX11_holdsAt 19 = .ok (.imul, 1) := by decide +kernel
theorem dX11_holdsAt_20 : decode cX11_holdsAt 20 = .ok (.iaload, 1) := by decide +kernel
theorem dX11_holdsAt_21 : decode cX11_holdsAt 21 = .ok (.istore 5, 2) := by decide +kernel
theorem dX11_holdsAt_23 : decode cX11_holdsAt 23 = .ok (.aload_n 0, 1) := by decide +kernel
theorem dX11_holdsAt_24 : decode cX11_holdsAt 24 = .ok (.getfield 36, 3) := by decide +kernel
theorem dX11_holdsAt_27 : decode cX11_holdsAt 27 = .ok (.iconst 2, 1) := by decide +kernel
theorem dX11_holdsAt_28 : decode cX11_holdsAt 28 = .ok (.aload_n 0, 1) := by decide +kernel
theorem dX11_holdsAt_29 : decode cX11_holdsAt 29 = .ok (.iload_n 1, 1) := by decide +kernel
theorem dX11_holdsAt_30 : decode cX11_holdsAt 30 = .ok (.iconst 0, 1) := by decide +kernel
theorem dX11_holdsAt_31 : decode cX11_holdsAt 31 = .ok (.invokevirtual 152, 3) := by decide +kernel
theorem dX11_holdsAt_34 : decode cX11_holdsAt 34 = .ok (.imul, 1) := by decide +kernel
theorem dX11_holdsAt_35 : decode cX11_holdsAt 35 = .ok (.iconst 1, 1) := by decide +kernel
theorem dX11_holdsAt_36 : decode cX11_holdsAt 36 = .ok (.iadd, 1) := by decide +kernel
theorem dX11_holdsAt_37 : decode cX11_holdsAt 37 = .ok (.iaload, 1) := by decide +kernel
theorem dX11_holdsAt_38 : decode cX11_holdsAt 38 = .ok (.istore 6, 2) := by decide +kernel
theorem dX11_holdsAt_40 : decode cX11_holdsAt 40 = .ok (.iload_n 3, 1) := by decide +kernel
theorem dX11_holdsAt_41 : decode cX11_holdsAt 41 = .ok (.aload_n 0, 1) := by decide +kernel
theorem dX11_holdsAt_42 : decode cX11_holdsAt 42 = .ok (.iload_n 1, 1) := by decide +kernel
theorem dX11_holdsAt_43 : decode cX11_holdsAt 43 = .ok (.iconst 3, 1) := by decide +kernel
theorem dX11_holdsAt_44 : decode cX11_holdsAt 44 = .ok (.invokevirtual 152, 3) := by decide +kernel
theorem dX11_holdsAt_47 : decode cX11_holdsAt 47 = .ok (.if_icmp .ge 7, 3) := by decide +kernel
theorem dX11_holdsAt_50 : decode cX11_holdsAt 50 = .ok (.iconst 1, 1) := by decide +kernel
theorem dX11_holdsAt_51 : decode cX11_holdsAt 51 = .ok (.goto 91, 3) := by decide +kernel
theorem dX11_holdsAt_54 : decode cX11_holdsAt 54 = .ok (.iload_n 3, 1) := by decide +kernel
theorem dX11_holdsAt_55 : decode cX11_holdsAt 55 = .ok (.aload_n 0, 1) := by decide +kernel
theorem dX11_holdsAt_56 : decode cX11_holdsAt 56 = .ok (.iload_n 1, 1) := by decide +kernel
theorem dX11_holdsAt_57 : decode cX11_holdsAt 57 = .ok (.iconst 4, 1) := by decide +kernel
theorem dX11_holdsAt_58 : decode cX11_holdsAt 58 = .ok (.invokevirtual 152, 3) := by decide +kernel
theorem dX11_holdsAt_61 : decode cX11_holdsAt 61 = .ok (.if_icmp .le 7, 3) := by decide +kernel
theorem dX11_holdsAt_64 : decode cX11_holdsAt 64 = .ok (.iconst 2, 1) := by decide +kernel
theorem dX11_holdsAt_65 : decode cX11_holdsAt 65 = .ok (.goto 77, 3) := by decide +kernel
theorem dX11_holdsAt_68 : decode cX11_holdsAt 68 = .ok (.aload_n 0, 1) := by decide +kernel
theorem dX11_holdsAt_69 : decode cX11_holdsAt 69 = .ok (.getfield 42, 3) := by decide +kernel
theorem dX11_holdsAt_72 : decode cX11_holdsAt 72 = .ok (.iload_n 1, 1) := by decide +kernel
theorem dX11_holdsAt_73 : decode cX11_holdsAt 73 = .ok (.iaload, 1) := by decide +kernel
theorem dX11_holdsAt_74 : decode cX11_holdsAt 74 = .ok (.iload 4, 2) := by decide +kernel
theorem dX11_holdsAt_76 : decode cX11_holdsAt 76 = .ok (.invokestatic 211, 3) := by decide +kernel
theorem dX11_holdsAt_79 : decode cX11_holdsAt 79 = .ok (.ifCond .eq 17, 3) := by decide +kernel
theorem dX11_holdsAt_82 : decode cX11_holdsAt 82 = .ok (.aload_n 0, 1) := by decide +kernel
theorem dX11_holdsAt_83 : decode cX11_holdsAt 83 = .ok (.getfield 42, 3) := by decide +kernel
theorem dX11_holdsAt_86 : decode cX11_holdsAt 86 = .ok (.iload_n 1, 1) := by decide +kernel
theorem dX11_holdsAt_87 : decode cX11_holdsAt 87 = .ok (.iaload, 1) := by decide +kernel
theorem dX11_holdsAt_88 : decode cX11_holdsAt 88 = .ok (.iload_n 3, 1) := by decide +kernel
theorem dX11_holdsAt_89 : decode cX11_holdsAt 89 = .ok (.if_icmp .gt 7, 3) := by decide +kernel
theorem dX11_holdsAt_92 : decode cX11_holdsAt 92 = .ok (.iconst 3, 1) := by decide +kernel
theorem dX11_holdsAt_93 : decode cX11_holdsAt 93 = .ok (.goto 49, 3) := by decide +kernel
theorem dX11_holdsAt_96 : decode cX11_holdsAt 96 = .ok (.iload 6, 2) := by decide +kernel
theorem dX11_holdsAt_98 : decode cX11_holdsAt 98 = .ok (.iload 4, 2) := by decide +kernel
theorem dX11_holdsAt_100 : decode cX11_holdsAt 100 = .ok (.invokestatic 211, 3) := by decide +kernel
theorem dX11_holdsAt_103 : decode cX11_holdsAt 103 = .ok (.ifCond .eq 13, 3) := by decide +kernel
theorem dX11_holdsAt_106 : decode cX11_holdsAt 106 = .ok (.iload 6, 2) := by decide +kernel
theorem dX11_holdsAt_108 : decode cX11_holdsAt 108 = .ok (.iload_n 3, 1) := by decide +kernel
theorem dX11_holdsAt_109 : decode cX11_holdsAt 109 = .ok (.if_icmp .gt 7, 3) := by decide +kernel
theorem dX11_holdsAt_112 : decode cX11_holdsAt 112 = .ok (.iconst 4, 1) := by decide +kernel
theorem dX11_holdsAt_113 : decode cX11_holdsAt 113 = .ok (.goto 29, 3) := by decide +kernel
theorem dX11_holdsAt_116 : decode cX11_holdsAt 116 = .ok (.iload 5, 2) := by decide +kernel
theorem dX11_holdsAt_118 : decode cX11_holdsAt 118 = .ok (.iload 4, 2) := by decide +kernel
theorem dX11_holdsAt_120 : decode cX11_holdsAt 120 = .ok (.invokestatic 211, 3) := by decide +kernel
theorem dX11_holdsAt_123 : decode cX11_holdsAt 123 = .ok (.ifCond .eq 18, 3) := by decide +kernel
theorem dX11_holdsAt_126 : decode cX11_holdsAt 126 = .ok (.aload_n 0, 1) := by decide +kernel
theorem dX11_holdsAt_127 : decode cX11_holdsAt 127 = .ok (.iload_n 1, 1) := by decide +kernel
theorem dX11_holdsAt_128 : decode cX11_holdsAt 128 = .ok (.iconst 3, 1) := by decide +kernel
theorem dX11_holdsAt_129 : decode cX11_holdsAt 129 = .ok (.invokevirtual 152, 3) := by decide +kernel
theorem dX11_holdsAt_132 : decode cX11_holdsAt 132 = .ok (.iload 5, 2) := by decide +kernel
theorem dX11_holdsAt_134 : decode cX11_holdsAt 134 = .ok (.if_icmp .lt 7, 3) := by decide +kernel
theorem dX11_holdsAt_137 : decode cX11_holdsAt 137 = .ok (.iconst 5, 1) := by decide +kernel
theorem dX11_holdsAt_138 : decode cX11_holdsAt 138 = .ok (.goto 4, 3) := by decide +kernel
theorem dX11_holdsAt_141 : decode cX11_holdsAt 141 = .ok (.iconst 0, 1) := by decide +kernel
theorem dX11_holdsAt_142 : decode cX11_holdsAt 142 = .ok (.ireturn, 1) := by decide +kernel
theorem dX11_holds_0 : decode cX11_holds 0 = .ok (.aload_n 0, 1) := by decide +kernel
theorem dX11_holds_1 : decode cX11_holds 1 = .ok (.iconst 0, 1) := by decide +kernel
theorem dX11_holds_2 : decode cX11_holds 2 = .ok (.putfield 1, 3) := by decide +kernel
theorem dX11_holds_5 : decode cX11_holds 5 = .ok (.aload_n 0, 1) := by decide +kernel
theorem dX11_holds_6 : decode cX11_holds 6 = .ok (.iload_n 1, 1) := by decide +kernel
theorem dX11_holds_7 : decode cX11_holds 7 = .ok (.invokevirtual 164, 3) := by decide +kernel
theorem dX11_holds_10 : decode cX11_holds 10 = .ok (.ifCond .eq 17, 3) := by decide +kernel
theorem dX11_holds_13 : decode cX11_holds 13 = .ok (.iload_n 2, 1) := by decide +kernel
theorem dX11_holds_14 : decode cX11_holds 14 = .ok (.invokestatic 208, 3) := by decide +kernel
theorem dX11_holds_17 : decode cX11_holds 17 = .ok (.ifCond .eq 10, 3) := by decide +kernel
theorem dX11_holds_20 : decode cX11_holds 20 = .ok (.iload_n 3, 1) := by decide +kernel
theorem dX11_holds_21 : decode cX11_holds 21 = .ok (.invokestatic 118, 3) := by decide +kernel
theorem dX11_holds_24 : decode cX11_holds 24 = .ok (.ifCond .ne 8, 3) := by decide +kernel
theorem dX11_holds_27 : decode cX11_holds 27 = .ok (.ldc 108, 2) := by decide +kernel
theorem dX11_holds_29 : decode cX11_holds 29 = .ok (.goto 10, 3) := by decide +kernel
theorem dX11_holds_32 : decode cX11_holds 32 = .ok (.aload_n 0, 1) := by decide +kernel
theorem dX11_holds_33 : decode cX11_holds 33 = .ok (.iload_n 1, 1) := by decide +kernel
theorem dX11_holds_34 : decode cX11_holds 34 = .ok (.iload_n 2, 1) := by decide +kernel
theorem dX11_holds_35 : decode cX11_holds 35 = .ok (.iload_n 3, 1) := by decide +kernel
theorem dX11_holds_36 : decode cX11_holds 36 = .ok (.invokevirtual 215, 3) := by decide +kernel
theorem dX11_holds_39 : decode cX11_holds 39 = .ok (.ireturn, 1) := by decide +kernel
theorem dX11_feed_0 : decode cX11_feed 0 = .ok (.aload_n 0, 1) := by decide +kernel
theorem dX11_feed_1 : decode cX11_feed 1 = .ok (.iconst 0, 1) := by decide +kernel
theorem dX11_feed_2 : decode cX11_feed 2 = .ok (.putfield 1, 3) := by decide +kernel
theorem dX11_feed_5 : decode cX11_feed 5 = .ok (.iload_n 3, 1) := by decide +kernel
theorem dX11_feed_6 : decode cX11_feed 6 = .ok (.i2l, 1) := by decide +kernel
theorem dX11_feed_7 : decode cX11_feed 7 = .ok (.lconst 1, 1) := by decide +kernel
theorem dX11_feed_8 : decode cX11_feed 8 = .ok (.ldc2_w 218, 3) := by decide +kernel
theorem dX11_feed_11 : decode cX11_feed 11 = .ok (.invokestatic 96, 3) := by decide +kernel
theorem dX11_feed_14 : decode cX11_feed 14 = .ok (.ifCond .ne 6, 3) := by decide +kernel
theorem dX11_feed_17 : decode cX11_feed 17 = .ok (.ldc 108, 2) := by decide +kernel
theorem dX11_feed_19 : decode cX11_feed 19 = .ok (.ireturn, 1) := by decide +kernel
theorem dX11_feed_20 : decode cX11_feed 20 = .ok (.aload_n 0, 1) := by decide +kernel
theorem dX11_feed_21 : decode cX11_feed 21 = .ok (.getfield 220, 3) := by decide +kernel
theorem dX11_feed_24 : decode cX11_feed 24 = .ok (.iload_n 3, 1) := by decide +kernel
theorem dX11_feed_25 : decode cX11_feed 25 = .ok (.iadd, 1) := by decide +kernel
theorem dX11_feed_26 : decode cX11_feed 26 = .ok (.sipush 300, 3) := by decide +kernel
theorem dX11_feed_29 : decode cX11_feed 29 = .ok (.if_icmp .le 6, 3) := by decide +kernel
theorem dX11_feed_32 : decode cX11_feed 32 = .ok (.ldc 123, 2) := by decide +kernel
theorem dX11_feed_34 : decode cX11_feed 34 = .ok (.ireturn, 1) := by decide +kernel
theorem dX11_feed_35 : decode cX11_feed 35 = .ok (.iload_n 3, 1) := by decide +kernel
theorem dX11_feed_36 : decode cX11_feed 36 = .ok (.iconst 1, 1) := by decide +kernel
theorem dX11_feed_37 : decode cX11_feed 37 = .ok (.isub, 1) := by decide +kernel
theorem dX11_feed_38 : decode cX11_feed 38 = .ok (.istore 4, 2) := by decide +kernel
theorem dX11_feed_40 : decode cX11_feed 40 = .ok (.iload 4, 2) := by decide +kernel
theorem dX11_feed_42 : decode cX11_feed 42 = .ok (.ifCond .lt 40, 3) := by decide +kernel
theorem dX11_feed_45 : decode cX11_feed 45 = .ok (.aload_n 0, 1) := by decide +kernel
theorem dX11_feed_46 : decode cX11_feed 46 = .ok (.getfield 72, 3) := by decide +kernel
theorem dX11_feed_49 : decode cX11_feed 49 = .ok (.aload_n 0, 1) := by decide +kernel
theorem dX11_feed_50 : decode cX11_feed 50 = .ok (.getfield 220, 3) := by decide +kernel
theorem dX11_feed_53 : decode cX11_feed 53 = .ok (.lload_n 1, 1) := by decide +kernel
theorem dX11_feed_54 : decode cX11_feed 54 = .ok (.bipush 8, 2) := by decide +kernel
theorem dX11_feed_56 : decode cX11_feed 56 = .ok (.iload 4, 2) := by decide +kernel
theorem dX11_feed_58 : decode cX11_feed 58 = .ok (.imul, 1) := by decide +kernel
theorem dX11_feed_59 : decode cX11_feed 59 = .ok (.lshr, 1) := by decide +kernel
theorem dX11_feed_60 : decode cX11_feed 60 = .ok (.ldc2_w 223, 3) := by decide +kernel
theorem dX11_feed_63 : decode cX11_feed 63 = .ok (.land, 1) := by decide +kernel
theorem dX11_feed_64 : decode cX11_feed 64 = .ok (.l2i, 1) := by decide +kernel
theorem dX11_feed_65 : decode cX11_feed 65 = .ok (.iastore, 1) := by decide +kernel
theorem dX11_feed_66 : decode cX11_feed 66 = .ok (.aload_n 0, 1) := by decide +kernel
theorem dX11_feed_67 : decode cX11_feed 67 = .ok (.dup, 1) := by decide +kernel
theorem dX11_feed_68 : decode cX11_feed 68 = .ok (.getfield 220, 3) := by decide +kernel
theorem dX11_feed_71 : decode cX11_feed 71 = .ok (.iconst 1, 1) := by decide +kernel
theorem dX11_feed_72 : decode cX11_feed 72 = .ok (.iadd, 1) := by decide +kernel
theorem dX11_feed_73 : decode cX11_feed 73 = .ok (.putfield 220, 3) := by decide +kernel
theorem dX11_feed_76 : decode cX11_feed 76 = .ok (.iinc 4 (-1), 3) := by decide +kernel
theorem dX11_feed_79 : decode cX11_feed 79 = .ok (.goto (-39), 3) := by decide +kernel
theorem dX11_feed_82 : decode cX11_feed 82 = .ok (.aload_n 0, 1) := by decide +kernel
theorem dX11_feed_83 : decode cX11_feed 83 = .ok (.getfield 220, 3) := by decide +kernel
theorem dX11_feed_86 : decode cX11_feed 86 = .ok (.ireturn, 1) := by decide +kernel
theorem dX11_byteAt_0 : decode cX11_byteAt 0 = .ok (.iload_n 1, 1) := by decide +kernel
theorem dX11_byteAt_1 : decode cX11_byteAt 1 = .ok (.aload_n 0, 1) := by decide +kernel
theorem dX11_byteAt_2 : decode cX11_byteAt 2 = .ok (.getfield 225, 3) := by decide +kernel
theorem dX11_byteAt_5 : decode cX11_byteAt 5 = .ok (.if_icmp .ge 12, 3) := by decide +kernel
theorem dX11_byteAt_8 : decode cX11_byteAt 8 = .ok (.aload_n 0, 1) := by decide +kernel
theorem dX11_byteAt_9 : decode cX11_byteAt 9 = .ok (.getfield 72, 3) := by decide +kernel
theorem dX11_byteAt_12 : decode cX11_byteAt 12 = .ok (.iload_n 1, 1) := by decide +kernel
theorem dX11_byteAt_13 : decode cX11_byteAt 13 = .ok (.iaload, 1) := by decide +kernel
theorem dX11_byteAt_14 : decode cX11_byteAt 14 = .ok (.goto 5, 3) := by decide +kernel
theorem dX11_byteAt_17 : decode cX11_byteAt 17 = .ok (.ldc 93, 2) := by decide +kernel
theorem dX11_byteAt_19 : decode cX11_byteAt 19 = .ok (.ireturn, 1) := by decide +kernel
theorem dX11_isLetter_0 : decode cX11_isLetter 0 = .ok (.iload_n 0, 1) := by decide +kernel
theorem dX11_isLetter_1 : decode cX11_isLetter 1 = .ok (.bipush 97, 2) := by decide +kernel
theorem dX11_isLetter_3 : decode cX11_isLetter 3 = .ok (.if_icmp .lt 13, 3) := by decide +kernel
theorem dX11_isLetter_6 : decode cX11_isLetter 6 = .ok (.iload_n 0, 1) := by decide +kernel
theorem dX11_isLetter_7 : decode cX11_isLetter 7 = .ok (.bipush 122, 2) := by decide +kernel
theorem dX11_isLetter_9 : decode cX11_isLetter 9 = .ok (.if_icmp .gt 7, 3) := by decide +kernel
theorem dX11_isLetter_12 : decode cX11_isLetter 12 = .ok (.iconst 1, 1) := by decide +kernel
theorem dX11_isLetter_13 : decode cX11_isLetter 13 = .ok (.goto 4, 3) := by decide +kernel
theorem dX11_isLetter_16 : decode cX11_isLetter 16 = .ok (.iconst 0, 1) := by decide +kernel
theorem dX11_isLetter_17 : decode cX11_isLetter 17 = .ok (.ireturn, 1) := by decide +kernel
theorem dX11_isFigure_0 : decode cX11_isFigure 0 = .ok (.iload_n 0, 1) := by decide +kernel
theorem dX11_isFigure_1 : decode cX11_isFigure 1 = .ok (.bipush 48, 2) := by decide +kernel
theorem dX11_isFigure_3 : decode cX11_isFigure 3 = .ok (.if_icmp .lt 13, 3) := by decide +kernel
theorem dX11_isFigure_6 : decode cX11_isFigure 6 = .ok (.iload_n 0, 1) := by decide +kernel
theorem dX11_isFigure_7 : decode cX11_isFigure 7 = .ok (.bipush 57, 2) := by decide +kernel
theorem dX11_isFigure_9 : decode cX11_isFigure 9 = .ok (.if_icmp .gt 7, 3) := by decide +kernel
theorem dX11_isFigure_12 : decode cX11_isFigure 12 = .ok (.iconst 1, 1) := by decide +kernel
theorem dX11_isFigure_13 : decode cX11_isFigure 13 = .ok (.goto 4, 3) := by decide +kernel
theorem dX11_isFigure_16 : decode cX11_isFigure 16 = .ok (.iconst 0, 1) := by decide +kernel
theorem dX11_isFigure_17 : decode cX11_isFigure 17 = .ok (.ireturn, 1) := by decide +kernel
theorem dX11_step_0 : decode cX11_step 0 = .ok (.aload_n 0, 1) := by decide +kernel
theorem dX11_step_1 : decode cX11_step 1 = .ok (.aload_n 0, 1) := by decide +kernel
theorem dX11_step_2 : decode cX11_step 2 = .ok (.getfield 228, 3) := by decide +kernel
theorem dX11_step_5 : decode cX11_step 5 = .ok (.invokevirtual 231, 3) := by decide +kernel
theorem dX11_step_8 : decode cX11_step 8 = .ok (.bipush 32, 2) := by decide +kernel
theorem dX11_step_10 : decode cX11_step 10 = .ok (.if_icmp .eq 16, 3) := by decide +kernel
theorem dX11_step_13 : decode cX11_step 13 = .ok (.aload_n 0, 1) := by decide +kernel
theorem dX11_step_14 : decode cX11_step 14 = .ok (.aload_n 0, 1) := by decide +kernel
theorem dX11_step_15 : decode cX11_step 15 = .ok (.getfield 228, 3) := by decide +kernel
theorem dX11_step_18 : decode cX11_step 18 = .ok (.invokevirtual 231, 3) := by decide +kernel
theorem dX11_step_21 : decode cX11_step 21 = .ok (.bipush 10, 2) := by decide +kernel
theorem dX11_step_23 : decode cX11_step 23 = .ok (.if_icmp .ne 16, 3) := by decide +kernel
theorem dX11_step_26 : decode cX11_step 26 = .ok (.aload_n 0, 1) := by decide +kernel
theorem dX11_step_27 : decode cX11_step 27 = .ok (.dup, 1) := by decide +kernel
theorem dX11_step_28 : decode cX11_step 28 = .ok (.getfield 228, 3) := by decide +kernel
theorem dX11_step_31 : decode cX11_step 31 = .ok (.iconst 1, 1) := by decide +kernel
theorem dX11_step_32 : decode cX11_step 32 = .ok (.iadd, 1) := by decide +kernel
theorem dX11_step_33 : decode cX11_step 33 = .ok (.putfield 228, 3) := by decide +kernel
theorem dX11_step_36 : decode cX11_step 36 = .ok (.goto (-36), 3) := by decide +kernel
theorem dX11_step_39 : decode cX11_step 39 = .ok (.aload_n 0, 1) := by decide +kernel
theorem dX11_step_40 : decode cX11_step 40 = .ok (.aload_n 0, 1) := by decide +kernel
theorem dX11_step_41 : decode cX11_step 41 = .ok (.getfield 228, 3) := by decide +kernel
theorem dX11_step_44 : decode cX11_step 44 = .ok (.putfield 234, 3) := by decide +kernel
theorem dX11_step_47 : decode cX11_step 47 = .ok (.aload_n 0, 1) := by decide +kernel
theorem dX11_step_48 : decode cX11_step 48 = .ok (.aload_n 0, 1) := by decide +kernel
theorem dX11_step_49 : decode cX11_step 49 = .ok (.getfield 228, 3) := by decide +kernel
theorem dX11_step_52 : decode cX11_step 52 = .ok (.invokevirtual 231, 3) := by decide +kernel
theorem dX11_step_55 : decode cX11_step 55 = .ok (.istore_n 1, 1) := by decide +kernel
theorem dX11_step_56 : decode cX11_step 56 = .ok (.iload_n 1, 1) := by decide +kernel
theorem dX11_step_57 : decode cX11_step 57 = .ok (.ldc 93, 2) := by decide +kernel
theorem dX11_step_59 : decode cX11_step 59 = .ok (.if_icmp .ne 11, 3) := by decide +kernel
theorem dX11_step_62 : decode cX11_step 62 = .ok (.aload_n 0, 1) := by decide +kernel
theorem dX11_step_63 : decode cX11_step 63 = .ok (.iconst 1, 1) := by decide +kernel
theorem dX11_step_64 : decode cX11_step 64 = .ok (.putfield 237, 3) := by decide +kernel
theorem dX11_step_67 : decode cX11_step 67 = .ok (.goto 129, 3) := by decide +kernel
theorem dX11_step_70 : decode cX11_step 70 = .ok (.iload_n 1, 1) := by decide +kernel
theorem dX11_step_71 : decode cX11_step 71 = .ok (.invokestatic 240, 3) := by decide +kernel
theorem dX11_step_74 : decode cX11_step 74 = .ok (.ifCond .eq 38, 3) := by decide +kernel
theorem dX11_step_77 : decode cX11_step 77 = .ok (.aload_n 0, 1) := by decide +kernel
theorem dX11_step_78 : decode cX11_step 78 = .ok (.aload_n 0, 1) := by decide +kernel
theorem dX11_step_79 : decode cX11_step 79 = .ok (.getfield 228, 3) := by decide +kernel
theorem dX11_step_82 : decode cX11_step 82 = .ok (.invokevirtual 231, 3) := by decide +kernel
theorem dX11_step_85 : decode cX11_step 85 = .ok (.invokestatic 240, 3) := by decide +kernel
theorem dX11_step_88 : decode cX11_step 88 = .ok (.ifCond .eq 16, 3) := by decide +kernel
theorem dX11_step_91 : decode cX11_step 91 = .ok (.aload_n 0, 1) := by decide +kernel
theorem dX11_step_92 : decode cX11_step 92 = .ok (.dup, 1) := by decide +kernel
theorem dX11_step_93 : decode cX11_step 93 = .ok (.getfield 228, 3) := by decide +kernel
theorem dX11_step_96 : decode cX11_step 96 = .ok (.iconst 1, 1) := by decide +kernel
theorem dX11_step_97 : decode cX11_step 97 = .ok (.iadd, 1) := by decide +kernel
theorem dX11_step_98 : decode cX11_step 98 = .ok (.putfield 228, 3) := by decide +kernel
theorem dX11_step_101 : decode cX11_step 101 = .ok (.goto (-24), 3) := by decide +kernel
theorem dX11_step_104 : decode cX11_step 104 = .ok (.aload_n 0, 1) := by decide +kernel
theorem dX11_step_105 : decode cX11_step 105 = .ok (.iconst 2, 1) := by decide +kernel
theorem dX11_step_106 : decode cX11_step 106 = .ok (.putfield 237, 3) := by decide +kernel
theorem dX11_step_109 : decode cX11_step 109 = .ok (.goto 87, 3) := by decide +kernel
theorem dX11_step_112 : decode cX11_step 112 = .ok (.iload_n 1, 1) := by decide +kernel
theorem dX11_step_113 : decode cX11_step 113 = .ok (.invokestatic 243, 3) := by decide +kernel
theorem dX11_step_116 : decode cX11_step 116 = .ok (.ifCond .eq 55, 3) := by decide +kernel
theorem dX11_step_119 : decode cX11_step 119 = .ok (.aload_n 0, 1) := by decide +kernel
theorem dX11_step_120 : decode cX11_step 120 = .ok (.aload_n 0, 1) := by decide +kernel
theorem dX11_step_121 : decode cX11_step 121 = .ok (.getfield 228, 3) := by decide +kernel
theorem dX11_step_124 : decode cX11_step 124 = .ok (.invokevirtual 231, 3) := by decide +kernel
theorem dX11_step_127 : decode cX11_step 127 = .ok (.invokestatic 243, 3) := by decide +kernel
theorem dX11_step_130 : decode cX11_step 130 = .ok (.ifCond .eq 16, 3) := by decide +kernel
theorem dX11_step_133 : decode cX11_step 133 = .ok (.aload_n 0, 1) := by decide +kernel
theorem dX11_step_134 : decode cX11_step 134 = .ok (.dup, 1) := by decide +kernel
theorem dX11_step_135 : decode cX11_step 135 = .ok (.getfield 228, 3) := by decide +kernel
theorem dX11_step_138 : decode cX11_step 138 = .ok (.iconst 1, 1) := by decide +kernel
theorem dX11_step_139 : decode cX11_step 139 = .ok (.iadd, 1) := by decide +kernel
theorem dX11_step_140 : decode cX11_step 140 = .ok (.putfield 228, 3) := by decide +kernel
theorem dX11_step_143 : decode cX11_step 143 = .ok (.goto (-24), 3) := by decide +kernel
theorem dX11_step_146 : decode cX11_step 146 = .ok (.aload_n 0, 1) := by decide +kernel
theorem dX11_step_147 : decode cX11_step 147 = .ok (.aload_n 0, 1) := by decide +kernel
theorem dX11_step_148 : decode cX11_step 148 = .ok (.getfield 228, 3) := by decide +kernel
theorem dX11_step_151 : decode cX11_step 151 = .ok (.aload_n 0, 1) := by decide +kernel
theorem dX11_step_152 : decode cX11_step 152 = .ok (.getfield 234, 3) := by decide +kernel
theorem dX11_step_155 : decode cX11_step 155 = .ok (.isub, 1) := by decide +kernel
theorem dX11_step_156 : decode cX11_step 156 = .ok (.iconst 3, 1) := by decide +kernel
theorem dX11_step_157 : decode cX11_step 157 = .ok (.if_icmp .le 7, 3) := by decide +kernel
theorem dX11_step_160 : decode cX11_step 160 = .ok (.iconst 0, 1) := by decide +kernel
theorem dX11_step_161 : decode cX11_step 161 = .ok (.goto 4, 3) := by decide +kernel
theorem dX11_step_164 : decode cX11_step 164 = .ok (.iconst 3, 1) := by decide +kernel
theorem dX11_step_165 : decode cX11_step 165 = .ok (.putfield 237, 3) := by decide +kernel
theorem dX11_step_168 : decode cX11_step 168 = .ok (.goto 28, 3) := by decide +kernel
theorem dX11_step_171 : decode cX11_step 171 = .ok (.aload_n 0, 1) := by decide +kernel
theorem dX11_step_172 : decode cX11_step 172 = .ok (.dup, 1) := by decide +kernel
theorem dX11_step_173 : decode cX11_step 173 = .ok (.getfield 228, 3) := by decide +kernel
theorem dX11_step_176 : decode cX11_step 176 = .ok (.iconst 1, 1) := by decide +kernel
theorem dX11_step_177 : decode cX11_step 177 = .ok (.iadd, 1) := by decide +kernel
theorem dX11_step_178 : decode cX11_step 178 = .ok (.putfield 228, 3) := by decide +kernel
theorem dX11_step_181 : decode cX11_step 181 = .ok (.aload_n 0, 1) := by decide +kernel
theorem dX11_step_182 : decode cX11_step 182 = .ok (.iload_n 1, 1) := by decide +kernel
theorem dX11_step_183 : decode cX11_step 183 = .ok (.bipush 59, 2) := by decide +kernel
theorem dX11_step_185 : decode cX11_step 185 = .ok (.if_icmp .ne 7, 3) := by decide +kernel
theorem dX11_step_188 : decode cX11_step 188 = .ok (.iconst 4, 1) := by decide +kernel
theorem dX11_step_189 : decode cX11_step 189 = .ok (.goto 4, 3) := by decide +kernel
theorem dX11_step_192 : decode cX11_step 192 = .ok (.iconst 0, 1) := by decide +kernel
theorem dX11_step_193 : decode cX11_step 193 = .ok (.putfield 237, 3) := by decide +kernel
theorem dX11_step_196 : decode cX11_step 196 = .ok (.aload_n 0, 1) := by decide +kernel
theorem dX11_step_197 : decode cX11_step 197 = .ok (.aload_n 0, 1) := by decide +kernel
theorem dX11_step_198 : decode cX11_step 198 = .ok (.getfield 228, 3) := by decide +kernel
theorem dX11_step_201 : decode cX11_step 201 = .ok (.putfield 246, 3) := by decide +kernel
theorem dX11_step_204 : decode cX11_step 204 = .ok (.return_, 1) := by decide +kernel
theorem dX11_bad_0 : decode cX11_bad 0 = .ok (.aload_n 0, 1) := by decide +kernel
theorem dX11_bad_1 : decode cX11_bad 1 = .ok (.getfield 249, 3) := by decide +kernel
theorem dX11_bad_4 : decode cX11_bad 4 = .ok (.ifCond .ne 16, 3) := by decide +kernel
theorem dX11_bad_7 : decode cX11_bad 7 = .ok (.aload_n 0, 1) := by decide +kernel
theorem dX11_bad_8 : decode cX11_bad 8 = .ok (.iload_n 1, 1) := by decide +kernel
theorem dX11_bad_9 : decode cX11_bad 9 = .ok (.putfield 249, 3) := by decide +kernel
theorem dX11_bad_12 : decode cX11_bad 12 = .ok (.aload_n 0, 1) := by decide +kernel
theorem dX11_bad_13 : decode cX11_bad 13 = .ok (.aload_n 0, 1) := by decide +kernel
theorem dX11_bad_14 : decode cX11_bad 14 = .ok (.getfield 234, 3) := by decide +kernel
theorem dX11_bad_17 : decode cX11_bad 17 = .ok (.putfield 252, 3) := by decide +kernel
theorem dX11_bad_20 : decode cX11_bad 20 = .ok (.return_, 1) := by decide +kernel
theorem dX11_must_0 : decode cX11_must 0 = .ok (.iload_n 1, 1) := by decide +kernel
theorem dX11_must_1 : decode cX11_must 1 = .ok (.ifCond .ne 8, 3) := by decide +kernel
theorem dX11_must_4 : decode cX11_must 4 = .ok (.aload_n 0, 1) := by decide +kernel
theorem dX11_must_5 : decode cX11_must 5 = .ok (.iconst 1, 1) := by decide +kernel
theorem dX11_must_6 : decode cX11_must 6 = .ok (.invokevirtual 255, 3) := by decide +kernel
theorem dX11_must_9 : decode cX11_must 9 = .ok (.aload_n 0, 1) := by decide +kernel
theorem dX11_must_10 : decode cX11_must 10 = .ok (.getfield 249, 3) := by decide +kernel
theorem dX11_must_13 : decode cX11_must 13 = .ok (.ifCond .ne 7, 3) := by decide +kernel
theorem dX11_must_16 : decode cX11_must 16 = .ok (.aload_n 0, 1) := by decide +kernel
theorem dX11_must_17 : decode cX11_must 17 = .ok (.invokevirtual 259, 3) := by decide +kernel
theorem dX11_must_20 : decode cX11_must 20 = .ok (.return_, 1) := by decide +kernel
theorem dX11_word_0 : decode cX11_word 0 = .ok (.lconst 0, 1) := by decide +kernel
theorem dX11_word_1 : decode cX11_word 1 = .ok (.lstore_n 1, 1) := by decide +kernel
theorem dX11_word_2 : decode cX11_word 2 = .ok (.aload_n 0, 1) := by decide +kernel
theorem dX11_word_3 : decode cX11_word 3 = .ok (.getfield 234, 3) := by decide +kernel
theorem dX11_word_6 : decode cX11_word 6 = .ok (.istore_n 3, 1) := by decide +kernel
theorem dX11_word_7 : decode cX11_word 7 = .ok (.iload_n 3, 1) := by decide +kernel
theorem dX11_word_8 : decode cX11_word 8 = .ok (.aload_n 0, 1) := by decide +kernel
theorem dX11_word_9 : decode cX11_word 9 = .ok (.getfield 246, 3) := by decide +kernel
theorem dX11_word_12 : decode cX11_word 12 = .ok (.if_icmp .ge 44, 3) := by decide +kernel
theorem dX11_word_15 : decode cX11_word 15 = .ok (.aload_n 0, 1) := by decide +kernel
theorem dX11_word_16 : decode cX11_word 16 = .ok (.getfield 237, 3) := by decide +kernel
theorem dX11_word_19 : decode cX11_word 19 = .ok (.iconst 2, 1) := by decide +kernel
theorem dX11_word_20 : decode cX11_word 20 = .ok (.if_icmp .ne 36, 3) := by decide +kernel
theorem dX11_word_23 : decode cX11_word 23 = .ok (.aload_n 0, 1) := by decide +kernel
theorem dX11_word_24 : decode cX11_word 24 = .ok (.getfield 246, 3) := by decide +kernel
theorem dX11_word_27 : decode cX11_word 27 = .ok (.aload_n 0, 1) := by decide +kernel
theorem dX11_word_28 : decode cX11_word 28 = .ok (.getfield 234, 3) := by decide +kernel
theorem dX11_word_31 : decode cX11_word 31 = .ok (.isub, 1) := by decide +kernel
theorem dX11_word_32 : decode cX11_word 32 = .ok (.bipush 8, 2) := by decide +kernel
theorem dX11_word_34 : decode cX11_word 34 = .ok (.if_icmp .ge 22, 3) := by decide +kernel
theorem dX11_word_37 : decode cX11_word 37 = .ok (.lload_n 1, 1) := by decide +kernel
theorem dX11_word_38 : decode cX11_word 38 = .ok (.bipush 8, 2) := by decide +kernel
theorem dX11_word_40 : decode cX11_word 40 = .ok (.lshl, 1) := by decide +kernel
theorem dX11_word_41 : decode cX11_word 41 = .ok (.aload_n 0, 1) := by decide +kernel
theorem dX11_word_42 : decode cX11_word 42 = .ok (.getfield 72, 3) := by decide +kernel
theorem dX11_word_45 : decode cX11_word 45 = .ok (.iload_n 3, 1) := by decide +kernel
theorem dX11_word_46 : decode cX11_word 46 = .ok (.iaload, 1) := by decide +kernel
theorem dX11_word_47 : decode cX11_word 47 = .ok (.i2l, 1) := by decide +kernel
theorem dX11_word_48 : decode cX11_word 48 = .ok (.lor, 1) := by decide +kernel
theorem dX11_word_49 : decode cX11_word 49 = .ok (.lstore_n 1, 1) := by decide +kernel
theorem dX11_word_50 : decode cX11_word 50 = .ok (.iinc 3 1, 3) := by decide +kernel
theorem dX11_word_53 : decode cX11_word 53 = .ok (.goto (-46), 3) := by decide +kernel
theorem dX11_word_56 : decode cX11_word 56 = .ok (.lload_n 1, 1) := by decide +kernel
theorem dX11_word_57 : decode cX11_word 57 = .ok (.lreturn, 1) := by decide +kernel
theorem dX11_numberTo_0 : decode cX11_numberTo 0 = .ok (.aload_n 0, 1) := by decide +kernel
theorem dX11_numberTo_1 : decode cX11_numberTo 1 = .ok (.getfield 249, 3) := by decide +kernel
theorem dX11_numberTo_4 : decode cX11_numberTo 4 = .ok (.ifCond .le 5, 3) := by decide +kernel
theorem dX11_numberTo_7 : decode cX11_numberTo 7 = .ok (.iconst 0, 1) := by decide +kernel
theorem dX11_numberTo_8 : decode cX11_numberTo 8 = .ok (.ireturn, 1) := by decide +kernel
theorem dX11_numberTo_9 : decode cX11_numberTo 9 = .ok (.iconst 0, 1) := by decide +kernel
theorem dX11_numberTo_10 : decode cX11_numberTo 10 = .ok (.istore_n 2, 1) := by decide +kernel
theorem dX11_numberTo_11 : decode cX11_numberTo 11 = .ok (.aload_n 0, 1) := by decide +kernel
theorem dX11_numberTo_12 : decode cX11_numberTo 12 = .ok (.getfield 234, 3) := by decide +kernel
theorem dX11_numberTo_15 : decode cX11_numberTo 15 = .ok (.istore_n 3, 1) := by decide +kernel
theorem dX11_numberTo_16 : decode cX11_numberTo 16 = .ok (.iload_n 3, 1) := by decide +kernel
theorem dX11_numberTo_17 : decode cX11_numberTo 17 = .ok (.aload_n 0, 1) := by decide +kernel
theorem dX11_numberTo_18 : decode cX11_numberTo 18 = .ok (.getfield 246, 3) := by decide +kernel
theorem dX11_numberTo_21 : decode cX11_numberTo 21 = .ok (.if_icmp .ge 32, 3) := by decide +kernel
theorem dX11_numberTo_24 : decode cX11_numberTo 24 = .ok (.aload_n 0, 1) := by decide +kernel
theorem dX11_numberTo_25 : decode cX11_numberTo 25 = .ok (.getfield 237, 3) := by decide +kernel
theorem dX11_numberTo_28 : decode cX11_numberTo 28 = .ok (.iconst 3, 1) := by decide +kernel
theorem dX11_numberTo_29 : decode cX11_numberTo 29 = .ok (.if_icmp .ne 24, 3) := by decide +kernel
theorem dX11_numberTo_32 : decode cX11_numberTo 32 = .ok (.bipush 10, 2) := by decide +kernel
theorem dX11_numberTo_34 : decode cX11_numberTo 34 = .ok (.iload_n 2, 1) := by decide +kernel
theorem dX11_numberTo_35 : decode cX11_numberTo 35 = .ok (.imul, 1) := by decide +kernel
theorem dX11_numberTo_36 : decode cX11_numberTo 36 = .ok (.aload_n 0, 1) := by decide +kernel
theorem dX11_numberTo_37 : decode cX11_numberTo 37 = .ok (.getfield 72, 3) := by decide +kernel
theorem dX11_numberTo_40 : decode cX11_numberTo 40 = .ok (.iload_n 3, 1) := by decide +kernel
theorem dX11_numberTo_41 : decode cX11_numberTo 41 = .ok (.iaload, 1) := by decide +kernel
theorem dX11_numberTo_42 : decode cX11_numberTo 42 = .ok (.iadd, 1) := by decide +kernel
theorem dX11_numberTo_43 : decode cX11_numberTo 43 = .ok (.bipush 48, 2) := by decide +kernel
theorem dX11_numberTo_45 : decode cX11_numberTo 45 = .ok (.isub, 1) := by decide +kernel
theorem dX11_numberTo_46 : decode cX11_numberTo 46 = .ok (.istore_n 2, 1) := by decide +kernel
theorem dX11_numberTo_47 : decode cX11_numberTo 47 = .ok (.iinc 3 1, 3) := by decide +kernel
theorem dX11_numberTo_50 : decode cX11_numberTo 50 = .ok (.goto (-34), 3) := by decide +kernel
theorem dX11_numberTo_53 : decode cX11_numberTo 53 = .ok (.aload_n 0, 1) := by decide +kernel
theorem dX11_numberTo_54 : decode cX11_numberTo 54 = .ok (.getfield 237, 3) := by decide +kernel
theorem dX11_numberTo_57 : decode cX11_numberTo 57 = .ok (.iconst 3, 1) := by decide +kernel
theorem dX11_numberTo_58 : decode cX11_numberTo 58 = .ok (.if_icmp .ne 13, 3) := by decide +kernel
theorem dX11_numberTo_61 : decode cX11_numberTo 61 = .ok (.iload_n 2, 1) := by decide +kernel
theorem dX11_numberTo_62 : decode cX11_numberTo 62 = .ok (.iload_n 1, 1) := by decide +kernel
theorem dX11_numberTo_63 : decode cX11_numberTo 63 = .ok (.if_icmp .le 8, 3) := by decide +kernel
theorem dX11_numberTo_66 : decode cX11_numberTo 66 = .ok (.aload_n 0, 1) := by decide +kernel
theorem dX11_numberTo_67 : decode cX11_numberTo 67 = .ok (.iconst 2, 1) := by decide +kernel
theorem dX11_numberTo_68 : decode cX11_numberTo 68 = .ok (.invokevirtual 255, 3) := by decide +kernel
theorem dX11_numberTo_71 : decode cX11_numberTo 71 = .ok (.aload_n 0, 1) := by decide +kernel
theorem dX11_numberTo_72 : decode cX11_numberTo 72 = .ok (.aload_n 0, 1) := by decide +kernel
theorem dX11_numberTo_73 : decode cX11_numberTo 73 = .ok (.getfield 237, 3) := by decide +kernel
theorem dX11_numberTo_76 : decode cX11_numberTo 76 = .ok (.iconst 3, 1) := by decide +kernel
theorem dX11_numberTo_77 : decode cX11_numberTo 77 = .ok (.if_icmp .ne 7, 3) := by decide +kernel
theorem dX11_numberTo_80 : decode cX11_numberTo 80 = .ok (.iconst 1, 1) := by decide +kernel
theorem dX11_numberTo_81 : decode cX11_numberTo 81 = .ok (.goto 4, 3) := by decide +kernel
theorem dX11_numberTo_84 : decode cX11_numberTo 84 = .ok (.iconst 0, 1) := by decide +kernel
theorem dX11_numberTo_85 : decode cX11_numberTo 85 = .ok (.invokevirtual 262, 3) := by decide +kernel
theorem dX11_numberTo_88 : decode cX11_numberTo 88 = .ok (.iload_n 2, 1) := by decide +kernel
theorem dX11_numberTo_89 : decode cX11_numberTo 89 = .ok (.ireturn, 1) := by decide +kernel
theorem dX11_askOfWord_0 : decode cX11_askOfWord 0 = .ok (.aload_n 0, 1) := by decide +kernel
theorem dX11_askOfWord_1 : decode cX11_askOfWord 1 = .ok (.invokevirtual 266, 3) := by decide +kernel
theorem dX11_askOfWord_4 : decode cX11_askOfWord 4 = .ok (.lstore_n 1, 1) := by decide +kernel
theorem dX11_askOfWord_5 : decode cX11_askOfWord 5 = .ok (.lload_n 1, 1) := by decide +kernel
theorem dX11_askOfWord_6 : decode cX11_askOfWord 6 = .ok (.ldc2_w 270, 3) := by decide +kernel
theorem dX11_askOfWord_9 : decode cX11_askOfWord 9 = .ok (.lcmp, 1) := by decide +kernel
theorem dX11_askOfWord_10 : decode cX11_askOfWord 10 = .ok (.ifCond .ne 7, 3) := by decide +kernel
theorem dX11_askOfWord_13 : decode cX11_askOfWord 13 = .ok (.iconst 0, 1) := by decide +kernel
theorem dX11_askOfWord_14 : decode cX11_askOfWord 14 = .ok (.goto 29, 3) := by decide +kernel
theorem dX11_askOfWord_17 : decode cX11_askOfWord 17 = .ok (.lload_n 1, 1) := by decide +kernel
theorem dX11_askOfWord_18 : decode cX11_askOfWord 18 = .ok (.ldc2_w 272, 3) := by decide +kernel
theorem dX11_askOfWord_21 : decode cX11_askOfWord 21 = .ok (.lcmp, 1) := by decide +kernel
theorem dX11_askOfWord_22 : decode cX11_askOfWord 22 = .ok (.ifCond .ne 7, 3) := by decide +kernel
theorem dX11_askOfWord_25 : decode cX11_askOfWord 25 = .ok (.iconst 1, 1) := by decide +kernel
theorem dX11_askOfWord_26 : decode cX11_askOfWord 26 = .ok (.goto 17, 3) := by decide +kernel
theorem dX11_askOfWord_29 : decode cX11_askOfWord 29 = .ok (.lload_n 1, 1) := by decide +kernel
theorem dX11_askOfWord_30 : decode cX11_askOfWord 30 = .ok (.ldc2_w 274, 3) := by decide +kernel
theorem dX11_askOfWord_33 : decode cX11_askOfWord 33 = .ok (.lcmp, 1) := by decide +kernel
theorem dX11_askOfWord_34 : decode cX11_askOfWord 34 = .ok (.ifCond .ne 7, 3) := by decide +kernel
theorem dX11_askOfWord_37 : decode cX11_askOfWord 37 = .ok (.iconst 2, 1) := by decide +kernel
theorem dX11_askOfWord_38 : decode cX11_askOfWord 38 = .ok (.goto 5, 3) := by decide +kernel
theorem dX11_askOfWord_41 : decode cX11_askOfWord 41 = .ok (.ldc 93, 2) := by decide +kernel
theorem dX11_askOfWord_43 : decode cX11_askOfWord 43 = .ok (.ireturn, 1) := by decide +kernel
theorem dX11_readDoor_0 : decode cX11_readDoor 0 = .ok (.aload_n 0, 1) := by decide +kernel
theorem dX11_readDoor_1 : decode cX11_readDoor 1 = .ok (.iconst 3, 1) := by decide +kernel
theorem dX11_readDoor_2 : decode cX11_readDoor 2 = .ok (.invokevirtual 276, 3) := by decide +kernel
theorem dX11_readDoor_5 : decode cX11_readDoor 5 = .ok (.istore_n 1, 1) := by decide +kernel
theorem dX11_readDoor_6 : decode cX11_readDoor 6 = .ok (.iconst 0, 1) := by decide +kernel
theorem dX11_readDoor_7 : decode cX11_readDoor 7 = .ok (.istore_n 2, 1) := by decide +kernel
theorem dX11_readDoor_8 : decode cX11_readDoor 8 = .ok (.aload_n 0, 1) := by decide +kernel
theorem dX11_readDoor_9 : decode cX11_readDoor 9 = .ok (.getfield 249, 3) := by decide +kernel
theorem dX11_readDoor_12 : decode cX11_readDoor 12 = .ok (.ifCond .ne 116, 3) := by decide +kernel
theorem dX11_readDoor_15 : decode cX11_readDoor 15 = .ok (.aload_n 0, 1) := by decide +kernel
theorem dX11_readDoor_16 : decode cX11_readDoor 16 = .ok (.invokevirtual 279, 3) := by decide +kernel
theorem dX11_readDoor_19 : decode cX11_readDoor 19 = .ok (.ldc 93, 2) := by decide +kernel
theorem dX11_readDoor_21 : decode cX11_readDoor 21 = .ok (.if_icmp .eq 107, 3) := by decide +kernel
theorem dX11_readDoor_24 : decode cX11_readDoor 24 = .ok (.aload_n 0, 1) := by decide +kernel
theorem dX11_readDoor_25 : decode cX11_readDoor 25 = .ok (.invokevirtual 279, 3) := by decide +kernel
theorem dX11_readDoor_28 : decode cX11_readDoor 28 = .ok (.istore_n 3, 1) := by decide +kernel
theorem dX11_readDoor_29 : decode cX11_readDoor 29 = .ok (.iload_n 2, 1) := by decide +kernel
theorem dX11_readDoor_30 : decode cX11_readDoor 30 = .ok (.bipush 8, 2) := by decide +kernel
theorem dX11_readDoor_32 : decode cX11_readDoor 32 = .ok (.if_icmp .ne 8, 3) := by decide +kernel
theorem dX11_readDoor_35 : decode cX11_readDoor 35 = .ok (.aload_n 0, 1) := by decide +kernel
theorem dX11_readDoor_36 : decode cX11_readDoor 36 = .ok (.iconst 3, 1) := by decide +kernel
theorem dX11_readDoor_37 : decode cX11_readDoor 37 = .ok (.invokevirtual 255, 3) := by decide +kernel
theorem dX11_readDoor_40 : decode cX11_readDoor 40 = .ok (.aload_n 0, 1) := by decide +kernel
theorem dX11_readDoor_41 : decode cX11_readDoor 41 = .ok (.iconst 1, 1) := by decide +kernel
theorem dX11_readDoor_42 : decode cX11_readDoor 42 = .ok (.invokevirtual 262, 3) := by decide +kernel
theorem dX11_readDoor_45 : decode cX11_readDoor 45 = .ok (.aload_n 0, 1) := by decide +kernel
theorem dX11_readDoor_46 : decode cX11_readDoor 46 = .ok (.iconst 3, 1) := by decide +kernel
theorem dX11_readDoor_47 : decode cX11_readDoor 47 = .ok (.invokevirtual 276, 3) := by decide +kernel
theorem dX11_readDoor_50 : decode cX11_readDoor 50 = .ok (.istore 4, 2) := by decide +kernel
theorem dX11_readDoor_52 : decode cX11_readDoor 52 = .ok (.iload_n 3, 1) := by decide +kernel
theorem dX11_readDoor_53 : decode cX11_readDoor 53 = .ok (.iconst 2, 1) := by decide +kernel
theorem dX11_readDoor_54 : decode cX11_readDoor 54 = .ok (.if_icmp .ne 13, 3) := by decide +kernel
theorem dX11_readDoor_57 : decode cX11_readDoor 57 = .ok (.aload_n 0, 1) := by decide +kernel
theorem dX11_readDoor_58 : decode cX11_readDoor 58 = .ok (.sipush 999, 3) := by decide +kernel
theorem dX11_readDoor_61 : decode cX11_readDoor 61 = .ok (.invokevirtual 276, 3) := by decide +kernel
theorem dX11_readDoor_64 : decode cX11_readDoor 64 = .ok (.goto 4, 3) := by decide +kernel
theorem dX11_readDoor_67 : decode cX11_readDoor 67 = .ok (.iconst 0, 1) := by decide +kernel
theorem dX11_readDoor_68 : decode cX11_readDoor 68 = .ok (.istore 5, 2) := by decide +kernel
theorem dX11_readDoor_70 : decode cX11_readDoor 70 = .ok (.aload_n 0, 1) := by decide +kernel
theorem dX11_readDoor_71 : decode cX11_readDoor 71 = .ok (.getfield 249, 3) := by decide +kernel
theorem dX11_readDoor_74 : decode cX11_readDoor 74 = .ok (.ifCond .ne 48, 3) := by decide +kernel
theorem dX11_readDoor_77 : decode cX11_readDoor 77 = .ok (.aload_n 0, 1) := by decide +kernel
theorem dX11_readDoor_78 : decode cX11_readDoor 78 = .ok (.getfield 283, 3) := by decide +kernel
theorem dX11_readDoor_81 : decode cX11_readDoor 81 = .ok (.ifCond .eq 41, 3) := by decide +kernel
theorem dX11_readDoor_84 : decode cX11_readDoor 84 = .ok (.aload_n 0, 1) := by decide +kernel
theorem dX11_readDoor_85 : decode cX11_readDoor 85 = .ok (.getfield 63, 3) := by decide +kernel
theorem dX11_readDoor_88 : decode cX11_readDoor 88 = .ok (.bipush 8, 2) := by decide +kernel
theorem dX11_readDoor_90 : decode cX11_readDoor 90 = .ok (.iload_n 1, 1) := by decide +kernel
theorem dX11_readDoor_91 : decode cX11_readDoor 91 = .ok (.imul, 1) := by decide +kernel
theorem dX11_readDoor_92 : decode cX11_readDoor 92 = .ok (.iload_n 2, 1) := by decide +kernel
theorem dX11_readDoor_93 : decode cX11_readDoor 93 = .ok (.iadd, 1) := by decide +kernel
theorem dX11_readDoor_94 : decode cX11_readDoor 94 = .ok (.iload_n 3, 1) := by decide +kernel
theorem dX11_readDoor_95 : decode cX11_readDoor 95 = .ok (.iastore, 1) := by decide +kernel
theorem dX11_readDoor_96 : decode cX11_readDoor 96 = .ok (.aload_n 0, 1) := by decide +kernel
theorem dX11_readDoor_97 : decode cX11_readDoor 97 = .ok (.getfield 66, 3) := by decide +kernel
theorem dX11_readDoor_100 : decode cX11_readDoor 100 = .ok (.bipush 8, 2) := by decide +kernel
theorem dX11_readDoor_102 : decode cX11_readDoor 102 = .ok (.iload_n 1, 1) := by decide +kernel
theorem dX11_readDoor_103 : decode cX11_readDoor 103 = .ok (.imul, 1) := by decide +kernel
theorem dX11_readDoor_104 : decode cX11_readDoor 104 = .ok (.iload_n 2, 1) := by decide +kernel
theorem dX11_readDoor_105 : decode cX11_readDoor 105 = .ok (.iadd, 1) := by decide +kernel
theorem dX11_readDoor_106 : decode cX11_readDoor 106 = .ok (.iload 4, 2) := by decide +kernel
theorem dX11_readDoor_108 : decode cX11_readDoor 108 = .ok (.iastore, 1) := by decide +kernel
theorem dX11_readDoor_109 : decode cX11_readDoor 109 = .ok (.aload_n 0, 1) := by decide +kernel
theorem dX11_readDoor_110 : decode cX11_readDoor 110 = .ok (.getfield 69, 3) := by decide +kernel
theorem dX11_readDoor_113 : decode cX11_readDoor 113 = .ok (.bipush 8, 2) := by decide +kernel
theorem dX11_readDoor_115 : decode cX11_readDoor 115 = .ok (.iload_n 1, 1) := by decide +kernel
theorem dX11_readDoor_116 : decode cX11_readDoor 116 = .ok (.imul, 1) := by decide +kernel
theorem dX11_readDoor_117 : decode cX11_readDoor 117 = .ok (.iload_n 2, 1) := by decide +kernel
theorem dX11_readDoor_118 : decode cX11_readDoor 118 = .ok (.iadd, 1) := by decide +kernel
theorem dX11_readDoor_119 : decode cX11_readDoor 119 = .ok (.iload 5, 2) := by decide +kernel
theorem dX11_readDoor_121 : decode cX11_readDoor 121 = .ok (.iastore, 1) := by decide +kernel
theorem dX11_readDoor_122 : decode cX11_readDoor 122 = .ok (.iinc 2 1, 3) := by decide +kernel
theorem dX11_readDoor_125 : decode cX11_readDoor 125 = .ok (.goto (-117), 3) := by decide +kernel
theorem dX11_readDoor_128 : decode cX11_readDoor 128 = .ok (.aload_n 0, 1) := by decide +kernel
theorem dX11_readDoor_129 : decode cX11_readDoor 129 = .ok (.getfield 283, 3) := by decide +kernel
theorem dX11_readDoor_132 : decode cX11_readDoor 132 = .ok (.ifCond .eq 10, 3) := by decide +kernel
theorem dX11_readDoor_135 : decode cX11_readDoor 135 = .ok (.aload_n 0, 1) := by decide +kernel
theorem dX11_readDoor_136 : decode cX11_readDoor 136 = .ok (.getfield 60, 3) := by decide +kernel
theorem dX11_readDoor_139 : decode cX11_readDoor 139 = .ok (.iload_n 1, 1) := by decide +kernel
theorem dX11_readDoor_140 : decode cX11_readDoor 140 = .ok (.iload_n 2, 1) := by decide +kernel
theorem dX11_readDoor_141 : decode cX11_readDoor 141 = .ok (.iastore, 1) := by decide +kernel
theorem dX11_readDoor_142 : decode cX11_readDoor 142 = .ok (.return_, 1) := by decide +kernel
theorem dX11_readRight_0 : decode cX11_readRight 0 = .ok (.aload_n 0, 1) := by decide +kernel
theorem dX11_readRight_1 : decode cX11_readRight 1 = .ok (.iconst 3, 1) := by decide +kernel
theorem dX11_readRight_2 : decode cX11_readRight 2 = .ok (.invokevirtual 276, 3) := by decide +kernel
theorem dX11_readRight_5 : decode cX11_readRight 5 = .ok (.istore_n 1, 1) := by decide +kernel
theorem dX11_readRight_6 : decode cX11_readRight 6 = .ok (.iconst 0, 1) := by decide +kernel
theorem dX11_readRight_7 : decode cX11_readRight 7 = .ok (.istore_n 2, 1) := by decide +kernel
theorem dX11_readRight_8 : decode cX11_readRight 8 = .ok (.aload_n 0, 1) := by decide +kernel
theorem dX11_readRight_9 : decode cX11_readRight 9 = .ok (.getfield 249, 3) := by decide +kernel
theorem dX11_readRight_12 : decode cX11_readRight 12 = .ok (.ifCond .ne 24, 3) := by decide +kernel
theorem dX11_readRight_15 : decode cX11_readRight 15 = .ok (.aload_n 0, 1) := by decide +kernel
theorem dX11_readRight_16 : decode cX11_readRight 16 = .ok (.getfield 237, 3) := by decide +kernel
theorem dX11_readRight_19 : decode cX11_readRight 19 = .ok (.iconst 3, 1) := by decide +kernel
theorem dX11_readRight_20 : decode cX11_readRight 20 = .ok (.if_icmp .ne 16, 3) := by decide +kernel
theorem dX11_readRight_23 : decode cX11_readRight 23 = .ok (.iload_n 2, 1) := by decide +kernel
theorem dX11_readRight_24 : decode cX11_readRight 24 = .ok (.iconst 1, 1) := by decide +kernel
theorem dX11_readRight_25 : decode cX11_readRight 25 = .ok (.aload_n 0, 1) := by decide +kernel
theorem dX11_readRight_26 : decode cX11_readRight 26 = .ok (.iconst 3, 1) := by decide +kernel
theorem dX11_readRight_27 : decode cX11_readRight 27 = .ok (.invokevirtual 276, 3) := by decide +kernel
theorem dX11_readRight_30 : decode cX11_readRight 30 = .ok (.ishl, 1) := by decide +kernel
theorem dX11_readRight_31 : decode cX11_readRight 31 = .ok (.ior, 1) := by decide +kernel
theorem dX11_readRight_32 : decode cX11_readRight 32 = .ok (.istore_n 2, 1) := by decide +kernel
theorem dX11_readRight_33 : decode cX11_readRight 33 = .ok (.goto (-25), 3) := by decide +kernel
theorem dX11_readRight_36 : decode cX11_readRight 36 = .ok (.aload_n 0, 1) := by decide +kernel
theorem dX11_readRight_37 : decode cX11_readRight 37 = .ok (.getfield 283, 3) := by decide +kernel
theorem dX11_readRight_40 : decode cX11_readRight 40 = .ok (.ifCond .eq 10, 3) := by decide +kernel
theorem dX11_readRight_43 : decode cX11_readRight 43 = .ok (.aload_n 0, 1) := by decide +kernel
theorem dX11_readRight_44 : decode cX11_readRight 44 = .ok (.getfield 57, 3) := by decide +kernel
theorem dX11_readRight_47 : decode cX11_readRight 47 = .ok (.iload_n 1, 1) := by decide +kernel
theorem dX11_readRight_48 : decode cX11_readRight 48 = .ok (.iload_n 2, 1) := by decide +kernel
theorem dX11_readRight_49 : decode cX11_readRight 49 = .ok (.iastore, 1) := by decide +kernel
theorem dX11_readRight_50 : decode cX11_readRight 50 = .ok (.return_, 1) := by decide +kernel
theorem dX11_readAll_0 : decode cX11_readAll 0 = .ok (.aload_n 0, 1) := by decide +kernel
theorem dX11_readAll_1 : decode cX11_readAll 1 = .ok (.iconst 0, 1) := by decide +kernel
theorem dX11_readAll_2 : decode cX11_readAll 2 = .ok (.putfield 228, 3) := by decide +kernel
theorem dX11_readAll_5 : decode cX11_readAll 5 = .ok (.aload_n 0, 1) := by decide +kernel
theorem dX11_readAll_6 : decode cX11_readAll 6 = .ok (.iconst 0, 1) := by decide +kernel
theorem dX11_readAll_7 : decode cX11_readAll 7 = .ok (.putfield 287, 3) := by decide +kernel
theorem dX11_readAll_10 : decode cX11_readAll 10 = .ok (.aload_n 0, 1) := by decide +kernel
theorem dX11_readAll_11 : decode cX11_readAll 11 = .ok (.invokevirtual 259, 3) := by decide +kernel
theorem dX11_readAll_14 : decode cX11_readAll 14 = .ok (.aload_n 0, 1) := by decide +kernel
theorem dX11_readAll_15 : decode cX11_readAll 15 = .ok (.getfield 249, 3) := by decide +kernel
theorem dX11_readAll_18 : decode cX11_readAll 18 = .ok (.ifCond .ne 111, 3) := by decide +kernel
theorem dX11_readAll_21 : decode cX11_readAll 21 = .ok (.aload_n 0, 1) := by decide +kernel
theorem dX11_readAll_22 : decode cX11_readAll 22 = .ok (.getfield 237, 3) := by decide +kernel
theorem dX11_readAll_25 : decode cX11_readAll 25 = .ok (.iconst 1, 1) := by decide +kernel
theorem dX11_readAll_26 : decode cX11_readAll 26 = .ok (.if_icmp .eq 103, 3) := by decide +kernel
theorem dX11_readAll_29 : decode cX11_readAll 29 = .ok (.aload_n 0, 1) := by decide +kernel
theorem dX11_readAll_30 : decode cX11_readAll 30 = .ok (.invokevirtual 266, 3) := by decide +kernel
theorem dX11_readAll_33 : decode cX11_readAll 33 = .ok (.lstore_n 1, 1) := by decide +kernel
theorem dX11_readAll_34 : decode cX11_readAll 34 = .ok (.aload_n 0, 1) := by decide +kernel
theorem dX11_readAll_35 : decode cX11_readAll 35 = .ok (.lload_n 1, 1) := by decide +kernel
theorem dX11_readAll_36 : decode cX11_readAll 36 = .ok (.ldc2_w 290, 3) := by decide +kernel
theorem dX11_readAll_39 : decode cX11_readAll 39 = .ok (.lcmp, 1) := by decide +kernel
theorem dX11_readAll_40 : decode cX11_readAll 40 = .ok (.ifCond .eq 11, 3) := by decide +kernel
theorem dX11_readAll_43 : decode cX11_readAll 43 = .ok (.lload_n 1, 1) := by decide +kernel
theorem dX11_readAll_44 : decode cX11_readAll 44 = .ok (.ldc2_w 292, 3) := by decide +kernel
theorem dX11_readAll_47 : decode cX11_readAll 47 = .ok (.lcmp, 1) := by decide +kernel
theorem dX11_readAll_48 : decode cX11_readAll 48 = .ok (.ifCond .ne 7, 3) := by decide +kernel
theorem dX11_readAll_51 : decode cX11_readAll 51 = .ok (.iconst 1, 1) := by decide +kernel
theorem dX11_readAll_52 : decode cX11_readAll 52 = .ok (.goto 4, 3) := by decide +kernel
theorem dX11_readAll_55 : decode cX11_readAll 55 = .ok (.iconst 0, 1) := by decide +kernel
theorem dX11_readAll_56 : decode cX11_readAll 56 = .ok (.invokevirtual 262, 3) := by decide +kernel
theorem dX11_readAll_59 : decode cX11_readAll 59 = .ok (.aload_n 0, 1) := by decide +kernel
theorem dX11_readAll_60 : decode cX11_readAll 60 = .ok (.getfield 249, 3) := by decide +kernel
theorem dX11_readAll_63 : decode cX11_readAll 63 = .ok (.ifCond .ne 18, 3) := by decide +kernel
theorem dX11_readAll_66 : decode cX11_readAll 66 = .ok (.lload_n 1, 1) := by decide +kernel
theorem dX11_readAll_67 : decode cX11_readAll 67 = .ok (.ldc2_w 290, 3) := by decide +kernel
theorem dX11_readAll_70 : decode cX11_readAll 70 = .ok (.lcmp, 1) := by decide +kernel
theorem dX11_readAll_71 : decode cX11_readAll 71 = .ok (.ifCond .ne 10, 3) := by decide +kernel
theorem dX11_readAll_74 : decode cX11_readAll 74 = .ok (.aload_n 0, 1) := by decide +kernel
theorem dX11_readAll_75 : decode cX11_readAll 75 = .ok (.invokevirtual 294, 3) := by decide +kernel
theorem dX11_readAll_78 : decode cX11_readAll 78 = .ok (.goto 14, 3) := by decide +kernel
theorem dX11_readAll_81 : decode cX11_readAll 81 = .ok (.aload_n 0, 1) := by decide +kernel
theorem dX11_readAll_82 : decode cX11_readAll 82 = .ok (.getfield 249, 3) := by decide +kernel
theorem dX11_readAll_85 : decode cX11_readAll 85 = .ok (.ifCond .ne 7, 3) := by decide +kernel
theorem dX11_readAll_88 : decode cX11_readAll 88 = .ok (.aload_n 0, 1) := by decide +kernel
theorem dX11_readAll_89 : decode cX11_readAll 89 = .ok (.invokevirtual 297, 3) := by decide +kernel
theorem dX11_readAll_92 : decode cX11_readAll 92 = .ok (.aload_n 0, 1) := by decide +kernel
theorem dX11_readAll_93 : decode cX11_readAll 93 = .ok (.getfield 249, 3) := by decide +kernel
theorem dX11_readAll_96 : decode cX11_readAll 96 = .ok (.ifCond .ne 20, 3) := by decide +kernel
theorem dX11_readAll_99 : decode cX11_readAll 99 = .ok (.aload_n 0, 1) := by decide +kernel
theorem dX11_readAll_100 : decode cX11_readAll 100 = .ok (.aload_n 0, 1) := by decide +kernel
theorem dX11_readAll_101 : decode cX11_readAll 101 = .ok (.getfield 237, 3) := by decide +kernel
theorem dX11_readAll_104 : decode cX11_readAll 104 = .ok (.iconst 4, 1) := by decide +kernel
theorem dX11_readAll_105 : decode cX11_readAll 105 = .ok (.if_icmp .ne 7, 3) := by decide +kernel
theorem dX11_readAll_108 : decode cX11_readAll 108 = .ok (.iconst 1, 1) := by decide +kernel
theorem dX11_readAll_109 : decode cX11_readAll 109 = .ok (.goto 4, 3) := by decide +kernel
theorem dX11_readAll_112 : decode cX11_readAll 112 = .ok (.iconst 0, 1) := by decide +kernel
theorem dX11_readAll_113 : decode cX11_readAll 113 = .ok (.invokevirtual 262, 3) := by decide +kernel
theorem dX11_readAll_116 : decode cX11_readAll 116 = .ok (.aload_n 0, 1) := by decide +kernel
theorem dX11_readAll_117 : decode cX11_readAll 117 = .ok (.dup, 1) := by decide +kernel
theorem dX11_readAll_118 : decode cX11_readAll 118 = .ok (.getfield 287, 3) := by decide +kernel
theorem dX11_readAll_121 : decode cX11_readAll 121 = .ok (.iconst 1, 1) := by decide +kernel
theorem dX11_readAll_122 : decode cX11_readAll 122 = .ok (.iadd, 1) := by decide +kernel
theorem dX11_readAll_123 : decode cX11_readAll 123 = .ok (.putfield 287, 3) := by decide +kernel
theorem dX11_readAll_126 : decode cX11_readAll 126 = .ok (.goto (-112), 3) := by decide +kernel
theorem dX11_readAll_129 : decode cX11_readAll 129 = .ok (.return_, 1) := by decide +kernel
theorem dX11_doors_0 : decode cX11_doors 0 = .ok (.aload_n 0, 1) := by decide +kernel
theorem dX11_doors_1 : decode cX11_doors 1 = .ok (.iconst 0, 1) := by decide +kernel
theorem dX11_doors_2 : decode cX11_doors 2 = .ok (.putfield 1, 3) := by decide +kernel
theorem dX11_doors_5 : decode cX11_doors 5 = .ok (.aload_n 0, 1) := by decide +kernel
theorem dX11_doors_6 : decode cX11_doors 6 = .ok (.aload_n 0, 1) := by decide +kernel
theorem dX11_doors_7 : decode cX11_doors 7 = .ok (.getfield 220, 3) := by decide +kernel
theorem dX11_doors_10 : decode cX11_doors 10 = .ok (.putfield 225, 3) := by decide +kernel
theorem dX11_doors_13 : decode cX11_doors 13 = .ok (.aload_n 0, 1) := by decide +kernel
theorem dX11_doors_14 : decode cX11_doors 14 = .ok (.iconst 0, 1) := by decide +kernel
theorem dX11_doors_15 : decode cX11_doors 15 = .ok (.putfield 220, 3) := by decide +kernel
theorem dX11_doors_18 : decode cX11_doors 18 = .ok (.aload_n 0, 1) := by decide +kernel
theorem dX11_doors_19 : decode cX11_doors 19 = .ok (.iconst 0, 1) := by decide +kernel
theorem dX11_doors_20 : decode cX11_doors 20 = .ok (.putfield 249, 3) := by decide +kernel
theorem dX11_doors_23 : decode cX11_doors 23 = .ok (.aload_n 0, 1) := by decide +kernel
theorem dX11_doors_24 : decode cX11_doors 24 = .ok (.iconst 0, 1) := by decide +kernel
theorem dX11_doors_25 : decode cX11_doors 25 = .ok (.putfield 283, 3) := by decide +kernel
theorem dX11_doors_28 : decode cX11_doors 28 = .ok (.aload_n 0, 1) := by decide +kernel
theorem dX11_doors_29 : decode cX11_doors 29 = .ok (.invokevirtual 300, 3) := by decide +kernel
theorem dX11_doors_32 : decode cX11_doors 32 = .ok (.aload_n 0, 1) := by decide +kernel
theorem dX11_doors_33 : decode cX11_doors 33 = .ok (.getfield 249, 3) := by decide +kernel
theorem dX11_doors_36 : decode cX11_doors 36 = .ok (.ifCond .le 20, 3) := by decide +kernel
theorem dX11_doors_39 : decode cX11_doors 39 = .ok (.aload_n 0, 1) := by decide +kernel
theorem dX11_doors_40 : decode cX11_doors 40 = .ok (.aload_n 0, 1) := by decide +kernel
theorem dX11_doors_41 : decode cX11_doors 41 = .ok (.getfield 249, 3) := by decide +kernel
theorem dX11_doors_44 : decode cX11_doors 44 = .ok (.putfield 303, 3) := by decide +kernel
theorem dX11_doors_47 : decode cX11_doors 47 = .ok (.ldc_w 306, 3) := by decide +kernel
theorem dX11_doors_50 : decode cX11_doors 50 = .ok (.aload_n 0, 1) := by decide +kernel
theorem dX11_doors_51 : decode cX11_doors 51 = .ok (.getfield 252, 3) := by decide +kernel
theorem dX11_doors_54 : decode cX11_doors 54 = .ok (.isub, 1) := by decide +kernel
theorem dX11_doors_55 : decode cX11_doors 55 = .ok (.ireturn, 1) := by decide +kernel
theorem dX11_doors_56 : decode cX11_doors 56 = .ok (.aload_n 0, 1) := by decide +kernel
theorem dX11_doors_57 : decode cX11_doors 57 = .ok (.iconst 1, 1) := by decide +kernel
theorem dX11_doors_58 : decode cX11_doors 58 = .ok (.putfield 283, 3) := by decide +kernel
theorem dX11_doors_61 : decode cX11_doors 61 = .ok (.aload_n 0, 1) := by decide +kernel
theorem dX11_doors_62 : decode cX11_doors 62 = .ok (.invokevirtual 300, 3) := by decide +kernel
theorem dX11_doors_65 : decode cX11_doors 65 = .ok (.aload_n 0, 1) := by decide +kernel
theorem dX11_doors_66 : decode cX11_doors 66 = .ok (.getfield 287, 3) := by decide +kernel
theorem dX11_doors_69 : decode cX11_doors 69 = .ok (.ireturn, 1) := by decide +kernel
theorem dX11_fault_0 : decode cX11_fault 0 = .ok (.aload_n 0, 1) := by decide +kernel
theorem dX11_fault_1 : decode cX11_fault 1 = .ok (.iconst 0, 1) := by decide +kernel
theorem dX11_fault_2 : decode cX11_fault 2 = .ok (.putfield 1, 3) := by decide +kernel
theorem dX11_fault_5 : decode cX11_fault 5 = .ok (.aload_n 0, 1) := by decide +kernel
theorem dX11_fault_6 : decode cX11_fault 6 = .ok (.getfield 303, 3) := by decide +kernel
theorem dX11_fault_9 : decode cX11_fault 9 = .ok (.ireturn, 1) := by decide +kernel
theorem dX11_asksTooMuch_0 : decode cX11_asksTooMuch 0 = .ok (.iconst 0, 1) := by decide +kernel
theorem dX11_asksTooMuch_1 : decode cX11_asksTooMuch 1 = .ok (.istore_n 2, 1) := by decide +kernel
theorem dX11_asksTooMuch_2 : decode cX11_asksTooMuch 2 = .ok (.bipush 8, 2) := by decide +kernel
theorem dX11_asksTooMuch_4 : decode cX11_asksTooMuch 4 = .ok (.iload_n 1, 1) := by decide +kernel
theorem dX11_asksTooMuch_5 : decode cX11_asksTooMuch 5 = .ok (.imul, 1) := by decide +kernel
theorem dX11_asksTooMuch_6 : decode cX11_asksTooMuch 6 = .ok (.istore_n 3, 1) := by decide +kernel
theorem dX11_asksTooMuch_7 : decode cX11_asksTooMuch 7 = .ok (.iload_n 3, 1) := by decide +kernel
theorem dX11_asksTooMuch_8 : decode cX11_asksTooMuch 8 = .ok (.bipush 8, 2) := by decide +kernel
theorem dX11_asksTooMuch_10 : decode cX11_asksTooMuch 10 = .ok (.iload_n 1, 1) := by decide +kernel
theorem dX11_asksTooMuch_11 : decode cX11_asksTooMuch 11 = .ok (.imul, 1) := by decide +kernel
theorem dX11_asksTooMuch_12 : decode cX11_asksTooMuch 12 = .ok (.aload_n 0, 1) := by decide +kernel
theorem dX11_asksTooMuch_13 : decode cX11_asksTooMuch 13 = .ok (.getfield 60, 3) := by decide +kernel
theorem dX11_asksTooMuch_16 : decode cX11_asksTooMuch 16 = .ok (.iload_n 1, 1) := by decide +kernel
theorem dX11_asksTooMuch_17 : decode cX11_asksTooMuch 17 = .ok (.iaload, 1) := by decide +kernel
theorem dX11_asksTooMuch_18 : decode cX11_asksTooMuch 18 = .ok (.iadd, 1) := by decide +kernel
theorem dX11_asksTooMuch_19 : decode cX11_asksTooMuch 19 = .ok (.if_icmp .ge 46, 3) := by decide +kernel
theorem dX11_asksTooMuch_22 : decode cX11_asksTooMuch 22 = .ok (.iload_n 2, 1) := by decide +kernel
theorem dX11_asksTooMuch_23 : decode cX11_asksTooMuch 23 = .ok (.ifCond .ne 30, 3) := by decide +kernel
theorem dX11_asksTooMuch_26 : decode cX11_asksTooMuch 26 = .ok (.aload_n 0, 1) := by decide +kernel
theorem dX11_asksTooMuch_27 : decode cX11_asksTooMuch 27 = .ok (.getfield 63, 3) := by decide +kernel
theorem dX11_asksTooMuch_30 : decode cX11_asksTooMuch 30 = .ok (.iload_n 3, 1) := by decide +kernel
theorem dX11_asksTooMuch_31 : decode cX11_asksTooMuch 31 = .ok (.iaload, 1) := by decide +kernel
theorem dX11_asksTooMuch_32 : decode cX11_asksTooMuch 32 = .ok (.ifCond .le 25, 3) := by decide +kernel
theorem dX11_asksTooMuch_35 : decode cX11_asksTooMuch 35 = .ok (.aload_n 0, 1) := by decide +kernel
theorem dX11_asksTooMuch_36 : decode cX11_asksTooMuch 36 = .ok (.getfield 57, 3) := by decide +kernel
theorem dX11_asksTooMuch_39 : decode cX11_asksTooMuch 39 = .ok (.iload_n 1, 1) := by decide +kernel
theorem dX11_asksTooMuch_40 : decode cX11_asksTooMuch 40 = .ok (.iaload, 1) := by decide +kernel
theorem dX11_asksTooMuch_41 : decode cX11_asksTooMuch 41 = .ok (.aload_n 0, 1) := by decide +kernel
theorem dX11_asksTooMuch_42 : decode cX11_asksTooMuch 42 = .ok (.getfield 66, 3) := by decide +kernel
theorem dX11_asksTooMuch_45 : decode cX11_asksTooMuch 45 = .ok (.iload_n 3, 1) := by decide +kernel
theorem dX11_asksTooMuch_46 : decode cX11_asksTooMuch 46 = .ok (.iaload, 1) := by decide +kernel
theorem dX11_asksTooMuch_47 : decode cX11_asksTooMuch 47 = .ok (.ishr, 1) := by decide +kernel
theorem dX11_asksTooMuch_48 : decode cX11_asksTooMuch 48 = .ok (.iconst 1, 1) := by decide +kernel
theorem dX11_asksTooMuch_49 : decode cX11_asksTooMuch 49 = .ok (.iand, 1) := by decide +kernel
theorem dX11_asksTooMuch_50 : decode cX11_asksTooMuch 50 = .ok (.ifCond .ne 7, 3) := by decide +kernel
theorem dX11_asksTooMuch_53 : decode cX11_asksTooMuch 53 = .ok (.iconst 1, 1) := by decide +kernel
theorem dX11_asksTooMuch_54 : decode cX11_asksTooMuch 54 = .ok (.goto 4, 3) := by decide +kernel
theorem dX11_asksTooMuch_57 : decode cX11_asksTooMuch 57 = .ok (.iconst 0, 1) := by decide +kernel
theorem dX11_asksTooMuch_58 : decode cX11_asksTooMuch 58 = .ok (.istore_n 2, 1) := by decide +kernel
theorem dX11_asksTooMuch_59 : decode cX11_asksTooMuch 59 = .ok (.iinc 3 1, 3) := by decide +kernel
theorem dX11_asksTooMuch_62 : decode cX11_asksTooMuch 62 = .ok (.goto (-55), 3) := by decide +kernel
theorem dX11_asksTooMuch_65 : decode cX11_asksTooMuch 65 = .ok (.iload_n 2, 1) := by decide +kernel
theorem dX11_asksTooMuch_66 : decode cX11_asksTooMuch 66 = .ok (.ireturn, 1) := by decide +kernel
theorem dX11_door_0 : decode cX11_door 0 = .ok (.aload_n 0, 1) := by decide +kernel
theorem dX11_door_1 : decode cX11_door 1 = .ok (.iconst 0, 1) := by decide +kernel
theorem dX11_door_2 : decode cX11_door 2 = .ok (.putfield 1, 3) := by decide +kernel
theorem dX11_door_5 : decode cX11_door 5 = .ok (.iload_n 1, 1) := by decide +kernel
theorem dX11_door_6 : decode cX11_door 6 = .ok (.invokestatic 208, 3) := by decide +kernel
theorem dX11_door_9 : decode cX11_door 9 = .ok (.ifCond .eq 15, 3) := by decide +kernel
theorem dX11_door_12 : decode cX11_door 12 = .ok (.iload_n 2, 1) := by decide +kernel
theorem dX11_door_13 : decode cX11_door 13 = .ok (.i2l, 1) := by decide +kernel
theorem dX11_door_14 : decode cX11_door 14 = .ok (.lconst 0, 1) := by decide +kernel
theorem dX11_door_15 : decode cX11_door 15 = .ok (.ldc2_w 106, 3) := by decide +kernel
theorem dX11_door_18 : decode cX11_door 18 = .ok (.invokestatic 96, 3) := by decide +kernel
theorem dX11_door_21 : decode cX11_door 21 = .ok (.ifCond .ne 8, 3) := by decide +kernel
theorem dX11_door_24 : decode cX11_door 24 = .ok (.ldc 108, 2) := by decide +kernel
theorem dX11_door_26 : decode cX11_door 26 = .ok (.goto 43, 3) := by decide +kernel
theorem dX11_door_29 : decode cX11_door 29 = .ok (.iload_n 2, 1) := by decide +kernel
theorem dX11_door_30 : decode cX11_door 30 = .ok (.ifCond .ne 12, 3) := by decide +kernel
theorem dX11_door_33 : decode cX11_door 33 = .ok (.aload_n 0, 1) := by decide +kernel
theorem dX11_door_34 : decode cX11_door 34 = .ok (.getfield 60, 3) := by decide +kernel
theorem dX11_door_37 : decode cX11_door 37 = .ok (.iload_n 1, 1) := by decide +kernel
theorem dX11_door_38 : decode cX11_door 38 = .ok (.iaload, 1) := by decide +kernel
theorem dX11_door_39 : decode cX11_door 39 = .ok (.goto 30, 3) := by decide +kernel
theorem dX11_door_42 : decode cX11_door 42 = .ok (.iload_n 2, 1) := by decide +kernel
theorem dX11_door_43 : decode cX11_door 43 = .ok (.iconst 1, 1) := by decide +kernel
theorem dX11_door_44 : decode cX11_door 44 = .ok (.if_icmp .ne 12, 3) := by decide +kernel
theorem dX11_door_47 : decode cX11_door 47 = .ok (.aload_n 0, 1) := by decide +kernel
theorem dX11_door_48 : decode cX11_door 48 = .ok (.getfield 57, 3) := by decide +kernel
theorem dX11_door_51 : decode cX11_door 51 = .ok (.iload_n 1, 1) := by decide +kernel
theorem dX11_door_52 : decode cX11_door 52 = .ok (.iaload, 1) := by decide +kernel
theorem dX11_door_53 : decode cX11_door 53 = .ok (.goto 16, 3) := by decide +kernel
theorem dX11_door_56 : decode cX11_door 56 = .ok (.aload_n 0, 1) := by decide +kernel
theorem dX11_door_57 : decode cX11_door 57 = .ok (.iload_n 1, 1) := by decide +kernel
theorem dX11_door_58 : decode cX11_door 58 = .ok (.invokevirtual 307, 3) := by decide +kernel
theorem dX11_door_61 : decode cX11_door 61 = .ok (.ifCond .eq 7, 3) := by decide +kernel
theorem dX11_door_64 : decode cX11_door 64 = .ok (.iconst 1, 1) := by decide +kernel
theorem dX11_door_65 : decode cX11_door 65 = .ok (.goto 4, 3) := by decide +kernel
theorem dX11_door_68 : decode cX11_door 68 = .ok (.iconst 0, 1) := by decide +kernel
theorem dX11_door_69 : decode cX11_door 69 = .ok (.ireturn, 1) := by decide +kernel
theorem dX11_fitsOf_0 : decode cX11_fitsOf 0 = .ok (.iconst 0, 1) := by decide +kernel
theorem dX11_fitsOf_1 : decode cX11_fitsOf 1 = .ok (.istore_n 3, 1) := by decide +kernel
theorem dX11_fitsOf_2 : decode cX11_fitsOf 2 = .ok (.iconst 0, 1) := by decide +kernel
theorem dX11_fitsOf_3 : decode cX11_fitsOf 3 = .ok (.istore 4, 2) := by decide +kernel
theorem dX11_fitsOf_5 : decode cX11_fitsOf 5 = .ok (.iload 4, 2) := by decide +kernel
theorem dX11_fitsOf_7 : decode cX11_fitsOf 7 = .ok (.aload_n 0, 1) := by decide +kernel
theorem dX11_fitsOf_8 : decode cX11_fitsOf 8 = .ok (.getfield 60, 3) := by decide +kernel
theorem dX11_fitsOf_11 : decode cX11_fitsOf 11 = .ok (.iload_n 2, 1) := by decide +kernel
theorem dX11_fitsOf_12 : decode cX11_fitsOf 12 = .ok (.iaload, 1) := by decide +kernel
theorem dX11_fitsOf_13 : decode cX11_fitsOf 13 = .ok (.if_icmp .ge 108, 3) := by decide +kernel
theorem dX11_fitsOf_16 : decode cX11_fitsOf 16 = .ok (.bipush 8, 2) := by decide +kernel
theorem dX11_fitsOf_18 : decode cX11_fitsOf 18 = .ok (.iload_n 2, 1) := by decide +kernel
theorem dX11_fitsOf_19 : decode cX11_fitsOf 19 = .ok (.imul, 1) := by decide +kernel
theorem dX11_fitsOf_20 : decode cX11_fitsOf 20 = .ok (.iload 4, 2) := by decide +kernel
theorem dX11_fitsOf_22 : decode cX11_fitsOf 22 = .ok (.iadd, 1) := by decide +kernel
theorem dX11_fitsOf_23 : decode cX11_fitsOf 23 = .ok (.istore 5, 2) := by decide +kernel
theorem dX11_fitsOf_25 : decode cX11_fitsOf 25 = .ok (.aload_n 0, 1) := by decide +kernel
theorem dX11_fitsOf_26 : decode cX11_fitsOf 26 = .ok (.getfield 63, 3) := by decide +kernel
theorem dX11_fitsOf_29 : decode cX11_fitsOf 29 = .ok (.iload 5, 2) := by decide +kernel
theorem dX11_fitsOf_31 : decode cX11_fitsOf 31 = .ok (.iaload, 1) := by decide +kernel
theorem dX11_fitsOf_32 : decode cX11_fitsOf 32 = .ok (.ifCond .ne 27, 3) := by decide +kernel
theorem dX11_fitsOf_35 : decode cX11_fitsOf 35 = .ok (.aload_n 0, 1) := by decide +kernel
theorem dX11_fitsOf_36 : decode cX11_fitsOf 36 = .ok (.iload_n 1, 1) := by decide +kernel
theorem dX11_fitsOf_37 : decode cX11_fitsOf 37 = .ok (.iconst 0, 1) := by decide +kernel
theorem dX11_fitsOf_38 : decode cX11_fitsOf 38 = .ok (.invokevirtual 152, 3) := by decide +kernel
theorem dX11_fitsOf_41 : decode cX11_fitsOf 41 = .ok (.aload_n 0, 1) := by decide +kernel
theorem dX11_fitsOf_42 : decode cX11_fitsOf 42 = .ok (.getfield 66, 3) := by decide +kernel
theorem dX11_fitsOf_45 : decode cX11_fitsOf 45 = .ok (.iload 5, 2) := by decide +kernel
theorem dX11_fitsOf_47 : decode cX11_fitsOf 47 = .ok (.iaload, 1) := by decide +kernel
theorem dX11_fitsOf_48 : decode cX11_fitsOf 48 = .ok (.if_icmp .ne 7, 3) := by decide +kernel
theorem dX11_fitsOf_51 : decode cX11_fitsOf 51 = .ok (.iconst 1, 1) := by decide +kernel
theorem dX11_fitsOf_52 : decode cX11_fitsOf 52 = .ok (.goto 45, 3) := by decide +kernel
theorem dX11_fitsOf_55 : decode cX11_fitsOf 55 = .ok (.iconst 0, 1) := by decide +kernel
theorem dX11_fitsOf_56 : decode cX11_fitsOf 56 = .ok (.goto 41, 3) := by decide +kernel
theorem dX11_fitsOf_59 : decode cX11_fitsOf 59 = .ok (.aload_n 0, 1) := by decide +kernel
theorem dX11_fitsOf_60 : decode cX11_fitsOf 60 = .ok (.getfield 63, 3) := by decide +kernel
theorem dX11_fitsOf_63 : decode cX11_fitsOf 63 = .ok (.iload 5, 2) := by decide +kernel
theorem dX11_fitsOf_65 : decode cX11_fitsOf 65 = .ok (.iaload, 1) := by decide +kernel
theorem dX11_fitsOf_66 : decode cX11_fitsOf 66 = .ok (.iconst 1, 1) := by decide +kernel
theorem dX11_fitsOf_67 : decode cX11_fitsOf 67 = .ok (.if_icmp .eq 25, 3) := by decide +kernel
theorem dX11_fitsOf_70 : decode cX11_fitsOf 70 = .ok (.aload_n 0, 1) := by decide +kernel
theorem dX11_fitsOf_71 : decode cX11_fitsOf 71 = .ok (.iload_n 1, 1) := by decide +kernel
theorem dX11_fitsOf_72 : decode cX11_fitsOf 72 = .ok (.aload_n 0, 1) := by decide +kernel
theorem dX11_fitsOf_73 : decode cX11_fitsOf 73 = .ok (.getfield 66, 3) := by decide +kernel
theorem dX11_fitsOf_76 : decode cX11_fitsOf 76 = .ok (.iload 5, 2) := by decide +kernel
theorem dX11_fitsOf_78 : decode cX11_fitsOf 78 = .ok (.iaload, 1) := by decide +kernel
theorem dX11_fitsOf_79 : decode cX11_fitsOf 79 = .ok (.invokevirtual 143, 3) := by decide +kernel
theorem dX11_fitsOf_82 : decode cX11_fitsOf 82 = .ok (.aload_n 0, 1) := by decide +kernel
theorem dX11_fitsOf_83 : decode cX11_fitsOf 83 = .ok (.getfield 69, 3) := by decide +kernel
theorem dX11_fitsOf_86 : decode cX11_fitsOf 86 = .ok (.iload 5, 2) := by decide +kernel
theorem dX11_fitsOf_88 : decode cX11_fitsOf 88 = .ok (.iaload, 1) := by decide +kernel
theorem dX11_fitsOf_89 : decode cX11_fitsOf 89 = .ok (.if_icmp .lt 7, 3) := by decide +kernel
theorem dX11_fitsOf_92 : decode cX11_fitsOf 92 = .ok (.iconst 1, 1) := by decide +kernel
theorem dX11_fitsOf_93 : decode cX11_fitsOf 93 = .ok (.goto 4, 3) := by decide +kernel
theorem dX11_fitsOf_96 : decode cX11_fitsOf 96 = .ok (.iconst 0, 1) := by decide +kernel
theorem dX11_fitsOf_97 : decode cX11_fitsOf 97 = .ok (.istore 6, 2) := by decide +kernel
theorem dX11_fitsOf_99 : decode cX11_fitsOf 99 = .ok (.iload_n 3, 1) := by decide +kernel
theorem dX11_fitsOf_100 : decode cX11_fitsOf 100 = .ok (.iload 6, 2) := by decide +kernel
theorem dX11_fitsOf_102 : decode cX11_fitsOf 102 = .ok (.ifCond .eq 10, 3) := by decide +kernel
theorem dX11_fitsOf_105 : decode cX11_fitsOf 105 = .ok (.iconst 1, 1) := by decide +kernel
theorem dX11_fitsOf_106 : decode cX11_fitsOf 106 = .ok (.iload 4, 2) := by decide +kernel
theorem dX11_fitsOf_108 : decode cX11_fitsOf 108 = .ok (.ishl, 1) := by decide +kernel
theorem dX11_fitsOf_109 : decode cX11_fitsOf 109 = .ok (.goto 4, 3) := by decide +kernel
theorem dX11_fitsOf_112 : decode cX11_fitsOf 112 = .ok (.iconst 0, 1) := by decide +kernel
theorem dX11_fitsOf_113 : decode cX11_fitsOf 113 = .ok (.ior, 1) := by decide +kernel
theorem dX11_fitsOf_114 : decode cX11_fitsOf 114 = .ok (.istore_n 3, 1) := by decide +kernel
theorem dX11_fitsOf_115 : decode cX11_fitsOf 115 = .ok (.iinc 4 1, 3) := by decide +kernel
theorem dX11_fitsOf_118 : decode cX11_fitsOf 118 = .ok (.goto (-113), 3) := by decide +kernel
theorem dX11_fitsOf_121 : decode cX11_fitsOf 121 = .ok (.iload_n 3, 1) := by decide +kernel
theorem dX11_fitsOf_122 : decode cX11_fitsOf 122 = .ok (.ireturn, 1) := by decide +kernel
theorem dX11_bits_0 : decode cX11_bits 0 = .ok (.iconst 0, 1) := by decide +kernel
theorem dX11_bits_1 : decode cX11_bits 1 = .ok (.istore_n 1, 1) := by decide +kernel
theorem dX11_bits_2 : decode cX11_bits 2 = .ok (.iconst 0, 1) := by decide +kernel
theorem dX11_bits_3 : decode cX11_bits 3 = .ok (.istore_n 2, 1) := by decide +kernel
theorem dX11_bits_4 : decode cX11_bits 4 = .ok (.iload_n 2, 1) := by decide +kernel
theorem dX11_bits_5 : decode cX11_bits 5 = .ok (.bipush 12, 2) := by decide +kernel
theorem dX11_bits_7 : decode cX11_bits 7 = .ok (.if_icmp .ge 17, 3) := by decide +kernel
theorem dX11_bits_10 : decode cX11_bits 10 = .ok (.iload_n 1, 1) := by decide +kernel
theorem dX11_bits_11 : decode cX11_bits 11 = .ok (.iload_n 0, 1) := by decide +kernel
theorem dX11_bits_12 : decode cX11_bits 12 = .ok (.iload_n 2, 1) := by decide +kernel
theorem dX11_bits_13 : decode cX11_bits 13 = .ok (.ishr, 1) := by decide +kernel
theorem dX11_bits_14 : decode cX11_bits 14 = .ok (.iconst 1, 1) := by decide +kernel
theorem dX11_bits_15 : decode cX11_bits 15 = .ok (.iand, 1) := by decide +kernel
theorem dX11_bits_16 : decode cX11_bits 16 = .ok (.iadd, 1) := by decide +kernel
theorem dX11_bits_17 : decode cX11_bits 17 = .ok (.istore_n 1, 1) := by decide +kernel
theorem dX11_bits_18 : decode cX11_bits 18 = .ok (.iinc 2 1, 3) := by decide +kernel
theorem dX11_bits_21 : decode cX11_bits 21 = .ok (.goto (-17), 3) := by decide +kernel
theorem dX11_bits_24 : decode cX11_bits 24 = .ok (.iload_n 1, 1) := by decide +kernel
theorem dX11_bits_25 : decode cX11_bits 25 = .ok (.ireturn, 1) := by decide +kernel
theorem dX11_least_0 : decode cX11_least 0 = .ok (.aload_n 0, 1) := by decide +kernel
theorem dX11_least_1 : decode cX11_least 1 = .ok (.iconst 0, 1) := by decide +kernel
theorem dX11_least_2 : decode cX11_least 2 = .ok (.putfield 1, 3) := by decide +kernel
theorem dX11_least_5 : decode cX11_least 5 = .ok (.iload_n 1, 1) := by decide +kernel
theorem dX11_least_6 : decode cX11_least 6 = .ok (.invokestatic 181, 3) := by decide +kernel
theorem dX11_least_9 : decode cX11_least 9 = .ok (.ifCond .eq 28, 3) := by decide +kernel
theorem dX11_least_12 : decode cX11_least 12 = .ok (.iload_n 2, 1) := by decide +kernel
theorem dX11_least_13 : decode cX11_least 13 = .ok (.invokestatic 208, 3) := by decide +kernel
theorem dX11_least_16 : decode cX11_least 16 = .ok (.ifCond .eq 21, 3) := by decide +kernel
theorem dX11_least_19 : decode cX11_least 19 = .ok (.iload_n 3, 1) := by decide +kernel
theorem dX11_least_20 : decode cX11_least 20 = .ok (.invokestatic 118, 3) := by decide +kernel
theorem dX11_least_23 : decode cX11_least 23 = .ok (.ifCond .eq 14, 3) := by decide +kernel
theorem dX11_least_26 : decode cX11_least 26 = .ok (.iload 4, 2) := by decide +kernel
theorem dX11_least_28 : decode cX11_least 28 = .ok (.i2l, 1) := by decide +kernel
theorem dX11_least_29 : decode cX11_least 29 = .ok (.lconst 0, 1) := by decide +kernel
theorem dX11_least_30 : decode cX11_least 30 = .ok (.lconst 1, 1) := by decide +kernel
theorem dX11_least_31 : decode cX11_least 31 = .ok (.invokestatic 96, 3) := by decide +kernel
theorem dX11_least_34 : decode cX11_least 34 = .ok (.ifCond .ne 6, 3) := by decide +kernel
theorem dX11_least_37 : decode cX11_least 37 = .ok (.ldc 108, 2) := by decide +kernel
theorem dX11_least_39 : decode cX11_least 39 = .ok (.ireturn, 1) := by decide +kernel
theorem dX11_least_40 : decode cX11_least 40 = .ok (.aload_n 0, 1) := by decide +kernel
theorem dX11_least_41 : decode cX11_least 41 = .ok (.iload_n 2, 1) := by decide +kernel
theorem dX11_least_42 : decode cX11_least 42 = .ok (.invokevirtual 307, 3) := by decide +kernel
theorem dX11_least_45 : decode cX11_least 45 = .ok (.ifCond .eq 6, 3) := by decide +kernel
theorem dX11_least_48 : decode cX11_least 48 = .ok (.ldc 93, 2) := by decide +kernel
theorem dX11_least_50 : decode cX11_least 50 = .ok (.ireturn, 1) := by decide +kernel
theorem dX11_least_51 : decode cX11_least 51 = .ok (.iconst 0, 1) := by decide +kernel
theorem dX11_least_52 : decode cX11_least 52 = .ok (.istore 5, 2) := by decide +kernel
theorem dX11_least_54 : decode cX11_least 54 = .ok (.iconst 0, 1) := by decide +kernel
theorem dX11_least_55 : decode cX11_least 55 = .ok (.istore 6, 2) := by decide +kernel
theorem dX11_least_57 : decode cX11_least 57 = .ok (.iload 6, 2) := by decide +kernel
theorem dX11_least_59 : decode cX11_least 59 = .ok (.aload_n 0, 1) := by decide +kernel
theorem dX11_least_60 : decode cX11_least 60 = .ok (.getfield 129, 3) := by decide +kernel
theorem dX11_least_63 : decode cX11_least 63 = .ok (.if_icmp .ge 58, 3) := by decide +kernel
theorem dX11_least_66 : decode cX11_least 66 = .ok (.iload 5, 2) := by decide +kernel
theorem dX11_least_68 : decode cX11_least 68 = .ok (.aload_n 0, 1) := by decide +kernel
theorem dX11_least_69 : decode cX11_least 69 = .ok (.iload 6, 2) := by decide +kernel
theorem dX11_least_71 : decode cX11_least 71 = .ok (.iconst 1, 1) := by decide +kernel
theorem dX11_least_72 : decode cX11_least 72 = .ok (.invokevirtual 152, 3) := by decide +kernel
theorem dX11_least_75 : decode cX11_least 75 = .ok (.iload_n 1, 1) := by decide +kernel
theorem dX11_least_76 : decode cX11_least 76 = .ok (.if_icmp .ne 21, 3) := by decide +kernel
theorem dX11_least_79 : decode cX11_least 79 = .ok (.aload_n 0, 1) := by decide +kernel
theorem dX11_least_80 : decode cX11_least 80 = .ok (.iload 6, 2) := by decide +kernel
theorem dX11_least_82 : decode cX11_least 82 = .ok (.iload_n 2, 1) := by decide +kernel
theorem dX11_least_83 : decode cX11_least 83 = .ok (.iload_n 3, 1) := by decide +kernel
theorem dX11_least_84 : decode cX11_least 84 = .ok (.invokevirtual 215, 3) := by decide +kernel
theorem dX11_least_87 : decode cX11_least 87 = .ok (.ifCond .ne 10, 3) := by decide +kernel
theorem dX11_least_90 : decode cX11_least 90 = .ok (.iconst 1, 1) := by decide +kernel
theorem dX11_least_91 : decode cX11_least 91 = .ok (.iload 6, 2) := by decide +kernel
theorem dX11_least_93 : decode cX11_least 93 = .ok (.ishl, 1) := by decide +kernel
theorem dX11_least_94 : decode cX11_least 94 = .ok (.goto 4, 3) := by decide +kernel
theorem dX11_least_97 : decode cX11_least 97 = .ok (.iconst 0, 1) := by decide +kernel
theorem dX11_least_98 : decode cX11_least 98 = .ok (.ior, 1) := by decide +kernel
theorem dX11_least_99 : decode cX11_least 99 = .ok (.istore 5, 2) := by decide +kernel
theorem dX11_least_101 : decode cX11_least 101 = .ok (.aload_n 0, 1) := by decide +kernel
theorem dX11_least_102 : decode cX11_least 102 = .ok (.getfield 75, 3) := by decide +kernel
theorem dX11_least_105 : decode cX11_least 105 = .ok (.iload 6, 2) := by decide +kernel
theorem dX11_least_107 : decode cX11_least 107 = .ok (.aload_n 0, 1) := by decide +kernel
theorem dX11_least_108 : decode cX11_least 108 = .ok (.iload 6, 2) := by decide +kernel
theorem dX11_least_110 : decode cX11_least 110 = .ok (.iload_n 2, 1) := by decide +kernel
theorem dX11_least_111 : decode cX11_least 111 = .ok (.invokevirtual 310, 3) := by decide +kernel
theorem dX11_least_114 : decode cX11_least 114 = .ok (.iastore, 1) := by decide +kernel
theorem dX11_least_115 : decode cX11_least 115 = .ok (.iinc 6 1, 3) := by decide +kernel
theorem dX11_least_118 : decode cX11_least 118 = .ok (.goto (-61), 3) := by decide +kernel
theorem dX11_least_121 : decode cX11_least 121 = .ok (.ldc 93, 2) := by decide +kernel
theorem dX11_least_123 : decode cX11_least 123 = .ok (.istore 6, 2) := by decide +kernel
theorem dX11_least_125 : decode cX11_least 125 = .ok (.iconst 0, 1) := by decide +kernel
theorem dX11_least_126 : decode cX11_least 126 = .ok (.istore 7, 2) := by decide +kernel
theorem dX11_least_128 : decode cX11_least 128 = .ok (.iconst 0, 1) := by decide +kernel
theorem dX11_least_129 : decode cX11_least 129 = .ok (.istore 8, 2) := by decide +kernel
theorem dX11_least_131 : decode cX11_least 131 = .ok (.iload 8, 2) := by decide +kernel
theorem dX11_least_133 : decode cX11_least 133 = .ok (.iconst 1, 1) := by decide +kernel
theorem dX11_least_134 : decode cX11_least 134 = .ok (.aload_n 0, 1) := by decide +kernel
theorem dX11_least_135 : decode cX11_least 135 = .ok (.getfield 129, 3) := by decide +kernel
theorem dX11_least_138 : decode cX11_least 138 = .ok (.ishl, 1) := by decide +kernel
theorem dX11_least_139 : decode cX11_least 139 = .ok (.if_icmp .ge 120, 3) := by decide +kernel
theorem dX11_least_142 : decode cX11_least 142 = .ok (.iload 8, 2) := by decide +kernel
theorem dX11_least_144 : decode cX11_least 144 = .ok (.iload 5, 2) := by decide +kernel
theorem dX11_least_146 : decode cX11_least 146 = .ok (.iconst (-1), 1) := by decide +kernel
theorem dX11_least_147 : decode cX11_least 147 = .ok (.ixor, 1) := by decide +kernel
theorem dX11_least_148 : decode cX11_least 148 = .ok (.iand, 1) := by decide +kernel
theorem dX11_least_149 : decode cX11_least 149 = .ok (.ifCond .ne 104, 3) := by decide +kernel
theorem dX11_least_152 : decode cX11_least 152 = .ok (.iconst 0, 1) := by decide +kernel
theorem dX11_least_153 : decode cX11_least 153 = .ok (.istore 9, 2) := by decide +kernel
theorem dX11_least_155 : decode cX11_least 155 = .ok (.iconst 0, 1) := by decide +kernel
theorem dX11_least_156 : decode cX11_least 156 = .ok (.istore 10, 2) := by decide +kernel
theorem dX11_least_158 : decode cX11_least 158 = .ok (.iconst 0, 1) := by decide +kernel
theorem dX11_least_159 : decode cX11_least 159 = .ok (.istore 11, 2) := by decide +kernel
theorem dX11_least_161 : decode cX11_least 161 = .ok (.iload 11, 2) := by decide +kernel
theorem dX11_least_163 : decode cX11_least 163 = .ok (.aload_n 0, 1) := by decide +kernel
theorem dX11_least_164 : decode cX11_least 164 = .ok (.getfield 129, 3) := by decide +kernel
theorem dX11_least_167 : decode cX11_least 167 = .ok (.if_icmp .ge 49, 3) := by decide +kernel
theorem dX11_least_170 : decode cX11_least 170 = .ok (.iload 8, 2) := by decide +kernel
theorem dX11_least_172 : decode cX11_least 172 = .ok (.iload 11, 2) := by decide +kernel
theorem dX11_least_174 : decode cX11_least 174 = .ok (.ishr, 1) := by decide +kernel
theorem dX11_least_175 : decode cX11_least 175 = .ok (.iconst 1, 1) := by decide +kernel
theorem dX11_least_176 : decode cX11_least 176 = .ok (.iand, 1) := by decide +kernel
theorem dX11_least_177 : decode cX11_least 177 = .ok (.iconst 1, 1) := by decide +kernel
theorem dX11_least_178 : decode cX11_least 178 = .ok (.if_icmp .ne 32, 3) := by decide +kernel
theorem dX11_least_181 : decode cX11_least 181 = .ok (.iload 9, 2) := by decide +kernel
theorem dX11_least_183 : decode cX11_least 183 = .ok (.aload_n 0, 1) := by decide +kernel
theorem dX11_least_184 : decode cX11_least 184 = .ok (.getfield 75, 3) := by decide +kernel
theorem dX11_least_187 : decode cX11_least 187 = .ok (.iload 11, 2) := by decide +kernel
theorem dX11_least_189 : decode cX11_least 189 = .ok (.iaload, 1) := by decide +kernel
theorem dX11_least_190 : decode cX11_least 190 = .ok (.ior, 1) := by decide +kernel
theorem dX11_least_191 : decode cX11_least 191 = .ok (.istore 9, 2) := by decide +kernel
theorem dX11_least_193 : decode cX11_least 193 = .ok (.iload 10, 2) := by decide +kernel
theorem dX11_least_195 : decode cX11_least 195 = .ok (.iconst 1, 1) := by decide +kernel
theorem dX11_least_196 : decode cX11_least 196 = .ok (.aload_n 0, 1) := by decide +kernel
theorem dX11_least_197 : decode cX11_least 197 = .ok (.getfield 75, 3) := by decide +kernel
theorem dX11_least_200 : decode cX11_least 200 = .ok (.iload 11, 2) := by decide +kernel
theorem dX11_least_202 : decode cX11_least 202 = .ok (.iaload, 1) := by decide +kernel
theorem dX11_least_203 : decode cX11_least 203 = .ok (.invokestatic 313, 3) := by decide +kernel
theorem dX11_least_206 : decode cX11_least 206 = .ok (.iadd, 1) := by decide +kernel
theorem dX11_least_207 : decode cX11_least 207 = .ok (.iadd, 1) := by decide +kernel
theorem dX11_least_208 : decode cX11_least 208 = .ok (.istore 10, 2) := by decide +kernel
theorem dX11_least_210 : decode cX11_least 210 = .ok (.iinc 11 1, 3) := by decide +kernel
theorem dX11_least_213 : decode cX11_least 213 = .ok (.goto (-52), 3) := by decide +kernel
theorem dX11_least_216 : decode cX11_least 216 = .ok (.iload 9, 2) := by decide +kernel
theorem dX11_least_218 : decode cX11_least 218 = .ok (.iconst 1, 1) := by decide +kernel
theorem dX11_least_219 : decode cX11_least 219 = .ok (.aload_n 0, 1) := by decide +kernel
theorem dX11_least_220 : decode cX11_least 220 = .ok (.getfield 60, 3) := by decide +kernel
theorem dX11_least_223 : decode cX11_least 223 = .ok (.iload_n 2, 1) := by decide +kernel
theorem dX11_least_224 : decode cX11_least 224 = .ok (.iaload, 1) := by decide +kernel
theorem dX11_least_225 : decode cX11_least 225 = .ok (.ishl, 1) := by decide +kernel
theorem dX11_least_226 : decode cX11_least 226 = .ok (.iconst 1, 1) := by decide +kernel
theorem dX11_least_227 : decode cX11_least 227 = .ok (.isub, 1) := by decide +kernel
theorem dX11_least_228 : decode cX11_least 228 = .ok (.if_icmp .ne 25, 3) := by decide +kernel
theorem dX11_least_231 : decode cX11_least 231 = .ok (.iload 6, 2) := by decide +kernel
theorem dX11_least_233 : decode cX11_least 233 = .ok (.ldc 93, 2) := by decide +kernel
theorem dX11_least_235 : decode cX11_least 235 = .ok (.if_icmp .eq 10, 3) := by decide +kernel
theorem dX11_least_238 : decode cX11_least 238 = .ok (.iload 10, 2) := by decide +kernel
theorem dX11_least_240 : decode cX11_least 240 = .ok (.iload 7, 2) := by decide +kernel
theorem dX11_least_242 : decode cX11_least 242 = .ok (.if_icmp .ge 11, 3) := by decide +kernel
theorem dX11_least_245 : decode cX11_least 245 = .ok (.iload 8, 2) := by decide +kernel
theorem dX11_least_247 : decode cX11_least 247 = .ok (.istore 6, 2) := by decide +kernel
theorem dX11_least_249 : decode cX11_least 249 = .ok (.iload 10, 2) := by decide +kernel
theorem dX11_least_251 : decode cX11_least 251 = .ok (.istore 7, 2) := by decide +kernel
theorem dX11_least_253 : decode cX11_least 253 = .ok (.iinc 8 1, 3) := by decide +kernel
theorem dX11_least_256 : decode cX11_least 256 = .ok (.goto (-125), 3) := by decide +kernel
theorem dX11_least_259 : decode cX11_least 259 = .ok (.iload 6, 2) := by decide +kernel
theorem dX11_least_261 : decode cX11_least 261 = .ok (.ldc 93, 2) := by decide +kernel
theorem dX11_least_263 : decode cX11_least 263 = .ok (.if_icmp .eq 8, 3) := by decide +kernel
theorem dX11_least_266 : decode cX11_least 266 = .ok (.iload 4, 2) := by decide +kernel
theorem dX11_least_268 : decode cX11_least 268 = .ok (.ifCond .ne 8, 3) := by decide +kernel
theorem dX11_least_271 : decode cX11_least 271 = .ok (.iload 6, 2) := by decide +kernel
theorem dX11_least_273 : decode cX11_least 273 = .ok (.goto 5, 3) := by decide +kernel
theorem dX11_least_276 : decode cX11_least 276 = .ok (.iload 7, 2) := by decide +kernel
theorem dX11_least_278 : decode cX11_least 278 = .ok (.ireturn, 1) := by decide +kernel
theorem dX11_seen_0 : decode cX11_seen 0 = .ok (.aload_n 0, 1) := by decide +kernel
theorem dX11_seen_1 : decode cX11_seen 1 = .ok (.iconst 0, 1) := by decide +kernel
theorem dX11_seen_2 : decode cX11_seen 2 = .ok (.putfield 1, 3) := by decide +kernel
theorem dX11_seen_5 : decode cX11_seen 5 = .ok (.iload_n 1, 1) := by decide +kernel
theorem dX11_seen_6 : decode cX11_seen 6 = .ok (.invokestatic 208, 3) := by decide +kernel
theorem dX11_seen_9 : decode cX11_seen 9 = .ok (.ifCond .eq 23, 3) := by decide +kernel
theorem dX11_seen_12 : decode cX11_seen 12 = .ok (.aload_n 0, 1) := by decide +kernel
theorem dX11_seen_13 : decode cX11_seen 13 = .ok (.iload_n 2, 1) := by decide +kernel
theorem dX11_seen_14 : decode cX11_seen 14 = .ok (.invokevirtual 164, 3) := by decide +kernel
theorem dX11_seen_17 : decode cX11_seen 17 = .ok (.ifCond .eq 15, 3) := by decide +kernel
theorem dX11_seen_20 : decode cX11_seen 20 = .ok (.iload_n 3, 1) := by decide +kernel
theorem dX11_seen_21 : decode cX11_seen 21 = .ok (.i2l, 1) := by decide +kernel
theorem dX11_seen_22 : decode cX11_seen 22 = .ok (.lconst 0, 1) := by decide +kernel
theorem dX11_seen_23 : decode cX11_seen 23 = .ok (.ldc2_w 167, 3) := by decide +kernel
theorem dX11_seen_26 : decode cX11_seen 26 = .ok (.invokestatic 96, 3) := by decide +kernel
theorem dX11_seen_29 : decode cX11_seen 29 = .ok (.ifCond .ne 6, 3) := by decide +kernel
theorem dX11_seen_32 : decode cX11_seen 32 = .ok (.ldc 108, 2) := by decide +kernel
theorem dX11_seen_34 : decode cX11_seen 34 = .ok (.ireturn, 1) := by decide +kernel
theorem dX11_seen_35 : decode cX11_seen 35 = .ok (.aload_n 0, 1) := by decide +kernel
theorem dX11_seen_36 : decode cX11_seen 36 = .ok (.getfield 316, 3) := by decide +kernel
theorem dX11_seen_39 : decode cX11_seen 39 = .ok (.bipush 30, 2) := by decide +kernel
theorem dX11_seen_41 : decode cX11_seen 41 = .ok (.if_icmp .ne 6, 3) := by decide +kernel
theorem dX11_seen_44 : decode cX11_seen 44 = .ok (.ldc 123, 2) := by decide +kernel
theorem dX11_seen_46 : decode cX11_seen 46 = .ok (.ireturn, 1) := by decide +kernel
theorem dX11_seen_47 : decode cX11_seen 47 = .ok (.aload_n 0, 1) := by decide +kernel
theorem dX11_seen_48 : decode cX11_seen 48 = .ok (.getfield 78, 3) := by decide +kernel
theorem dX11_seen_51 : decode cX11_seen 51 = .ok (.aload_n 0, 1) := by decide +kernel
theorem dX11_seen_52 : decode cX11_seen 52 = .ok (.getfield 316, 3) := by decide +kernel
theorem dX11_seen_55 : decode cX11_seen 55 = .ok (.iload_n 2, 1) := by decide +kernel
theorem dX11_seen_56 : decode cX11_seen 56 = .ok (.iastore, 1) := by decide +kernel
theorem dX11_seen_57 : decode cX11_seen 57 = .ok (.aload_n 0, 1) := by decide +kernel
theorem dX11_seen_58 : decode cX11_seen 58 = .ok (.getfield 81, 3) := by decide +kernel
theorem dX11_seen_61 : decode cX11_seen 61 = .ok (.aload_n 0, 1) := by decide +kernel
theorem dX11_seen_62 : decode cX11_seen 62 = .ok (.getfield 316, 3) := by decide +kernel
theorem dX11_seen_65 : decode cX11_seen 65 = .ok (.iload_n 3, 1) := by decide +kernel
theorem dX11_seen_66 : decode cX11_seen 66 = .ok (.iastore, 1) := by decide +kernel
theorem dX11_seen_67 : decode cX11_seen 67 = .ok (.aload_n 0, 1) := by decide +kernel
theorem dX11_seen_68 : decode cX11_seen 68 = .ok (.dup, 1) := by decide +kernel
theorem dX11_seen_69 : decode cX11_seen 69 = .ok (.getfield 316, 3) := by decide +kernel
theorem dX11_seen_72 : decode cX11_seen 72 = .ok (.iconst 1, 1) := by decide +kernel
theorem dX11_seen_73 : decode cX11_seen 73 = .ok (.iadd, 1) := by decide +kernel
theorem dX11_seen_74 : decode cX11_seen 74 = .ok (.putfield 316, 3) := by decide +kernel
theorem dX11_seen_77 : decode cX11_seen 77 = .ok (.aload_n 0, 1) := by decide +kernel
theorem dX11_seen_78 : decode cX11_seen 78 = .ok (.getfield 316, 3) := by decide +kernel
theorem dX11_seen_81 : decode cX11_seen 81 = .ok (.ireturn, 1) := by decide +kernel
theorem dX11_couldOf_0 : decode cX11_couldOf 0 = .ok (.iconst 0, 1) := by decide +kernel
theorem dX11_couldOf_1 : decode cX11_couldOf 1 = .ok (.istore_n 2, 1) := by decide +kernel
theorem dX11_couldOf_2 : decode cX11_couldOf 2 = .ok (.iconst 0, 1) := by decide +kernel
theorem dX11_couldOf_3 : decode cX11_couldOf 3 = .ok (.istore_n 3, 1) := by decide +kernel
theorem dX11_couldOf_4 : decode cX11_couldOf 4 = .ok (.iload_n 3, 1) := by decide +kernel
theorem dX11_couldOf_5 : decode cX11_couldOf 5 = .ok (.aload_n 0, 1) := by decide +kernel
theorem dX11_couldOf_6 : decode cX11_couldOf 6 = .ok (.getfield 129, 3) := by decide +kernel
theorem dX11_couldOf_9 : decode cX11_couldOf 9 = .ok (.if_icmp .ge 119, 3) := by decide +kernel
theorem dX11_couldOf_12 : decode cX11_couldOf 12 = .ok (.aload_n 0, 1) := by decide +kernel
theorem dX11_couldOf_13 : decode cX11_couldOf 13 = .ok (.iload_n 3, 1) := by decide +kernel
theorem dX11_couldOf_14 : decode cX11_couldOf 14 = .ok (.iconst 0, 1) := by decide +kernel
theorem dX11_couldOf_15 : decode cX11_couldOf 15 = .ok (.invokevirtual 152, 3) := by decide +kernel
theorem dX11_couldOf_18 : decode cX11_couldOf 18 = .ok (.aload_n 0, 1) := by decide +kernel
theorem dX11_couldOf_19 : decode cX11_couldOf 19 = .ok (.aload_n 0, 1) := by decide +kernel
theorem dX11_couldOf_20 : decode cX11_couldOf 20 = .ok (.getfield 78, 3) := by decide +kernel
theorem dX11_couldOf_23 : decode cX11_couldOf 23 = .ok (.iload_n 1, 1) := by decide +kernel
theorem dX11_couldOf_24 : decode cX11_couldOf 24 = .ok (.iaload, 1) := by decide +kernel
theorem dX11_couldOf_25 : decode cX11_couldOf 25 = .ok (.iconst 0, 1) := by decide +kernel
theorem dX11_couldOf_26 : decode cX11_couldOf 26 = .ok (.invokevirtual 152, 3) := by decide +kernel
theorem dX11_couldOf_29 : decode cX11_couldOf 29 = .ok (.if_icmp .ne 7, 3) := by decide +kernel
theorem dX11_couldOf_32 : decode cX11_couldOf 32 = .ok (.iconst 1, 1) := by decide +kernel
theorem dX11_couldOf_33 : decode cX11_couldOf 33 = .ok (.goto 4, 3) := by decide +kernel
theorem dX11_couldOf_36 : decode cX11_couldOf 36 = .ok (.iconst 0, 1) := by decide +kernel
theorem dX11_couldOf_37 : decode cX11_couldOf 37 = .ok (.istore 4, 2) := by decide +kernel
theorem dX11_couldOf_39 : decode cX11_couldOf 39 = .ok (.iconst 0, 1) := by decide +kernel
theorem dX11_couldOf_40 : decode cX11_couldOf 40 = .ok (.istore 5, 2) := by decide +kernel
theorem dX11_couldOf_42 : decode cX11_couldOf 42 = .ok (.iload 5, 2) := by decide +kernel
theorem dX11_couldOf_44 : decode cX11_couldOf 44 = .ok (.iconst 4, 1) := by decide +kernel
theorem dX11_couldOf_45 : decode cX11_couldOf 45 = .ok (.if_icmp .ge 57, 3) := by decide +kernel
theorem dX11_couldOf_48 : decode cX11_couldOf 48 = .ok (.iload 4, 2) := by decide +kernel
theorem dX11_couldOf_50 : decode cX11_couldOf 50 = .ok (.ifCond .eq 43, 3) := by decide +kernel
theorem dX11_couldOf_53 : decode cX11_couldOf 53 = .ok (.aload_n 0, 1) := by decide +kernel
theorem dX11_couldOf_54 : decode cX11_couldOf 54 = .ok (.getfield 81, 3) := by decide +kernel
theorem dX11_couldOf_57 : decode cX11_couldOf 57 = .ok (.iload_n 1, 1) := by decide +kernel
theorem dX11_couldOf_58 : decode cX11_couldOf 58 = .ok (.iaload, 1) := by decide +kernel
theorem dX11_couldOf_59 : decode cX11_couldOf 59 = .ok (.iload 5, 2) := by decide +kernel
theorem dX11_couldOf_61 : decode cX11_couldOf 61 = .ok (.ishr, 1) := by decide +kernel
theorem dX11_couldOf_62 : decode cX11_couldOf 62 = .ok (.iconst 1, 1) := by decide +kernel
theorem dX11_couldOf_63 : decode cX11_couldOf 63 = .ok (.iand, 1) := by decide +kernel
theorem dX11_couldOf_64 : decode cX11_couldOf 64 = .ok (.ifCond .eq 25, 3) := by decide +kernel
theorem dX11_couldOf_67 : decode cX11_couldOf 67 = .ok (.aload_n 0, 1) := by decide +kernel
theorem dX11_couldOf_68 : decode cX11_couldOf 68 = .ok (.iload_n 3, 1) := by decide +kernel
theorem dX11_couldOf_69 : decode cX11_couldOf 69 = .ok (.iload 5, 2) := by decide +kernel
theorem dX11_couldOf_71 : decode cX11_couldOf 71 = .ok (.invokevirtual 143, 3) := by decide +kernel
theorem dX11_couldOf_74 : decode cX11_couldOf 74 = .ok (.aload_n 0, 1) := by decide +kernel
theorem dX11_couldOf_75 : decode cX11_couldOf 75 = .ok (.aload_n 0, 1) := by decide +kernel
theorem dX11_couldOf_76 : decode cX11_couldOf 76 = .ok (.getfield 78, 3) := by decide +kernel
theorem dX11_couldOf_79 : decode cX11_couldOf 79 = .ok (.iload_n 1, 1) := by decide +kernel
theorem dX11_couldOf_80 : decode cX11_couldOf 80 = .ok (.iaload, 1) := by decide +kernel
theorem dX11_couldOf_81 : decode cX11_couldOf 81 = .ok (.iload 5, 2) := by decide +kernel
theorem dX11_couldOf_83 : decode cX11_couldOf 83 = .ok (.invokevirtual 143, 3) := by decide +kernel
theorem dX11_couldOf_86 : decode cX11_couldOf 86 = .ok (.if_icmp .ne 7, 3) := by decide +kernel
theorem dX11_couldOf_89 : decode cX11_couldOf 89 = .ok (.iconst 1, 1) := by decide +kernel
theorem dX11_couldOf_90 : decode cX11_couldOf 90 = .ok (.goto 4, 3) := by decide +kernel
theorem dX11_couldOf_93 : decode cX11_couldOf 93 = .ok (.iconst 0, 1) := by decide +kernel
theorem dX11_couldOf_94 : decode cX11_couldOf 94 = .ok (.istore 4, 2) := by decide +kernel
theorem dX11_couldOf_96 : decode cX11_couldOf 96 = .ok (.iinc 5 1, 3) := by decide +kernel
theorem dX11_couldOf_99 : decode cX11_couldOf 99 = .ok (.goto (-57), 3) := by decide +kernel
theorem dX11_couldOf_102 : decode cX11_couldOf 102 = .ok (.iload_n 2, 1) := by decide +kernel
theorem dX11_couldOf_103 : decode cX11_couldOf 103 = .ok (.iload 4, 2) := by decide +kernel
theorem dX11_couldOf_105 : decode cX11_couldOf 105 = .ok (.ifCond .eq 14, 3) := by decide +kernel
theorem dX11_couldOf_108 : decode cX11_couldOf 108 = .ok (.iconst 1, 1) := by decide +kernel
theorem dX11_couldOf_109 : decode cX11_couldOf 109 = .ok (.aload_n 0, 1) := by decide +kernel
theorem dX11_couldOf_110 : decode cX11_couldOf 110 = .ok (.iload_n 3, 1) := by decide +kernel
theorem dX11_couldOf_111 : decode cX11_couldOf 111 = .ok (.iconst 1, 1) := by decide +kernel
theorem dX11_couldOf_112 : decode cX11_couldOf 112 = .ok (.invokevirtual 152, 3) := by decide +kernel
theorem dX11_couldOf_115 : decode cX11_couldOf 115 = .ok (.ishl, 1) := by decide +kernel
theorem dX11_couldOf_116 : decode cX11_couldOf 116 = .ok (.goto 4, 3) := by decide +kernel
theorem dX11_couldOf_119 : decode cX11_couldOf 119 = .ok (.iconst 0, 1) := by decide +kernel
theorem dX11_couldOf_120 : decode cX11_couldOf 120 = .ok (.ior, 1) := by decide +kernel
theorem dX11_couldOf_121 : decode cX11_couldOf 121 = .ok (.istore_n 2, 1) := by decide +kernel
theorem dX11_couldOf_122 : decode cX11_couldOf 122 = .ok (.iinc 3 1, 3) := by decide +kernel
theorem dX11_couldOf_125 : decode cX11_couldOf 125 = .ok (.goto (-121), 3) := by decide +kernel
theorem dX11_couldOf_128 : decode cX11_couldOf 128 = .ok (.iload_n 2, 1) := by decide +kernel
theorem dX11_couldOf_129 : decode cX11_couldOf 129 = .ok (.ireturn, 1) := by decide +kernel
theorem dX11_together_0 : decode cX11_together 0 = .ok (.aload_n 0, 1) := by decide +kernel
theorem dX11_together_1 : decode cX11_together 1 = .ok (.iconst 0, 1) := by decide +kernel
theorem dX11_together_2 : decode cX11_together 2 = .ok (.putfield 1, 3) := by decide +kernel
theorem dX11_together_5 : decode cX11_together 5 = .ok (.iload_n 1, 1) := by decide +kernel
theorem dX11_together_6 : decode cX11_together 6 = .ok (.iconst 1, 1) := by decide +kernel
theorem dX11_together_7 : decode cX11_together 7 = .ok (.if_icmp .lt 13, 3) := by decide +kernel
theorem dX11_together_10 : decode cX11_together 10 = .ok (.iload_n 1, 1) := by decide +kernel
theorem dX11_together_11 : decode cX11_together 11 = .ok (.iconst 1, 1) := by decide +kernel
theorem dX11_together_12 : decode cX11_together 12 = .ok (.aload_n 0, 1) := by decide +kernel
theorem dX11_together_13 : decode cX11_together 13 = .ok (.getfield 316, 3) := by decide +kernel
theorem dX11_together_16 : decode cX11_together 16 = .ok (.ishl, 1) := by decide +kernel
theorem dX11_together_17 : decode cX11_together 17 = .ok (.if_icmp .lt 6, 3) := by decide +kernel
theorem dX11_together_20 : decode cX11_together 20 = .ok (.ldc 108, 2) := by decide +kernel
theorem dX11_together_22 : decode cX11_together 22 = .ok (.ireturn, 1) := by decide +kernel
theorem dX11_together_23 : decode cX11_together 23 = .ok (.bipush 63, 2) := by decide +kernel
theorem dX11_together_25 : decode cX11_together 25 = .ok (.istore_n 2, 1) := by decide +kernel
theorem dX11_together_26 : decode cX11_together 26 = .ok (.iconst 0, 1) := by decide +kernel
theorem dX11_together_27 : decode cX11_together 27 = .ok (.istore_n 3, 1) := by decide +kernel
theorem dX11_together_28 : decode cX11_together 28 = .ok (.iload_n 3, 1) := by decide +kernel
theorem dX11_together_29 : decode cX11_together 29 = .ok (.aload_n 0, 1) := by decide +kernel
theorem dX11_together_30 : decode cX11_together 30 = .ok (.getfield 316, 3) := by decide +kernel
theorem dX11_together_33 : decode cX11_together 33 = .ok (.if_icmp .ge 31, 3) := by decide +kernel
theorem dX11_together_36 : decode cX11_together 36 = .ok (.iload_n 2, 1) := by decide +kernel
theorem dX11_together_37 : decode cX11_together 37 = .ok (.iload_n 1, 1) := by decide +kernel
theorem dX11_together_38 : decode cX11_together 38 = .ok (.iload_n 3, 1) := by decide +kernel
theorem dX11_together_39 : decode cX11_together 39 = .ok (.ishr, 1) := by decide +kernel
theorem dX11_together_40 : decode cX11_together 40 = .ok (.iconst 1, 1) := by decide +kernel
theorem dX11_together_41 : decode cX11_together 41 = .ok (.iand, 1) := by decide +kernel
theorem dX11_together_42 : decode cX11_together 42 = .ok (.iconst 1, 1) := by decide +kernel
theorem dX11_together_43 : decode cX11_together 43 = .ok (.if_icmp .ne 11, 3) := by decide +kernel
theorem dX11_together_46 : decode cX11_together 46 = .ok (.aload_n 0, 1) := by decide +kernel
theorem dX11_together_47 : decode cX11_together 47 = .ok (.iload_n 3, 1) := by decide +kernel
theorem dX11_together_48 : decode cX11_together 48 = .ok (.invokevirtual 319, 3) := by decide +kernel
theorem dX11_together_51 : decode cX11_together 51 = .ok (.goto 5, 3) := by decide +kernel
theorem dX11_together_54 : decode cX11_together 54 = .ok (.bipush 63, 2) := by decide +kernel
theorem dX11_together_56 : decode cX11_together 56 = .ok (.iand, 1) := by decide +kernel
theorem dX11_together_57 : decode cX11_together 57 = .ok (.istore_n 2, 1) := by decide +kernel
theorem dX11_together_58 : decode cX11_together 58 = .ok (.iinc 3 1, 3) := by decide +kernel
theorem dX11_together_61 : decode cX11_together 61 = .ok (.goto (-33), 3) := by decide +kernel
theorem dX11_together_64 : decode cX11_together 64 = .ok (.iload_n 2, 1) := by decide +kernel
theorem dX11_together_65 : decode cX11_together 65 = .ok (.ireturn, 1) := by decide +kernel
theorem dX11_waitsOf_0 : decode cX11_waitsOf 0 = .ok (.iconst 0, 1) := by decide +kernel
theorem dX11_waitsOf_1 : decode cX11_waitsOf 1 = .ok (.istore_n 3, 1) := by decide +kernel
theorem dX11_waitsOf_2 : decode cX11_waitsOf 2 = .ok (.iconst 0, 1) := by decide +kernel
theorem dX11_waitsOf_3 : decode cX11_waitsOf 3 = .ok (.istore 4, 2) := by decide +kernel
theorem dX11_waitsOf_5 : decode cX11_waitsOf 5 = .ok (.iconst 0, 1) := by decide +kernel
theorem dX11_waitsOf_6 : decode cX11_waitsOf 6 = .ok (.istore 5, 2) := by decide +kernel
theorem dX11_waitsOf_8 : decode cX11_waitsOf 8 = .ok (.iload 5, 2) := by decide +kernel
theorem dX11_waitsOf_10 : decode cX11_waitsOf 10 = .ok (.iload_n 2, 1) := by decide +kernel
theorem dX11_waitsOf_11 : decode cX11_waitsOf 11 = .ok (.if_icmp .ge 73, 3) := by decide +kernel
theorem dX11_waitsOf_14 : decode cX11_waitsOf 14 = .ok (.aload_n 0, 1) := by decide +kernel
theorem dX11_waitsOf_15 : decode cX11_waitsOf 15 = .ok (.getfield 24, 3) := by decide +kernel
theorem dX11_waitsOf_18 : decode cX11_waitsOf 18 = .ok (.iload_n 1, 1) := by decide +kernel
theorem dX11_waitsOf_19 : decode cX11_waitsOf 19 = .ok (.iconst 2, 1) := by decide +kernel
theorem dX11_waitsOf_20 : decode cX11_waitsOf 20 = .ok (.aload_n 0, 1) := by decide +kernel
theorem dX11_waitsOf_21 : decode cX11_waitsOf 21 = .ok (.getfield 84, 3) := by decide +kernel
theorem dX11_waitsOf_24 : decode cX11_waitsOf 24 = .ok (.iload 5, 2) := by decide +kernel
theorem dX11_waitsOf_26 : decode cX11_waitsOf 26 = .ok (.iaload, 1) := by decide +kernel
theorem dX11_waitsOf_27 : decode cX11_waitsOf 27 = .ok (.imul, 1) := by decide +kernel
theorem dX11_waitsOf_28 : decode cX11_waitsOf 28 = .ok (.iadd, 1) := by decide +kernel
theorem dX11_waitsOf_29 : decode cX11_waitsOf 29 = .ok (.iaload, 1) := by decide +kernel
theorem dX11_waitsOf_30 : decode cX11_waitsOf 30 = .ok (.istore 6, 2) := by decide +kernel
theorem dX11_waitsOf_32 : decode cX11_waitsOf 32 = .ok (.iload 6, 2) := by decide +kernel
theorem dX11_waitsOf_34 : decode cX11_waitsOf 34 = .ok (.iload_n 3, 1) := by decide +kernel
theorem dX11_waitsOf_35 : decode cX11_waitsOf 35 = .ok (.if_icmp .le 8, 3) := by decide +kernel
theorem dX11_waitsOf_38 : decode cX11_waitsOf 38 = .ok (.iload 6, 2) := by decide +kernel
theorem dX11_waitsOf_40 : decode cX11_waitsOf 40 = .ok (.goto 4, 3) := by decide +kernel
theorem dX11_waitsOf_43 : decode cX11_waitsOf 43 = .ok (.iload_n 3, 1) := by decide +kernel
theorem dX11_waitsOf_44 : decode cX11_waitsOf 44 = .ok (.istore 7, 2) := by decide +kernel
theorem dX11_waitsOf_46 : decode cX11_waitsOf 46 = .ok (.iload 4, 2) := by decide +kernel
theorem dX11_waitsOf_48 : decode cX11_waitsOf 48 = .ok (.iload 7, 2) := by decide +kernel
theorem dX11_waitsOf_50 : decode cX11_waitsOf 50 = .ok (.iload 6, 2) := by decide +kernel
theorem dX11_waitsOf_52 : decode cX11_waitsOf 52 = .ok (.isub, 1) := by decide +kernel
theorem dX11_waitsOf_53 : decode cX11_waitsOf 53 = .ok (.iadd, 1) := by decide +kernel
theorem dX11_waitsOf_54 : decode cX11_waitsOf 54 = .ok (.istore 4, 2) := by decide +kernel
theorem dX11_waitsOf_56 : decode cX11_waitsOf 56 = .ok (.iload 7, 2) := by decide +kernel
theorem dX11_waitsOf_58 : decode cX11_waitsOf 58 = .ok (.aload_n 0, 1) := by decide +kernel
theorem dX11_waitsOf_59 : decode cX11_waitsOf 59 = .ok (.getfield 24, 3) := by decide +kernel
theorem dX11_waitsOf_62 : decode cX11_waitsOf 62 = .ok (.iload_n 1, 1) := by decide +kernel
theorem dX11_waitsOf_63 : decode cX11_waitsOf 63 = .ok (.iconst 2, 1) := by decide +kernel
theorem dX11_waitsOf_64 : decode cX11_waitsOf 64 = .ok (.aload_n 0, 1) := by decide +kernel
theorem dX11_waitsOf_65 : decode cX11_waitsOf 65 = .ok (.getfield 84, 3) := by decide +kernel
theorem dX11_waitsOf_68 : decode cX11_waitsOf 68 = .ok (.iload 5, 2) := by decide +kernel
theorem dX11_waitsOf_70 : decode cX11_waitsOf 70 = .ok (.iaload, 1) := by decide +kernel
theorem dX11_waitsOf_71 : decode cX11_waitsOf 71 = .ok (.imul, 1) := by decide +kernel
theorem dX11_waitsOf_72 : decode cX11_waitsOf 72 = .ok (.iadd, 1) := by decide +kernel
theorem dX11_waitsOf_73 : decode cX11_waitsOf 73 = .ok (.iconst 1, 1) := by decide +kernel
theorem dX11_waitsOf_74 : decode cX11_waitsOf 74 = .ok (.iadd, 1) := by decide +kernel
theorem dX11_waitsOf_75 : decode cX11_waitsOf 75 = .ok (.iaload, 1) := by decide +kernel
theorem dX11_waitsOf_76 : decode cX11_waitsOf 76 = .ok (.iadd, 1) := by decide +kernel
theorem dX11_waitsOf_77 : decode cX11_waitsOf 77 = .ok (.istore_n 3, 1) := by decide +kernel
theorem dX11_waitsOf_78 : decode cX11_waitsOf 78 = .ok (.iinc 5 1, 3) := by decide +kernel
theorem dX11_waitsOf_81 : decode cX11_waitsOf 81 = .ok (.goto (-73), 3) := by decide +kernel
theorem dX11_waitsOf_84 : decode cX11_waitsOf 84 = .ok (.iload 4, 2) := by decide +kernel
theorem dX11_waitsOf_86 : decode cX11_waitsOf 86 = .ok (.ireturn, 1) := by decide +kernel
theorem dX11_nextOrder_0 : decode cX11_nextOrder 0 = .ok (.iload_n 1, 1) := by decide +kernel
theorem dX11_nextOrder_1 : decode cX11_nextOrder 1 = .ok (.iconst 2, 1) := by decide +kernel
theorem dX11_nextOrder_2 : decode cX11_nextOrder 2 = .ok (.isub, 1) := by decide +kernel
theorem dX11_nextOrder_3 : decode cX11_nextOrder 3 = .ok (.istore_n 2, 1) := by decide +kernel
theorem dX11_nextOrder_4 : decode cX11_nextOrder 4 = .ok (.iload_n 2, 1) := by decide +kernel
theorem dX11_nextOrder_5 : decode cX11_nextOrder 5 = .ok (.ifCond .lt 26, 3) := by decide +kernel
theorem dX11_nextOrder_8 : decode cX11_nextOrder 8 = .ok (.aload_n 0, 1) := by decide +kernel
theorem dX11_nextOrder_9 : decode cX11_nextOrder 9 = .ok (.getfield 84, 3) := by decide +kernel
theorem dX11_nextOrder_12 : decode cX11_nextOrder 12 = .ok (.iload_n 2, 1) := by decide +kernel
theorem dX11_nextOrder_13 : decode cX11_nextOrder 13 = .ok (.iaload, 1) := by decide +kernel
theorem dX11_nextOrder_14 : decode cX11_nextOrder 14 = .ok (.aload_n 0, 1) := by decide +kernel
theorem dX11_nextOrder_15 : decode cX11_nextOrder 15 = .ok (.getfield 84, 3) := by decide +kernel
theorem dX11_nextOrder_18 : decode cX11_nextOrder 18 = .ok (.iload_n 2, 1) := by decide +kernel
theorem dX11_nextOrder_19 : decode cX11_nextOrder 19 = .ok (.iconst 1, 1) := by decide +kernel
theorem dX11_nextOrder_20 : decode cX11_nextOrder 20 = .ok (.iadd, 1) := by decide +kernel
theorem dX11_nextOrder_21 : decode cX11_nextOrder 21 = .ok (.iaload, 1) := by decide +kernel
theorem dX11_nextOrder_22 : decode cX11_nextOrder 22 = .ok (.if_icmp .le 9, 3) := by decide +kernel
theorem dX11_nextOrder_25 : decode cX11_nextOrder 25 = .ok (.iinc 2 (-1), 3) := by decide +kernel
theorem dX11_nextOrder_28 : decode cX11_nextOrder 28 = .ok (.goto (-24), 3) := by decide +kernel
theorem dX11_nextOrder_31 : decode cX11_nextOrder 31 = .ok (.iload_n 2, 1) := by decide +kernel
theorem dX11_nextOrder_32 : decode cX11_nextOrder 32 = .ok (.ifCond .ge 5, 3) := by decide +kernel
theorem dX11_nextOrder_35 : decode cX11_nextOrder 35 = .ok (.iconst 0, 1) := by decide +kernel
theorem dX11_nextOrder_36 : decode cX11_nextOrder 36 = .ok (.ireturn, 1) := by decide +kernel
theorem dX11_nextOrder_37 : decode cX11_nextOrder 37 = .ok (.iload_n 1, 1) := by decide +kernel
theorem dX11_nextOrder_38 : decode cX11_nextOrder 38 = .ok (.iconst 1, 1) := by decide +kernel
theorem dX11_nextOrder_39 : decode cX11_nextOrder 39 = .ok (.isub, 1) := by decide +kernel
theorem dX11_nextOrder_40 : decode cX11_nextOrder 40 = .ok (.istore_n 3, 1) := by decide +kernel
theorem dX11_nextOrder_41 : decode cX11_nextOrder 41 = .ok (.aload_n 0, 1) := by decide +kernel
theorem dX11_nextOrder_42 : decode cX11_nextOrder 42 = .ok (.getfield 84, 3) := by decide +kernel
theorem dX11_nextOrder_45 : decode cX11_nextOrder 45 = .ok (.iload_n 3, 1) := by decide +kernel
theorem dX11_nextOrder_46 : decode cX11_nextOrder 46 = .ok (.iaload, 1) := by decide +kernel
theorem dX11_nextOrder_47 : decode cX11_nextOrder 47 = .ok (.aload_n 0, 1) := by decide +kernel
theorem dX11_nextOrder_48 : decode cX11_nextOrder 48 = .ok (.getfield 84, 3) := by decide +kernel
theorem dX11_nextOrder_51 : decode cX11_nextOrder 51 = .ok (.iload_n 2, 1) := by decide +kernel
theorem dX11_nextOrder_52 : decode cX11_nextOrder 52 = .ok (.iaload, 1) := by decide +kernel
theorem dX11_nextOrder_53 : decode cX11_nextOrder 53 = .ok (.if_icmp .ge 9, 3) := by decide +kernel
theorem dX11_nextOrder_56 : decode cX11_nextOrder 56 = .ok (.iinc 3 (-1), 3) := by decide +kernel
theorem dX11_nextOrder_59 : decode cX11_nextOrder 59 = .ok (.goto (-18), 3) := by decide +kernel
theorem dX11_nextOrder_62 : decode cX11_nextOrder 62 = .ok (.aload_n 0, 1) := by decide +kernel
theorem dX11_nextOrder_63 : decode cX11_nextOrder 63 = .ok (.getfield 84, 3) := by decide +kernel
theorem dX11_nextOrder_66 : decode cX11_nextOrder 66 = .ok (.iload_n 2, 1) := by decide +kernel
theorem dX11_nextOrder_67 : decode cX11_nextOrder 67 = .ok (.iaload, 1) := by decide +kernel
theorem dX11_nextOrder_68 : decode cX11_nextOrder 68 = .ok (.istore 4, 2) := by decide +kernel
theorem dX11_nextOrder_70 : decode cX11_nextOrder 70 = .ok (.aload_n 0, 1) := by decide +kernel
theorem dX11_nextOrder_71 : decode cX11_nextOrder 71 = .ok (.getfield 84, 3) := by decide +kernel
theorem dX11_nextOrder_74 : decode cX11_nextOrder 74 = .ok (.iload_n 2, 1) := by decide +kernel
theorem dX11_nextOrder_75 : decode cX11_nextOrder 75 = .ok (.aload_n 0, 1) := by decide +kernel
theorem dX11_nextOrder_76 : decode cX11_nextOrder 76 = .ok (.getfield 84, 3) := by decide +kernel
theorem dX11_nextOrder_79 : decode cX11_nextOrder 79 = .ok (.iload_n 3, 1) := by decide +kernel
theorem dX11_nextOrder_80 : decode cX11_nextOrder 80 = .ok (.iaload, 1) := by decide +kernel
theorem dX11_nextOrder_81 : decode cX11_nextOrder 81 = .ok (.iastore, 1) := by decide +kernel
theorem dX11_nextOrder_82 : decode cX11_nextOrder 82 = .ok (.aload_n 0, 1) := by decide +kernel
theorem dX11_nextOrder_83 : decode cX11_nextOrder 83 = .ok (.getfield 84, 3) := by decide +kernel
theorem dX11_nextOrder_86 : decode cX11_nextOrder 86 = .ok (.iload_n 3, 1) := by decide +kernel
theorem dX11_nextOrder_87 : decode cX11_nextOrder 87 = .ok (.iload 4, 2) := by decide +kernel
theorem dX11_nextOrder_89 : decode cX11_nextOrder 89 = .ok (.iastore, 1) := by decide +kernel
theorem dX11_nextOrder_90 : decode cX11_nextOrder 90 = .ok (.iload_n 2, 1) := by decide +kernel
theorem dX11_nextOrder_91 : decode cX11_nextOrder 91 = .ok (.iconst 1, 1) := by decide +kernel
theorem dX11_nextOrder_92 : decode cX11_nextOrder 92 = .ok (.iadd, 1) := by decide +kernel
theorem dX11_nextOrder_93 : decode cX11_nextOrder 93 = .ok (.istore 5, 2) := by decide +kernel
theorem dX11_nextOrder_95 : decode cX11_nextOrder 95 = .ok (.iload_n 1, 1) := by decide +kernel
theorem dX11_nextOrder_96 : decode cX11_nextOrder 96 = .ok (.iconst 1, 1) := by decide +kernel
theorem dX11_nextOrder_97 : decode cX11_nextOrder 97 = .ok (.isub, 1) := by decide +kernel
theorem dX11_nextOrder_98 : decode cX11_nextOrder 98 = .ok (.istore 6, 2) := by decide +kernel
theorem dX11_nextOrder_100 : decode cX11_nextOrder 100 = .ok (.iload 5, 2) := by decide +kernel
theorem dX11_nextOrder_102 : decode cX11_nextOrder 102 = .ok (.iload 6, 2) := by decide +kernel
theorem dX11_nextOrder_104 : decode cX11_nextOrder 104 = .ok (.if_icmp .ge 44, 3) := by decide +kernel
theorem dX11_nextOrder_107 : decode cX11_nextOrder 107 = .ok (.aload_n 0, 1) := by decide +kernel
theorem dX11_nextOrder_108 : decode cX11_nextOrder 108 = .ok (.getfield 84, 3) := by decide +kernel
theorem dX11_nextOrder_111 : decode cX11_nextOrder 111 = .ok (.iload 5, 2) := by decide +kernel
theorem dX11_nextOrder_113 : decode cX11_nextOrder 113 = .ok (.iaload, 1) := by decide +kernel
theorem dX11_nextOrder_114 : decode cX11_nextOrder 114 = .ok (.istore 4, 2) := by decide +kernel
theorem dX11_nextOrder_116 : decode cX11_nextOrder 116 = .ok (.aload_n 0, 1) := by decide +kernel
theorem dX11_nextOrder_117 : decode cX11_nextOrder 117 = .ok (.getfield 84, 3) := by decide +kernel
theorem dX11_nextOrder_120 : decode cX11_nextOrder 120 = .ok (.iload 5, 2) := by decide +kernel
theorem dX11_nextOrder_122 : decode cX11_nextOrder 122 = .ok (.aload_n 0, 1) := by decide +kernel
theorem dX11_nextOrder_123 : decode cX11_nextOrder 123 = .ok (.getfield 84, 3) := by decide +kernel
theorem dX11_nextOrder_126 : decode cX11_nextOrder 126 = .ok (.iload 6, 2) := by decide +kernel
theorem dX11_nextOrder_128 : decode cX11_nextOrder 128 = .ok (.iaload, 1) := by decide +kernel
theorem dX11_nextOrder_129 : decode cX11_nextOrder 129 = .ok (.iastore, 1) := by decide +kernel
theorem dX11_nextOrder_130 : decode cX11_nextOrder 130 = .ok (.aload_n 0, 1) := by decide +kernel
theorem dX11_nextOrder_131 : decode cX11_nextOrder 131 = .ok (.getfield 84, 3) := by decide +kernel
theorem dX11_nextOrder_134 : decode cX11_nextOrder 134 = .ok (.iload 6, 2) := by decide +kernel
theorem dX11_nextOrder_136 : decode cX11_nextOrder 136 = .ok (.iload 4, 2) := by decide +kernel
theorem dX11_nextOrder_138 : decode cX11_nextOrder 138 = .ok (.iastore, 1) := by decide +kernel
theorem dX11_nextOrder_139 : decode cX11_nextOrder 139 = .ok (.iinc 5 1, 3) := by decide +kernel
theorem dX11_nextOrder_142 : decode cX11_nextOrder 142 = .ok (.iinc 6 (-1), 3) := by decide +kernel
theorem dX11_nextOrder_145 : decode cX11_nextOrder 145 = .ok (.goto (-45), 3) := by decide +kernel
theorem dX11_nextOrder_148 : decode cX11_nextOrder 148 = .ok (.iconst 1, 1) := by decide +kernel
theorem dX11_nextOrder_149 : decode cX11_nextOrder 149 = .ok (.ireturn, 1) := by decide +kernel
theorem dX11_queue_0 : decode cX11_queue 0 = .ok (.aload_n 0, 1) := by decide +kernel
theorem dX11_queue_1 : decode cX11_queue 1 = .ok (.iconst 0, 1) := by decide +kernel
theorem dX11_queue_2 : decode cX11_queue 2 = .ok (.putfield 1, 3) := by decide +kernel
theorem dX11_queue_5 : decode cX11_queue 5 = .ok (.iload_n 1, 1) := by decide +kernel
theorem dX11_queue_6 : decode cX11_queue 6 = .ok (.invokestatic 102, 3) := by decide +kernel
theorem dX11_queue_9 : decode cX11_queue 9 = .ok (.ifCond .eq 31, 3) := by decide +kernel
theorem dX11_queue_12 : decode cX11_queue 12 = .ok (.iload_n 3, 1) := by decide +kernel
theorem dX11_queue_13 : decode cX11_queue 13 = .ok (.i2l, 1) := by decide +kernel
theorem dX11_queue_14 : decode cX11_queue 14 = .ok (.lconst 1, 1) := by decide +kernel
theorem dX11_queue_15 : decode cX11_queue 15 = .ok (.ldc2_w 100, 3) := by decide +kernel
theorem dX11_queue_18 : decode cX11_queue 18 = .ok (.invokestatic 96, 3) := by decide +kernel
theorem dX11_queue_21 : decode cX11_queue 21 = .ok (.ifCond .eq 19, 3) := by decide +kernel
theorem dX11_queue_24 : decode cX11_queue 24 = .ok (.iload 4, 2) := by decide +kernel
theorem dX11_queue_26 : decode cX11_queue 26 = .ok (.i2l, 1) := by decide +kernel
theorem dX11_queue_27 : decode cX11_queue 27 = .ok (.ldc2_w 322, 3) := by decide +kernel
theorem dX11_queue_30 : decode cX11_queue 30 = .ok (.iload_n 3, 1) := by decide +kernel
theorem dX11_queue_31 : decode cX11_queue 31 = .ok (.iconst 1, 1) := by decide +kernel
theorem dX11_queue_32 : decode cX11_queue 32 = .ok (.isub, 1) := by decide +kernel
theorem dX11_queue_33 : decode cX11_queue 33 = .ok (.i2l, 1) := by decide +kernel
theorem dX11_queue_34 : decode cX11_queue 34 = .ok (.invokestatic 96, 3) := by decide +kernel
theorem dX11_queue_37 : decode cX11_queue 37 = .ok (.ifCond .ne 6, 3) := by decide +kernel
theorem dX11_queue_40 : decode cX11_queue 40 = .ok (.ldc 108, 2) := by decide +kernel
theorem dX11_queue_42 : decode cX11_queue 42 = .ok (.ireturn, 1) := by decide +kernel
theorem dX11_queue_43 : decode cX11_queue 43 = .ok (.aload_n 0, 1) := by decide +kernel
theorem dX11_queue_44 : decode cX11_queue 44 = .ok (.iload_n 1, 1) := by decide +kernel
theorem dX11_queue_45 : decode cX11_queue 45 = .ok (.iload_n 2, 1) := by decide +kernel
theorem dX11_queue_46 : decode cX11_queue 46 = .ok (.iconst 2, 1) := by decide +kernel
theorem dX11_queue_47 : decode cX11_queue 47 = .ok (.iload_n 3, 1) := by decide +kernel
theorem dX11_queue_48 : decode cX11_queue 48 = .ok (.imul, 1) := by decide +kernel
theorem dX11_queue_49 : decode cX11_queue 49 = .ok (.invokevirtual 132, 3) := by decide +kernel
theorem dX11_queue_52 : decode cX11_queue 52 = .ok (.istore 5, 2) := by decide +kernel
theorem dX11_queue_54 : decode cX11_queue 54 = .ok (.iload 5, 2) := by decide +kernel
theorem dX11_queue_56 : decode cX11_queue 56 = .ok (.ifCond .ge 6, 3) := by decide +kernel
theorem dX11_queue_59 : decode cX11_queue 59 = .ok (.iload 5, 2) := by decide +kernel
theorem dX11_queue_61 : decode cX11_queue 61 = .ok (.ireturn, 1) := by decide +kernel
theorem dX11_queue_62 : decode cX11_queue 62 = .ok (.bipush 60, 2) := by decide +kernel
theorem dX11_queue_64 : decode cX11_queue 64 = .ok (.iload_n 1, 1) := by decide +kernel
theorem dX11_queue_65 : decode cX11_queue 65 = .ok (.imul, 1) := by decide +kernel
theorem dX11_queue_66 : decode cX11_queue 66 = .ok (.iload_n 2, 1) := by decide +kernel
theorem dX11_queue_67 : decode cX11_queue 67 = .ok (.iadd, 1) := by decide +kernel
theorem dX11_queue_68 : decode cX11_queue 68 = .ok (.istore 6, 2) := by decide +kernel
theorem dX11_queue_70 : decode cX11_queue 70 = .ok (.iconst 0, 1) := by decide +kernel
theorem dX11_queue_71 : decode cX11_queue 71 = .ok (.istore 7, 2) := by decide +kernel
theorem dX11_queue_73 : decode cX11_queue 73 = .ok (.iload 7, 2) := by decide +kernel
theorem dX11_queue_75 : decode cX11_queue 75 = .ok (.iload_n 3, 1) := by decide +kernel
theorem dX11_queue_76 : decode cX11_queue 76 = .ok (.if_icmp .ge 69, 3) := by decide +kernel
theorem dX11_queue_79 : decode cX11_queue 79 = .ok (.aload_n 0, 1) := by decide +kernel
theorem dX11_queue_80 : decode cX11_queue 80 = .ok (.getfield 24, 3) := by decide +kernel
theorem dX11_queue_83 : decode cX11_queue 83 = .ok (.iload 6, 2) := by decide +kernel
theorem dX11_queue_85 : decode cX11_queue 85 = .ok (.iconst 2, 1) := by decide +kernel
theorem dX11_queue_86 : decode cX11_queue 86 = .ok (.iload 7, 2) := by decide +kernel
theorem dX11_queue_88 : decode cX11_queue 88 = .ok (.imul, 1) := by decide +kernel
theorem dX11_queue_89 : decode cX11_queue 89 = .ok (.iadd, 1) := by decide +kernel
theorem dX11_queue_90 : decode cX11_queue 90 = .ok (.iaload, 1) := by decide +kernel
theorem dX11_queue_91 : decode cX11_queue 91 = .ok (.i2l, 1) := by decide +kernel
theorem dX11_queue_92 : decode cX11_queue 92 = .ok (.lconst 0, 1) := by decide +kernel
theorem dX11_queue_93 : decode cX11_queue 93 = .ok (.ldc2_w 94, 3) := by decide +kernel
theorem dX11_queue_96 : decode cX11_queue 96 = .ok (.invokestatic 96, 3) := by decide +kernel
theorem dX11_queue_99 : decode cX11_queue 99 = .ok (.ifCond .eq 28, 3) := by decide +kernel
theorem dX11_queue_102 : decode cX11_queue 102 = .ok (.aload_n 0, 1) := by decide +kernel
theorem dX11_queue_103 : decode cX11_queue 103 = .ok (.getfield 24, 3) := by decide +kernel
theorem dX11_queue_106 : decode cX11_queue 106 = .ok (.iload 6, 2) := by decide +kernel
theorem dX11_queue_108 : decode cX11_queue 108 = .ok (.iconst 2, 1) := by decide +kernel
theorem dX11_queue_109 : decode cX11_queue 109 = .ok (.iload 7, 2) := by decide +kernel
theorem dX11_queue_111 : decode cX11_queue 111 = .ok (.imul, 1) := by decide +kernel
theorem dX11_queue_112 : decode cX11_queue 112 = .ok (.iadd, 1) := by decide +kernel
theorem dX11_queue_113 : decode cX11_queue 113 = .ok (.iconst 1, 1) := by decide +kernel
theorem dX11_queue_114 : decode cX11_queue 114 = .ok (.iadd, 1) := by decide +kernel
theorem dX11_queue_115 : decode cX11_queue 115 = .ok (.iaload, 1) := by decide +kernel
theorem dX11_queue_116 : decode cX11_queue 116 = .ok (.i2l, 1) := by decide +kernel
theorem dX11_queue_117 : decode cX11_queue 117 = .ok (.lconst 1, 1) := by decide +kernel
theorem dX11_queue_118 : decode cX11_queue 118 = .ok (.ldc2_w 324, 3) := by decide +kernel
theorem dX11_queue_121 : decode cX11_queue 121 = .ok (.invokestatic 96, 3) := by decide +kernel
theorem dX11_queue_124 : decode cX11_queue 124 = .ok (.ifCond .ne 6, 3) := by decide +kernel
theorem dX11_queue_127 : decode cX11_queue 127 = .ok (.ldc 108, 2) := by decide +kernel
theorem dX11_queue_129 : decode cX11_queue 129 = .ok (.ireturn, 1) := by decide +kernel
theorem dX11_queue_130 : decode cX11_queue 130 = .ok (.aload_n 0, 1) := by decide +kernel
theorem dX11_queue_131 : decode cX11_queue 131 = .ok (.getfield 84, 3) := by decide +kernel
theorem dX11_queue_134 : decode cX11_queue 134 = .ok (.iload 7, 2) := by decide +kernel
theorem dX11_queue_136 : decode cX11_queue 136 = .ok (.iload 7, 2) := by decide +kernel
theorem dX11_queue_138 : decode cX11_queue 138 = .ok (.iastore, 1) := by decide +kernel
theorem dX11_queue_139 : decode cX11_queue 139 = .ok (.iinc 7 1, 3) := by decide +kernel
theorem dX11_queue_142 : decode cX11_queue 142 = .ok (.goto (-69), 3) := by decide +kernel
theorem dX11_queue_145 : decode cX11_queue 145 = .ok (.aload_n 0, 1) := by decide +kernel
theorem dX11_queue_146 : decode cX11_queue 146 = .ok (.iconst 0, 1) := by decide +kernel
theorem dX11_queue_147 : decode cX11_queue 147 = .ok (.putfield 7, 3) := by decide +kernel
theorem dX11_queue_150 : decode cX11_queue 150 = .ok (.iconst (-1), 1) := by decide +kernel
theorem dX11_queue_151 : decode cX11_queue 151 = .ok (.istore 7, 2) := by decide +kernel
theorem dX11_queue_153 : decode cX11_queue 153 = .ok (.iconst 1, 1) := by decide +kernel
theorem dX11_queue_154 : decode cX11_queue 154 = .ok (.istore 8, 2) := by decide +kernel
theorem dX11_queue_156 : decode cX11_queue 156 = .ok (.iload 8, 2) := by decide +kernel
theorem dX11_queue_158 : decode cX11_queue 158 = .ok (.ifCond .eq 67, 3) := by decide +kernel
theorem dX11_queue_161 : decode cX11_queue 161 = .ok (.aload_n 0, 1) := by decide +kernel
theorem dX11_queue_162 : decode cX11_queue 162 = .ok (.iload 6, 2) := by decide +kernel
theorem dX11_queue_164 : decode cX11_queue 164 = .ok (.iload_n 3, 1) := by decide +kernel
theorem dX11_queue_165 : decode cX11_queue 165 = .ok (.invokevirtual 326, 3) := by decide +kernel
theorem dX11_queue_168 : decode cX11_queue 168 = .ok (.istore 9, 2) := by decide +kernel
theorem dX11_queue_170 : decode cX11_queue 170 = .ok (.iload 7, 2) := by decide +kernel
theorem dX11_queue_172 : decode cX11_queue 172 = .ok (.ifCond .lt 10, 3) := by decide +kernel
theorem dX11_queue_175 : decode cX11_queue 175 = .ok (.iload 9, 2) := by decide +kernel
theorem dX11_queue_177 : decode cX11_queue 177 = .ok (.iload 7, 2) := by decide +kernel
theorem dX11_queue_179 : decode cX11_queue 179 = .ok (.if_icmp .ge 36, 3) := by decide +kernel
theorem dX11_queue_182 : decode cX11_queue 182 = .ok (.iload 9, 2) := by decide +kernel
theorem dX11_queue_184 : decode cX11_queue 184 = .ok (.istore 7, 2) := by decide +kernel
theorem dX11_queue_186 : decode cX11_queue 186 = .ok (.iconst 0, 1) := by decide +kernel
theorem dX11_queue_187 : decode cX11_queue 187 = .ok (.istore 10, 2) := by decide +kernel
theorem dX11_queue_189 : decode cX11_queue 189 = .ok (.iload 10, 2) := by decide +kernel
theorem dX11_queue_191 : decode cX11_queue 191 = .ok (.iload_n 3, 1) := by decide +kernel
theorem dX11_queue_192 : decode cX11_queue 192 = .ok (.if_icmp .ge 23, 3) := by decide +kernel
theorem dX11_queue_195 : decode cX11_queue 195 = .ok (.aload_n 0, 1) := by decide +kernel
theorem dX11_queue_196 : decode cX11_queue 196 = .ok (.getfield 87, 3) := by decide +kernel
theorem dX11_queue_199 : decode cX11_queue 199 = .ok (.iload 10, 2) := by decide +kernel
theorem dX11_queue_201 : decode cX11_queue 201 = .ok (.aload_n 0, 1) := by decide +kernel
theorem dX11_queue_202 : decode cX11_queue 202 = .ok (.getfield 84, 3) := by decide +kernel
theorem dX11_queue_205 : decode cX11_queue 205 = .ok (.iload 10, 2) := by decide +kernel
theorem dX11_queue_207 : decode cX11_queue 207 = .ok (.iaload, 1) := by decide +kernel
theorem dX11_queue_208 : decode cX11_queue 208 = .ok (.iastore, 1) := by decide +kernel
theorem dX11_queue_209 : decode cX11_queue 209 = .ok (.iinc 10 1, 3) := by decide +kernel
theorem dX11_queue_212 : decode cX11_queue 212 = .ok (.goto (-23), 3) := by decide +kernel
theorem dX11_queue_215 : decode cX11_queue 215 = .ok (.aload_n 0, 1) := by decide +kernel
theorem dX11_queue_216 : decode cX11_queue 216 = .ok (.iload_n 3, 1) := by decide +kernel
theorem dX11_queue_217 : decode cX11_queue 217 = .ok (.invokevirtual 329, 3) := by decide +kernel
theorem dX11_queue_220 : decode cX11_queue 220 = .ok (.istore 8, 2) := by decide +kernel
theorem dX11_queue_222 : decode cX11_queue 222 = .ok (.goto (-66), 3) := by decide +kernel
theorem dX11_queue_225 : decode cX11_queue 225 = .ok (.iload 4, 2) := by decide +kernel
theorem dX11_queue_227 : decode cX11_queue 227 = .ok (.iconst (-1), 1) := by decide +kernel
theorem dX11_queue_228 : decode cX11_queue 228 = .ok (.if_icmp .ne 8, 3) := by decide +kernel
theorem dX11_queue_231 : decode cX11_queue 231 = .ok (.iload 7, 2) := by decide +kernel
theorem dX11_queue_233 : decode cX11_queue 233 = .ok (.goto 10, 3) := by decide +kernel
theorem dX11_queue_236 : decode cX11_queue 236 = .ok (.aload_n 0, 1) := by decide +kernel
theorem dX11_queue_237 : decode cX11_queue 237 = .ok (.getfield 87, 3) := by decide +kernel
theorem dX11_queue_240 : decode cX11_queue 240 = .ok (.iload 4, 2) := by decide +kernel
theorem dX11_queue_242 : decode cX11_queue 242 = .ok (.iaload, 1) := by decide +kernel
theorem dX11_queue_243 : decode cX11_queue 243 = .ok (.ireturn, 1) := by decide +kernel
theorem dX11_day_0 : decode cX11_day 0 = .ok (.aload_n 0, 1) := by decide +kernel
theorem dX11_day_1 : decode cX11_day 1 = .ok (.iconst 0, 1) := by decide +kernel
theorem dX11_day_2 : decode cX11_day 2 = .ok (.putfield 1, 3) := by decide +kernel
theorem dX11_day_5 : decode cX11_day 5 = .ok (.iload_n 1, 1) := by decide +kernel
theorem dX11_day_6 : decode cX11_day 6 = .ok (.invokestatic 118, 3) := by decide +kernel
theorem dX11_day_9 : decode cX11_day 9 = .ok (.ifCond .ne 6, 3) := by decide +kernel
theorem dX11_day_12 : decode cX11_day 12 = .ok (.ldc 108, 2) := by decide +kernel
theorem dX11_day_14 : decode cX11_day 14 = .ok (.ireturn, 1) := by decide +kernel
theorem dX11_day_15 : decode cX11_day 15 = .ok (.aload_n 0, 1) := by decide +kernel
theorem dX11_day_16 : decode cX11_day 16 = .ok (.getfield 332, 3) := by decide +kernel
theorem dX11_day_19 : decode cX11_day 19 = .ok (.istore_n 2, 1) := by decide +kernel
theorem dX11_day_20 : decode cX11_day 20 = .ok (.aload_n 0, 1) := by decide +kernel
theorem dX11_day_21 : decode cX11_day 21 = .ok (.iload_n 1, 1) := by decide +kernel
theorem dX11_day_22 : decode cX11_day 22 = .ok (.putfield 332, 3) := by decide +kernel
theorem dX11_day_25 : decode cX11_day 25 = .ok (.iload_n 2, 1) := by decide +kernel
theorem dX11_day_26 : decode cX11_day 26 = .ok (.ireturn, 1) := by decide +kernel
theorem dX11_kindOf_0 : decode cX11_kindOf 0 = .ok (.aload_n 0, 1) := by decide +kernel
theorem dX11_kindOf_1 : decode cX11_kindOf 1 = .ok (.iload_n 1, 1) := by decide +kernel
theorem dX11_kindOf_2 : decode cX11_kindOf 2 = .ok (.iconst 2, 1) := by decide +kernel
theorem dX11_kindOf_3 : decode cX11_kindOf 3 = .ok (.invokevirtual 152, 3) := by decide +kernel
theorem dX11_kindOf_6 : decode cX11_kindOf 6 = .ok (.istore_n 2, 1) := by decide +kernel
theorem dX11_kindOf_7 : decode cX11_kindOf 7 = .ok (.aload_n 0, 1) := by decide +kernel
theorem dX11_kindOf_8 : decode cX11_kindOf 8 = .ok (.getfield 42, 3) := by decide +kernel
theorem dX11_kindOf_11 : decode cX11_kindOf 11 = .ok (.iload_n 1, 1) := by decide +kernel
theorem dX11_kindOf_12 : decode cX11_kindOf 12 = .ok (.iaload, 1) := by decide +kernel
theorem dX11_kindOf_13 : decode cX11_kindOf 13 = .ok (.aload_n 0, 1) := by decide +kernel
theorem dX11_kindOf_14 : decode cX11_kindOf 14 = .ok (.getfield 332, 3) := by decide +kernel
theorem dX11_kindOf_17 : decode cX11_kindOf 17 = .ok (.invokestatic 211, 3) := by decide +kernel
theorem dX11_kindOf_20 : decode cX11_kindOf 20 = .ok (.ifCond .eq 7, 3) := by decide +kernel
theorem dX11_kindOf_23 : decode cX11_kindOf 23 = .ok (.iconst 5, 1) := by decide +kernel
theorem dX11_kindOf_24 : decode cX11_kindOf 24 = .ok (.goto 22, 3) := by decide +kernel
theorem dX11_kindOf_27 : decode cX11_kindOf 27 = .ok (.iload_n 2, 1) := by decide +kernel
theorem dX11_kindOf_28 : decode cX11_kindOf 28 = .ok (.iconst 2, 1) := by decide +kernel
theorem dX11_kindOf_29 : decode cX11_kindOf 29 = .ok (.if_icmp .ne 7, 3) := by decide +kernel
theorem dX11_kindOf_32 : decode cX11_kindOf 32 = .ok (.iconst 2, 1) := by decide +kernel
theorem dX11_kindOf_33 : decode cX11_kindOf 33 = .ok (.goto 13, 3) := by decide +kernel
theorem dX11_kindOf_36 : decode cX11_kindOf 36 = .ok (.iload_n 2, 1) := by decide +kernel
theorem dX11_kindOf_37 : decode cX11_kindOf 37 = .ok (.iconst 1, 1) := by decide +kernel
theorem dX11_kindOf_38 : decode cX11_kindOf 38 = .ok (.if_icmp .ne 7, 3) := by decide +kernel
theorem dX11_kindOf_41 : decode cX11_kindOf 41 = .ok (.iconst 1, 1) := by decide +kernel
theorem dX11_kindOf_42 : decode cX11_kindOf 42 = .ok (.goto 4, 3) := by decide +kernel
theorem dX11_kindOf_45 : decode cX11_kindOf 45 = .ok (.iload_n 2, 1) := by decide +kernel
theorem dX11_kindOf_46 : decode cX11_kindOf 46 = .ok (.ireturn, 1) := by decide +kernel
theorem dX11_isOf_0 : decode cX11_isOf 0 = .ok (.iload_n 1, 1) := by decide +kernel
theorem dX11_isOf_1 : decode cX11_isOf 1 = .ok (.ifCond .eq 18, 3) := by decide +kernel
theorem dX11_isOf_4 : decode cX11_isOf 4 = .ok (.iload_n 0, 1) := by decide +kernel
theorem dX11_isOf_5 : decode cX11_isOf 5 = .ok (.iload_n 1, 1) := by decide +kernel
theorem dX11_isOf_6 : decode cX11_isOf 6 = .ok (.if_icmp .eq 13, 3) := by decide +kernel
theorem dX11_isOf_9 : decode cX11_isOf 9 = .ok (.iload_n 1, 1) := by decide +kernel
theorem dX11_isOf_10 : decode cX11_isOf 10 = .ok (.iconst 1, 1) := by decide +kernel
theorem dX11_isOf_11 : decode cX11_isOf 11 = .ok (.if_icmp .ne 12, 3) := by decide +kernel
theorem dX11_isOf_14 : decode cX11_isOf 14 = .ok (.iload_n 0, 1) := by decide +kernel
theorem dX11_isOf_15 : decode cX11_isOf 15 = .ok (.iconst 2, 1) := by decide +kernel
theorem dX11_isOf_16 : decode cX11_isOf 16 = .ok (.if_icmp .ne 7, 3) := by decide +kernel
theorem dX11_isOf_19 : decode cX11_isOf 19 = .ok (.iconst 1, 1) := by decide +kernel
theorem dX11_isOf_20 : decode cX11_isOf 20 = .ok (.goto 4, 3) := by decide +kernel
theorem dX11_isOf_23 : decode cX11_isOf 23 = .ok (.iconst 0, 1) := by decide +kernel
theorem dX11_isOf_24 : decode cX11_isOf 24 = .ok (.ireturn, 1) := by decide +kernel
theorem dX11_kind_0 : decode cX11_kind 0 = .ok (.aload_n 0, 1) := by decide +kernel
theorem dX11_kind_1 : decode cX11_kind 1 = .ok (.iconst 0, 1) := by decide +kernel
theorem dX11_kind_2 : decode cX11_kind 2 = .ok (.putfield 1, 3) := by decide +kernel
theorem dX11_kind_5 : decode cX11_kind 5 = .ok (.aload_n 0, 1) := by decide +kernel
theorem dX11_kind_6 : decode cX11_kind 6 = .ok (.iload_n 1, 1) := by decide +kernel
theorem dX11_kind_7 : decode cX11_kind 7 = .ok (.invokevirtual 164, 3) := by decide +kernel
theorem dX11_kind_10 : decode cX11_kind 10 = .ok (.ifCond .eq 11, 3) := by decide +kernel
theorem dX11_kind_13 : decode cX11_kind 13 = .ok (.aload_n 0, 1) := by decide +kernel
theorem dX11_kind_14 : decode cX11_kind 14 = .ok (.iload_n 1, 1) := by decide +kernel
theorem dX11_kind_15 : decode cX11_kind 15 = .ok (.invokevirtual 335, 3) := by decide +kernel
theorem dX11_kind_18 : decode cX11_kind 18 = .ok (.goto 5, 3) := by decide +kernel
theorem dX11_kind_21 : decode cX11_kind 21 = .ok (.ldc 108, 2) := by decide +kernel
theorem dX11_kind_23 : decode cX11_kind 23 = .ok (.ireturn, 1) := by decide +kernel
theorem dX11_as_0 : decode cX11_as 0 = .ok (.aload_n 0, 1) := by decide +kernel
theorem dX11_as_1 : decode cX11_as 1 = .ok (.iconst 0, 1) := by decide +kernel
theorem dX11_as_2 : decode cX11_as 2 = .ok (.putfield 1, 3) := by decide +kernel
theorem dX11_as_5 : decode cX11_as 5 = .ok (.aload_n 0, 1) := by decide +kernel
theorem dX11_as_6 : decode cX11_as 6 = .ok (.iload_n 1, 1) := by decide +kernel
theorem dX11_as_7 : decode cX11_as 7 = .ok (.invokevirtual 164, 3) := by decide +kernel
theorem dX11_as_10 : decode cX11_as 10 = .ok (.ifCond .eq 15, 3) := by decide +kernel
theorem dX11_as_13 : decode cX11_as 13 = .ok (.iload_n 2, 1) := by decide +kernel
theorem dX11_as_14 : decode cX11_as 14 = .ok (.i2l, 1) := by decide +kernel
theorem dX11_as_15 : decode cX11_as 15 = .ok (.lconst 0, 1) := by decide +kernel
theorem dX11_as_16 : decode cX11_as 16 = .ok (.ldc2_w 136, 3) := by decide +kernel
theorem dX11_as_19 : decode cX11_as 19 = .ok (.invokestatic 96, 3) := by decide +kernel
theorem dX11_as_22 : decode cX11_as 22 = .ok (.ifCond .ne 6, 3) := by decide +kernel
theorem dX11_as_25 : decode cX11_as 25 = .ok (.ldc 108, 2) := by decide +kernel
theorem dX11_as_27 : decode cX11_as 27 = .ok (.ireturn, 1) := by decide +kernel
theorem dX11_as_28 : decode cX11_as 28 = .ok (.aload_n 0, 1) := by decide +kernel
theorem dX11_as_29 : decode cX11_as 29 = .ok (.iconst 0, 1) := by decide +kernel
theorem dX11_as_30 : decode cX11_as 30 = .ok (.putfield 7, 3) := by decide +kernel
theorem dX11_as_33 : decode cX11_as 33 = .ok (.aload_n 0, 1) := by decide +kernel
theorem dX11_as_34 : decode cX11_as 34 = .ok (.iload_n 1, 1) := by decide +kernel
theorem dX11_as_35 : decode cX11_as 35 = .ok (.invokevirtual 335, 3) := by decide +kernel
theorem dX11_as_38 : decode cX11_as 38 = .ok (.iload_n 2, 1) := by decide +kernel
theorem dX11_as_39 : decode cX11_as 39 = .ok (.invokestatic 338, 3) := by decide +kernel
theorem dX11_as_42 : decode cX11_as 42 = .ok (.ifCond .eq 12, 3) := by decide +kernel
theorem dX11_as_45 : decode cX11_as 45 = .ok (.aload_n 0, 1) := by decide +kernel
theorem dX11_as_46 : decode cX11_as 46 = .ok (.iload_n 1, 1) := by decide +kernel
theorem dX11_as_47 : decode cX11_as 47 = .ok (.iconst 0, 1) := by decide +kernel
theorem dX11_as_48 : decode cX11_as 48 = .ok (.invokevirtual 152, 3) := by decide +kernel
theorem dX11_as_51 : decode cX11_as 51 = .ok (.goto 8, 3) := by decide +kernel
theorem dX11_as_54 : decode cX11_as 54 = .ok (.aload_n 0, 1) := by decide +kernel
theorem dX11_as_55 : decode cX11_as 55 = .ok (.iconst 3, 1) := by decide +kernel
theorem dX11_as_56 : decode cX11_as 56 = .ok (.invokevirtual 109, 3) := by decide +kernel
theorem dX11_as_59 : decode cX11_as 59 = .ok (.ireturn, 1) := by decide +kernel
theorem dX11_began_0 : decode cX11_began 0 = .ok (.aload_n 0, 1) := by decide +kernel
theorem dX11_began_1 : decode cX11_began 1 = .ok (.getfield 341, 3) := by decide +kernel
theorem dX11_began_4 : decode cX11_began 4 = .ok (.bipush 16, 2) := by decide +kernel
theorem dX11_began_6 : decode cX11_began 6 = .ok (.if_icmp .ge 23, 3) := by decide +kernel
theorem dX11_began_9 : decode cX11_began 9 = .ok (.aload_n 0, 1) := by decide +kernel
theorem dX11_began_10 : decode cX11_began 10 = .ok (.getfield 90, 3) := by decide +kernel
theorem dX11_began_13 : decode cX11_began 13 = .ok (.aload_n 0, 1) := by decide +kernel
theorem dX11_began_14 : decode cX11_began 14 = .ok (.getfield 341, 3) := by decide +kernel
theorem dX11_began_17 : decode cX11_began 17 = .ok (.iload_n 1, 1) := by decide +kernel
theorem dX11_began_18 : decode cX11_began 18 = .ok (.iastore, 1) := by decide +kernel
theorem dX11_began_19 : decode cX11_began 19 = .ok (.aload_n 0, 1) := by decide +kernel
theorem dX11_began_20 : decode cX11_began 20 = .ok (.dup, 1) := by decide +kernel
theorem dX11_began_21 : decode cX11_began 21 = .ok (.getfield 341, 3) := by decide +kernel
theorem dX11_began_24 : decode cX11_began 24 = .ok (.iconst 1, 1) := by decide +kernel
theorem dX11_began_25 : decode cX11_began 25 = .ok (.iadd, 1) := by decide +kernel
theorem dX11_began_26 : decode cX11_began 26 = .ok (.putfield 341, 3) := by decide +kernel
theorem dX11_began_29 : decode cX11_began 29 = .ok (.return_, 1) := by decide +kernel
theorem dX11_daysOf_0 : decode cX11_daysOf 0 = .ok (.aload_n 0, 1) := by decide +kernel
theorem dX11_daysOf_1 : decode cX11_daysOf 1 = .ok (.bipush 10, 2) := by decide +kernel
theorem dX11_daysOf_3 : decode cX11_daysOf 3 = .ok (.invokevirtual 344, 3) := by decide +kernel
theorem dX11_daysOf_6 : decode cX11_daysOf 6 = .ok (.aload_n 0, 1) := by decide +kernel
theorem dX11_daysOf_7 : decode cX11_daysOf 7 = .ok (.iload_n 1, 1) := by decide +kernel
theorem dX11_daysOf_8 : decode cX11_daysOf 8 = .ok (.iconst 4, 1) := by decide +kernel
theorem dX11_daysOf_9 : decode cX11_daysOf 9 = .ok (.invokevirtual 152, 3) := by decide +kernel
theorem dX11_daysOf_12 : decode cX11_daysOf 12 = .ok (.aload_n 0, 1) := by decide +kernel
theorem dX11_daysOf_13 : decode cX11_daysOf 13 = .ok (.iload_n 1, 1) := by decide +kernel
theorem dX11_daysOf_14 : decode cX11_daysOf 14 = .ok (.iconst 3, 1) := by decide +kernel
theorem dX11_daysOf_15 : decode cX11_daysOf 15 = .ok (.invokevirtual 152, 3) := by decide +kernel
theorem dX11_daysOf_18 : decode cX11_daysOf 18 = .ok (.isub, 1) := by decide +kernel
theorem dX11_daysOf_19 : decode cX11_daysOf 19 = .ok (.iconst 1, 1) := by decide +kernel
theorem dX11_daysOf_20 : decode cX11_daysOf 20 = .ok (.iadd, 1) := by decide +kernel
theorem dX11_daysOf_21 : decode cX11_daysOf 21 = .ok (.ireturn, 1) := by decide +kernel
theorem dX11_stampSize_0 : decode cX11_stampSize 0 = .ok (.iload_n 2, 1) := by decide +kernel
theorem dX11_stampSize_1 : decode cX11_stampSize 1 = .ok (.iconst 2, 1) := by decide +kernel
theorem dX11_stampSize_2 : decode cX11_stampSize 2 = .ok (.if_icmp .ne 9, 3) := by decide +kernel
theorem dX11_stampSize_5 : decode cX11_stampSize 5 = .ok (.aload_n 0, 1) := by decide +kernel
theorem dX11_stampSize_6 : decode cX11_stampSize 6 = .ok (.bipush 12, 2) := by decide +kernel
theorem dX11_stampSize_8 : decode cX11_stampSize 8 = .ok (.invokevirtual 344, 3) := by decide +kernel
theorem dX11_stampSize_11 : decode cX11_stampSize 11 = .ok (.aload_n 0, 1) := by decide +kernel
theorem dX11_stampSize_12 : decode cX11_stampSize 12 = .ok (.bipush 11, 2) := by decide +kernel
theorem dX11_stampSize_14 : decode cX11_stampSize 14 = .ok (.invokevirtual 344, 3) := by decide +kernel
theorem dX11_stampSize_17 : decode cX11_stampSize 17 = .ok (.aload_n 0, 1) := by decide +kernel
theorem dX11_stampSize_18 : decode cX11_stampSize 18 = .ok (.iload_n 1, 1) := by decide +kernel
theorem dX11_stampSize_19 : decode cX11_stampSize 19 = .ok (.invokevirtual 347, 3) := by decide +kernel
theorem dX11_stampSize_22 : decode cX11_stampSize 22 = .ok (.aload_n 0, 1) := by decide +kernel
theorem dX11_stampSize_23 : decode cX11_stampSize 23 = .ok (.iload_n 1, 1) := by decide +kernel
theorem dX11_stampSize_24 : decode cX11_stampSize 24 = .ok (.iconst 0, 1) := by decide +kernel
theorem dX11_stampSize_25 : decode cX11_stampSize 25 = .ok (.invokevirtual 143, 3) := by decide +kernel
theorem dX11_stampSize_28 : decode cX11_stampSize 28 = .ok (.iadd, 1) := by decide +kernel
theorem dX11_stampSize_29 : decode cX11_stampSize 29 = .ok (.istore_n 3, 1) := by decide +kernel
theorem dX11_stampSize_30 : decode cX11_stampSize 30 = .ok (.iload_n 2, 1) := by decide +kernel
theorem dX11_stampSize_31 : decode cX11_stampSize 31 = .ok (.iconst 2, 1) := by decide +kernel
theorem dX11_stampSize_32 : decode cX11_stampSize 32 = .ok (.if_icmp .ne 9, 3) := by decide +kernel
theorem dX11_stampSize_35 : decode cX11_stampSize 35 = .ok (.iconst 2, 1) := by decide +kernel
theorem dX11_stampSize_36 : decode cX11_stampSize 36 = .ok (.iload_n 3, 1) := by decide +kernel
theorem dX11_stampSize_37 : decode cX11_stampSize 37 = .ok (.imul, 1) := by decide +kernel
theorem dX11_stampSize_38 : decode cX11_stampSize 38 = .ok (.goto 4, 3) := by decide +kernel
theorem dX11_stampSize_41 : decode cX11_stampSize 41 = .ok (.iload_n 3, 1) := by decide +kernel
theorem dX11_stampSize_42 : decode cX11_stampSize 42 = .ok (.ireturn, 1) := by decide +kernel
theorem dX11_markOf_0 : decode cX11_markOf 0 = .ok (.iload_n 2, 1) := by decide +kernel
theorem dX11_markOf_1 : decode cX11_markOf 1 = .ok (.iconst 2, 1) := by decide +kernel
theorem dX11_markOf_2 : decode cX11_markOf 2 = .ok (.if_icmp .eq 13, 3) := by decide +kernel
theorem dX11_markOf_5 : decode cX11_markOf 5 = .ok (.iload_n 2, 1) := by decide +kernel
theorem dX11_markOf_6 : decode cX11_markOf 6 = .ok (.iconst 3, 1) := by decide +kernel
theorem dX11_markOf_7 : decode cX11_markOf 7 = .ok (.if_icmp .eq 8, 3) := by decide +kernel
theorem dX11_markOf_10 : decode cX11_markOf 10 = .ok (.iload_n 2, 1) := by decide +kernel
theorem dX11_markOf_11 : decode cX11_markOf 11 = .ok (.iconst 4, 1) := by decide +kernel
theorem dX11_markOf_12 : decode cX11_markOf 12 = .ok (.if_icmp .ne 29, 3) := by decide +kernel
theorem dX11_markOf_15 : decode cX11_markOf 15 = .ok (.aload_n 0, 1) := by decide +kernel
theorem dX11_markOf_16 : decode cX11_markOf 16 = .ok (.iload_n 2, 1) := by decide +kernel
theorem dX11_markOf_17 : decode cX11_markOf 17 = .ok (.iconst 2, 1) := by decide +kernel
theorem dX11_markOf_18 : decode cX11_markOf 18 = .ok (.if_icmp .ne 8, 3) := by decide +kernel
theorem dX11_markOf_21 : decode cX11_markOf 21 = .ok (.bipush 21, 2) := by decide +kernel
theorem dX11_markOf_23 : decode cX11_markOf 23 = .ok (.goto 15, 3) := by decide +kernel
theorem dX11_markOf_26 : decode cX11_markOf 26 = .ok (.iload_n 2, 1) := by decide +kernel
theorem dX11_markOf_27 : decode cX11_markOf 27 = .ok (.iconst 3, 1) := by decide +kernel
theorem dX11_markOf_28 : decode cX11_markOf 28 = .ok (.if_icmp .ne 8, 3) := by decide +kernel
theorem dX11_markOf_31 : decode cX11_markOf 31 = .ok (.bipush 22, 2) := by decide +kernel
theorem dX11_markOf_33 : decode cX11_markOf 33 = .ok (.goto 5, 3) := by decide +kernel
theorem dX11_markOf_36 : decode cX11_markOf 36 = .ok (.bipush 23, 2) := by decide +kernel
theorem dX11_markOf_38 : decode cX11_markOf 38 = .ok (.invokevirtual 344, 3) := by decide +kernel
theorem dX11_markOf_41 : decode cX11_markOf 41 = .ok (.aload_n 0, 1) := by decide +kernel
theorem dX11_markOf_42 : decode cX11_markOf 42 = .ok (.bipush 20, 2) := by decide +kernel
theorem dX11_markOf_44 : decode cX11_markOf 44 = .ok (.invokevirtual 344, 3) := by decide +kernel
theorem dX11_markOf_47 : decode cX11_markOf 47 = .ok (.iload_n 1, 1) := by decide +kernel
theorem dX11_markOf_48 : decode cX11_markOf 48 = .ok (.istore_n 3, 1) := by decide +kernel
theorem dX11_markOf_49 : decode cX11_markOf 49 = .ok (.iload_n 2, 1) := by decide +kernel
theorem dX11_markOf_50 : decode cX11_markOf 50 = .ok (.iconst 3, 1) := by decide +kernel
theorem dX11_markOf_51 : decode cX11_markOf 51 = .ok (.if_icmp .ne 52, 3) := by decide +kernel
theorem dX11_markOf_54 : decode cX11_markOf 54 = .ok (.iconst 0, 1) := by decide +kernel
theorem dX11_markOf_55 : decode cX11_markOf 55 = .ok (.istore 4, 2) := by decide +kernel
theorem dX11_markOf_57 : decode cX11_markOf 57 = .ok (.iconst 0, 1) := by decide +kernel
theorem dX11_markOf_58 : decode cX11_markOf 58 = .ok (.istore 5, 2) := by decide +kernel
theorem dX11_markOf_60 : decode cX11_markOf 60 = .ok (.iload 5, 2) := by decide +kernel
theorem dX11_markOf_62 : decode cX11_markOf 62 = .ok (.iconst 4, 1) := by decide +kernel
theorem dX11_markOf_63 : decode cX11_markOf 63 = .ok (.if_icmp .ge 35, 3) := by decide +kernel
theorem dX11_markOf_66 : decode cX11_markOf 66 = .ok (.aload_n 0, 1) := by decide +kernel
theorem dX11_markOf_67 : decode cX11_markOf 67 = .ok (.iload_n 1, 1) := by decide +kernel
theorem dX11_markOf_68 : decode cX11_markOf 68 = .ok (.iload 5, 2) := by decide +kernel
theorem dX11_markOf_70 : decode cX11_markOf 70 = .ok (.invokevirtual 143, 3) := by decide +kernel
theorem dX11_markOf_73 : decode cX11_markOf 73 = .ok (.iload 4, 2) := by decide +kernel
theorem dX11_markOf_75 : decode cX11_markOf 75 = .ok (.if_icmp .le 13, 3) := by decide +kernel
theorem dX11_markOf_78 : decode cX11_markOf 78 = .ok (.aload_n 0, 1) := by decide +kernel
theorem dX11_markOf_79 : decode cX11_markOf 79 = .ok (.iload_n 1, 1) := by decide +kernel
theorem dX11_markOf_80 : decode cX11_markOf 80 = .ok (.iload 5, 2) := by decide +kernel
theorem dX11_markOf_82 : decode cX11_markOf 82 = .ok (.invokevirtual 143, 3) := by decide +kernel
theorem dX11_markOf_85 : decode cX11_markOf 85 = .ok (.goto 5, 3) := by decide +kernel
theorem dX11_markOf_88 : decode cX11_markOf 88 = .ok (.iload 4, 2) := by decide +kernel
theorem dX11_markOf_90 : decode cX11_markOf 90 = .ok (.istore 4, 2) := by decide +kernel
theorem dX11_markOf_92 : decode cX11_markOf 92 = .ok (.iinc 5 1, 3) := by decide +kernel
theorem dX11_markOf_95 : decode cX11_markOf 95 = .ok (.goto (-35), 3) := by decide +kernel
theorem dX11_markOf_98 : decode cX11_markOf 98 = .ok (.iload_n 3, 1) := by decide +kernel
theorem dX11_markOf_99 : decode cX11_markOf 99 = .ok (.iload 4, 2) := by decide +kernel
theorem dX11_markOf_101 : decode cX11_markOf 101 = .ok (.iadd, 1) := by decide +kernel
theorem dX11_markOf_102 : decode cX11_markOf 102 = .ok (.istore_n 3, 1) := by decide +kernel
theorem dX11_markOf_103 : decode cX11_markOf 103 = .ok (.iload_n 2, 1) := by decide +kernel
theorem dX11_markOf_104 : decode cX11_markOf 104 = .ok (.iconst 2, 1) := by decide +kernel
theorem dX11_markOf_105 : decode cX11_markOf 105 = .ok (.if_icmp .ne 14, 3) := by decide +kernel
theorem dX11_markOf_108 : decode cX11_markOf 108 = .ok (.iload_n 3, 1) := by decide +kernel
theorem dX11_markOf_109 : decode cX11_markOf 109 = .ok (.aload_n 0, 1) := by decide +kernel
theorem dX11_markOf_110 : decode cX11_markOf 110 = .ok (.iload_n 1, 1) := by decide +kernel
theorem dX11_markOf_111 : decode cX11_markOf 111 = .ok (.iload_n 2, 1) := by decide +kernel
theorem dX11_markOf_112 : decode cX11_markOf 112 = .ok (.invokevirtual 350, 3) := by decide +kernel
theorem dX11_markOf_115 : decode cX11_markOf 115 = .ok (.iadd, 1) := by decide +kernel
theorem dX11_markOf_116 : decode cX11_markOf 116 = .ok (.goto 17, 3) := by decide +kernel
theorem dX11_markOf_119 : decode cX11_markOf 119 = .ok (.iload_n 2, 1) := by decide +kernel
theorem dX11_markOf_120 : decode cX11_markOf 120 = .ok (.iconst 4, 1) := by decide +kernel
theorem dX11_markOf_121 : decode cX11_markOf 121 = .ok (.if_icmp .ne 11, 3) := by decide +kernel
theorem dX11_markOf_124 : decode cX11_markOf 124 = .ok (.iload_n 3, 1) := by decide +kernel
theorem dX11_markOf_125 : decode cX11_markOf 125 = .ok (.sipush 1000, 3) := by decide +kernel
theorem dX11_markOf_128 : decode cX11_markOf 128 = .ok (.iadd, 1) := by decide +kernel
theorem dX11_markOf_129 : decode cX11_markOf 129 = .ok (.goto 4, 3) := by decide +kernel
theorem dX11_markOf_132 : decode cX11_markOf 132 = .ok (.iload_n 3, 1) := by decide +kernel
theorem dX11_markOf_133 : decode cX11_markOf 133 = .ok (.ireturn, 1) := by decide +kernel
theorem dX11_sizeOf_0 : decode cX11_sizeOf 0 = .ok (.iload_n 2, 1) := by decide +kernel
theorem dX11_sizeOf_1 : decode cX11_sizeOf 1 = .ok (.iconst 1, 1) := by decide +kernel
theorem dX11_sizeOf_2 : decode cX11_sizeOf 2 = .ok (.invokestatic 338, 3) := by decide +kernel
theorem dX11_sizeOf_5 : decode cX11_sizeOf 5 = .ok (.ifCond .eq 10, 3) := by decide +kernel
theorem dX11_sizeOf_8 : decode cX11_sizeOf 8 = .ok (.aload_n 0, 1) := by decide +kernel
theorem dX11_sizeOf_9 : decode cX11_sizeOf 9 = .ok (.iload_n 1, 1) := by decide +kernel
theorem dX11_sizeOf_10 : decode cX11_sizeOf 10 = .ok (.iload_n 2, 1) := by decide +kernel
theorem dX11_sizeOf_11 : decode cX11_sizeOf 11 = .ok (.invokevirtual 350, 3) := by decide +kernel
theorem dX11_sizeOf_14 : decode cX11_sizeOf 14 = .ok (.ireturn, 1) := by decide +kernel
theorem dX11_sizeOf_15 : decode cX11_sizeOf 15 = .ok (.iload_n 2, 1) := by decide +kernel
theorem dX11_sizeOf_16 : decode cX11_sizeOf 16 = .ok (.iconst 3, 1) := by decide +kernel
theorem dX11_sizeOf_17 : decode cX11_sizeOf 17 = .ok (.if_icmp .eq 8, 3) := by decide +kernel
theorem dX11_sizeOf_20 : decode cX11_sizeOf 20 = .ok (.iload_n 2, 1) := by decide +kernel
theorem dX11_sizeOf_21 : decode cX11_sizeOf 21 = .ok (.iconst 5, 1) := by decide +kernel
theorem dX11_sizeOf_22 : decode cX11_sizeOf 22 = .ok (.if_icmp .ne 19, 3) := by decide +kernel
theorem dX11_sizeOf_25 : decode cX11_sizeOf 25 = .ok (.aload_n 0, 1) := by decide +kernel
theorem dX11_sizeOf_26 : decode cX11_sizeOf 26 = .ok (.iload_n 2, 1) := by decide +kernel
theorem dX11_sizeOf_27 : decode cX11_sizeOf 27 = .ok (.iconst 3, 1) := by decide +kernel
theorem dX11_sizeOf_28 : decode cX11_sizeOf 28 = .ok (.if_icmp .ne 8, 3) := by decide +kernel
theorem dX11_sizeOf_31 : decode cX11_sizeOf 31 = .ok (.bipush 13, 2) := by decide +kernel
theorem dX11_sizeOf_33 : decode cX11_sizeOf 33 = .ok (.goto 5, 3) := by decide +kernel
theorem dX11_sizeOf_36 : decode cX11_sizeOf 36 = .ok (.bipush 14, 2) := by decide +kernel
theorem dX11_sizeOf_38 : decode cX11_sizeOf 38 = .ok (.invokevirtual 344, 3) := by decide +kernel
theorem dX11_sizeOf_41 : decode cX11_sizeOf 41 = .ok (.aload_n 0, 1) := by decide +kernel
theorem dX11_sizeOf_42 : decode cX11_sizeOf 42 = .ok (.iload_n 1, 1) := by decide +kernel
theorem dX11_sizeOf_43 : decode cX11_sizeOf 43 = .ok (.invokevirtual 347, 3) := by decide +kernel
theorem dX11_sizeOf_46 : decode cX11_sizeOf 46 = .ok (.istore_n 3, 1) := by decide +kernel
theorem dX11_sizeOf_47 : decode cX11_sizeOf 47 = .ok (.iload_n 2, 1) := by decide +kernel
theorem dX11_sizeOf_48 : decode cX11_sizeOf 48 = .ok (.iconst 3, 1) := by decide +kernel
theorem dX11_sizeOf_49 : decode cX11_sizeOf 49 = .ok (.if_icmp .ne 14, 3) := by decide +kernel
theorem dX11_sizeOf_52 : decode cX11_sizeOf 52 = .ok (.iload_n 3, 1) := by decide +kernel
theorem dX11_sizeOf_53 : decode cX11_sizeOf 53 = .ok (.aload_n 0, 1) := by decide +kernel
theorem dX11_sizeOf_54 : decode cX11_sizeOf 54 = .ok (.iload_n 1, 1) := by decide +kernel
theorem dX11_sizeOf_55 : decode cX11_sizeOf 55 = .ok (.iload_n 2, 1) := by decide +kernel
theorem dX11_sizeOf_56 : decode cX11_sizeOf 56 = .ok (.invokevirtual 353, 3) := by decide +kernel
theorem dX11_sizeOf_59 : decode cX11_sizeOf 59 = .ok (.iadd, 1) := by decide +kernel
theorem dX11_sizeOf_60 : decode cX11_sizeOf 60 = .ok (.goto 14, 3) := by decide +kernel
theorem dX11_sizeOf_63 : decode cX11_sizeOf 63 = .ok (.iload_n 2, 1) := by decide +kernel
theorem dX11_sizeOf_64 : decode cX11_sizeOf 64 = .ok (.iconst 5, 1) := by decide +kernel
theorem dX11_sizeOf_65 : decode cX11_sizeOf 65 = .ok (.if_icmp .ne 8, 3) := by decide +kernel
theorem dX11_sizeOf_68 : decode cX11_sizeOf 68 = .ok (.iload_n 3, 1) := by decide +kernel
theorem dX11_sizeOf_69 : decode cX11_sizeOf 69 = .ok (.ineg, 1) := by decide +kernel
theorem dX11_sizeOf_70 : decode cX11_sizeOf 70 = .ok (.goto 4, 3) := by decide +kernel
theorem dX11_sizeOf_73 : decode cX11_sizeOf 73 = .ok (.iload_n 3, 1) := by decide +kernel
theorem dX11_sizeOf_74 : decode cX11_sizeOf 74 = .ok (.ireturn, 1) := by decide +kernel
theorem dX11_ask_0 : decode cX11_ask 0 = .ok (.aload_n 0, 1) := by decide +kernel
theorem dX11_ask_1 : decode cX11_ask 1 = .ok (.iconst 0, 1) := by decide +kernel
theorem dX11_ask_2 : decode cX11_ask 2 = .ok (.putfield 1, 3) := by decide +kernel
theorem dX11_ask_5 : decode cX11_ask 5 = .ok (.aload_n 0, 1) := by decide +kernel
theorem dX11_ask_6 : decode cX11_ask 6 = .ok (.iload_n 1, 1) := by decide +kernel
theorem dX11_ask_7 : decode cX11_ask 7 = .ok (.invokevirtual 164, 3) := by decide +kernel
theorem dX11_ask_10 : decode cX11_ask 10 = .ok (.ifCond .eq 13, 3) := by decide +kernel
theorem dX11_ask_13 : decode cX11_ask 13 = .ok (.iload_n 2, 1) := by decide +kernel
theorem dX11_ask_14 : decode cX11_ask 14 = .ok (.i2l, 1) := by decide +kernel
theorem dX11_ask_15 : decode cX11_ask 15 = .ok (.lconst 0, 1) := by decide +kernel
theorem dX11_ask_16 : decode cX11_ask 16 = .ok (.lconst 1, 1) := by decide +kernel
theorem dX11_ask_17 : decode cX11_ask 17 = .ok (.invokestatic 96, 3) := by decide +kernel
theorem dX11_ask_20 : decode cX11_ask 20 = .ok (.ifCond .ne 6, 3) := by decide +kernel
theorem dX11_ask_23 : decode cX11_ask 23 = .ok (.ldc 108, 2) := by decide +kernel
theorem dX11_ask_25 : decode cX11_ask 25 = .ok (.ireturn, 1) := by decide +kernel
theorem dX11_ask_26 : decode cX11_ask 26 = .ok (.aload_n 0, 1) := by decide +kernel
theorem dX11_ask_27 : decode cX11_ask 27 = .ok (.iconst 0, 1) := by decide +kernel
theorem dX11_ask_28 : decode cX11_ask 28 = .ok (.putfield 341, 3) := by decide +kernel
theorem dX11_ask_31 : decode cX11_ask 31 = .ok (.iload_n 2, 1) := by decide +kernel
theorem dX11_ask_32 : decode cX11_ask 32 = .ok (.ifCond .ne 16, 3) := by decide +kernel
theorem dX11_ask_35 : decode cX11_ask 35 = .ok (.aload_n 0, 1) := by decide +kernel
theorem dX11_ask_36 : decode cX11_ask 36 = .ok (.iload_n 1, 1) := by decide +kernel
theorem dX11_ask_37 : decode cX11_ask 37 = .ok (.aload_n 0, 1) := by decide +kernel
theorem dX11_ask_38 : decode cX11_ask 38 = .ok (.iload_n 1, 1) := by decide +kernel
theorem dX11_ask_39 : decode cX11_ask 39 = .ok (.invokevirtual 335, 3) := by decide +kernel
theorem dX11_ask_42 : decode cX11_ask 42 = .ok (.invokevirtual 356, 3) := by decide +kernel
theorem dX11_ask_45 : decode cX11_ask 45 = .ok (.goto 13, 3) := by decide +kernel
theorem dX11_ask_48 : decode cX11_ask 48 = .ok (.aload_n 0, 1) := by decide +kernel
theorem dX11_ask_49 : decode cX11_ask 49 = .ok (.iload_n 1, 1) := by decide +kernel
theorem dX11_ask_50 : decode cX11_ask 50 = .ok (.aload_n 0, 1) := by decide +kernel
theorem dX11_ask_51 : decode cX11_ask 51 = .ok (.iload_n 1, 1) := by decide +kernel
theorem dX11_ask_52 : decode cX11_ask 52 = .ok (.invokevirtual 335, 3) := by decide +kernel
theorem dX11_ask_55 : decode cX11_ask 55 = .ok (.invokevirtual 353, 3) := by decide +kernel
theorem dX11_ask_58 : decode cX11_ask 58 = .ok (.ireturn, 1) := by decide +kernel
theorem dX11_trace_0 : decode cX11_trace 0 = .ok (.aload_n 0, 1) := by decide +kernel
theorem dX11_trace_1 : decode cX11_trace 1 = .ok (.iconst 0, 1) := by decide +kernel
theorem dX11_trace_2 : decode cX11_trace 2 = .ok (.putfield 1, 3) := by decide +kernel
theorem dX11_trace_5 : decode cX11_trace 5 = .ok (.iload_n 1, 1) := by decide +kernel
theorem dX11_trace_6 : decode cX11_trace 6 = .ok (.i2l, 1) := by decide +kernel
theorem dX11_trace_7 : decode cX11_trace 7 = .ok (.lconst 0, 1) := by decide +kernel
theorem dX11_trace_8 : decode cX11_trace 8 = .ok (.aload_n 0, 1) := by decide +kernel
theorem dX11_trace_9 : decode cX11_trace 9 = .ok (.getfield 341, 3) := by decide +kernel
theorem dX11_trace_12 : decode cX11_trace 12 = .ok (.iconst 1, 1) := by decide +kernel
theorem dX11_trace_13 : decode cX11_trace 13 = .ok (.isub, 1) := by decide +kernel
theorem dX11_trace_14 : decode cX11_trace 14 = .ok (.i2l, 1) := by decide +kernel
theorem dX11_trace_15 : decode cX11_trace 15 = .ok (.invokestatic 96, 3) := by decide +kernel
theorem dX11_trace_18 : decode cX11_trace 18 = .ok (.ifCond .eq 12, 3) := by decide +kernel
theorem dX11_trace_21 : decode cX11_trace 21 = .ok (.aload_n 0, 1) := by decide +kernel
theorem dX11_trace_22 : decode cX11_trace 22 = .ok (.getfield 90, 3) := by decide +kernel
theorem dX11_trace_25 : decode cX11_trace 25 = .ok (.iload_n 1, 1) := by decide +kernel
theorem dX11_trace_26 : decode cX11_trace 26 = .ok (.iaload, 1) := by decide +kernel
theorem dX11_trace_27 : decode cX11_trace 27 = .ok (.goto 5, 3) := by decide +kernel
theorem dX11_trace_30 : decode cX11_trace 30 = .ok (.ldc 93, 2) := by decide +kernel
theorem dX11_trace_32 : decode cX11_trace 32 = .ok (.ireturn, 1) := by decide +kernel
theorem dX11_count_0 : decode cX11_count 0 = .ok (.aload_n 0, 1) := by decide +kernel
theorem dX11_count_1 : decode cX11_count 1 = .ok (.iconst 0, 1) := by decide +kernel
theorem dX11_count_2 : decode cX11_count 2 = .ok (.putfield 1, 3) := by decide +kernel
theorem dX11_count_5 : decode cX11_count 5 = .ok (.iconst 0, 1) := by decide +kernel
theorem dX11_count_6 : decode cX11_count 6 = .ok (.istore_n 2, 1) := by decide +kernel
theorem dX11_count_7 : decode cX11_count 7 = .ok (.iload_n 1, 1) := by decide +kernel
theorem dX11_count_8 : decode cX11_count 8 = .ok (.tableswitch 151 0 5 #[40, 73, 78, 113, 141, 146], 40) := by decide +kernel
theorem dX11_count_48 : decode cX11_count 48 = .ok (.iconst 0, 1) := by decide +kernel
theorem dX11_count_49 : decode cX11_count 49 = .ok (.istore_n 3, 1) := by decide +kernel
theorem dX11_count_50 : decode cX11_count 50 = .ok (.iload_n 3, 1) := by decide +kernel
theorem dX11_count_51 : decode cX11_count 51 = .ok (.bipush 8, 2) := by decide +kernel
theorem dX11_count_53 : decode cX11_count 53 = .ok (.if_icmp .ge 26, 3) := by decide +kernel
theorem dX11_count_56 : decode cX11_count 56 = .ok (.iload_n 2, 1) := by decide +kernel
theorem dX11_count_57 : decode cX11_count 57 = .ok (.aload_n 0, 1) := by decide +kernel
theorem dX11_count_58 : decode cX11_count 58 = .ok (.getfield 17, 3) := by decide +kernel
theorem dX11_count_61 : decode cX11_count 61 = .ok (.iload_n 3, 1) := by decide +kernel
theorem dX11_count_62 : decode cX11_count 62 = .ok (.iaload, 1) := by decide +kernel
theorem dX11_count_63 : decode cX11_count 63 = .ok (.ifCond .lt 7, 3) := by decide +kernel
theorem dX11_count_66 : decode cX11_count 66 = .ok (.iconst 1, 1) := by decide +kernel
theorem dX11_count_67 : decode cX11_count 67 = .ok (.goto 4, 3) := by decide +kernel
theorem dX11_count_70 : decode cX11_count 70 = .ok (.iconst 0, 1) := by decide +kernel
theorem dX11_count_71 : decode cX11_count 71 = .ok (.iadd, 1) := by decide +kernel
theorem dX11_count_72 : decode cX11_count 72 = .ok (.istore_n 2, 1) := by decide +kernel
theorem dX11_count_73 : decode cX11_count 73 = .ok (.iinc 3 1, 3) := by decide +kernel
theorem dX11_count_76 : decode cX11_count 76 = .ok (.goto (-26), 3) := by decide +kernel
theorem dX11_count_79 : decode cX11_count 79 = .ok (.iload_n 2, 1) := by decide +kernel
theorem dX11_count_80 : decode cX11_count 80 = .ok (.ireturn, 1) := by decide +kernel
theorem dX11_count_81 : decode cX11_count 81 = .ok (.aload_n 0, 1) := by decide +kernel
theorem dX11_count_82 : decode cX11_count 82 = .ok (.getfield 129, 3) := by decide +kernel
theorem dX11_count_85 : decode cX11_count 85 = .ok (.ireturn, 1) := by decide +kernel
theorem dX11_count_86 : decode cX11_count 86 = .ok (.iconst 0, 1) := by decide +kernel
theorem dX11_count_87 : decode cX11_count 87 = .ok (.istore_n 3, 1) := by decide +kernel
theorem dX11_count_88 : decode cX11_count 88 = .ok (.iload_n 3, 1) := by decide +kernel
theorem dX11_count_89 : decode cX11_count 89 = .ok (.aload_n 0, 1) := by decide +kernel
theorem dX11_count_90 : decode cX11_count 90 = .ok (.getfield 129, 3) := by decide +kernel
theorem dX11_count_93 : decode cX11_count 93 = .ok (.if_icmp .ge 26, 3) := by decide +kernel
theorem dX11_count_96 : decode cX11_count 96 = .ok (.iload_n 2, 1) := by decide +kernel
theorem dX11_count_97 : decode cX11_count 97 = .ok (.aload_n 0, 1) := by decide +kernel
theorem dX11_count_98 : decode cX11_count 98 = .ok (.iload_n 3, 1) := by decide +kernel
theorem dX11_count_99 : decode cX11_count 99 = .ok (.invokevirtual 335, 3) := by decide +kernel
theorem dX11_count_102 : decode cX11_count 102 = .ok (.iconst 5, 1) := by decide +kernel
theorem dX11_count_103 : decode cX11_count 103 = .ok (.if_icmp .ne 7, 3) := by decide +kernel
theorem dX11_count_106 : decode cX11_count 106 = .ok (.iconst 1, 1) := by decide +kernel
theorem dX11_count_107 : decode cX11_count 107 = .ok (.goto 4, 3) := by decide +kernel
theorem dX11_count_110 : decode cX11_count 110 = .ok (.iconst 0, 1) := by decide +kernel
theorem dX11_count_111 : decode cX11_count 111 = .ok (.iadd, 1) := by decide +kernel
theorem dX11_count_112 : decode cX11_count 112 = .ok (.istore_n 2, 1) := by decide +kernel
theorem dX11_count_113 : decode cX11_count 113 = .ok (.iinc 3 1, 3) := by decide +kernel
theorem dX11_count_116 : decode cX11_count 116 = .ok (.goto (-28), 3) := by decide +kernel
theorem dX11_count_119 : decode cX11_count 119 = .ok (.iload_n 2, 1) := by decide +kernel
theorem dX11_count_120 : decode cX11_count 120 = .ok (.ireturn, 1) := by decide +kernel
theorem dX11_count_121 : decode cX11_count 121 = .ok (.aload_n 0, 1) := by decide +kernel
theorem dX11_count_122 : decode cX11_count 122 = .ok (.getfield 27, 3) := by decide +kernel
theorem dX11_count_125 : decode cX11_count 125 = .ok (.iconst 0, 1) := by decide +kernel
theorem dX11_count_126 : decode cX11_count 126 = .ok (.iaload, 1) := by decide +kernel
theorem dX11_count_127 : decode cX11_count 127 = .ok (.aload_n 0, 1) := by decide +kernel
theorem dX11_count_128 : decode cX11_count 128 = .ok (.getfield 27, 3) := by decide +kernel
theorem dX11_count_131 : decode cX11_count 131 = .ok (.iconst 1, 1) := by decide +kernel
theorem dX11_count_132 : decode cX11_count 132 = .ok (.iaload, 1) := by decide +kernel
theorem dX11_count_133 : decode cX11_count 133 = .ok (.iadd, 1) := by decide +kernel
theorem dX11_count_134 : decode cX11_count 134 = .ok (.aload_n 0, 1) := by decide +kernel
theorem dX11_count_135 : decode cX11_count 135 = .ok (.getfield 27, 3) := by decide +kernel
theorem dX11_count_138 : decode cX11_count 138 = .ok (.iconst 2, 1) := by decide +kernel
theorem dX11_count_139 : decode cX11_count 139 = .ok (.iaload, 1) := by decide +kernel
theorem dX11_count_140 : decode cX11_count 140 = .ok (.iadd, 1) := by decide +kernel
theorem dX11_count_141 : decode cX11_count 141 = .ok (.aload_n 0, 1) := by decide +kernel
theorem dX11_count_142 : decode cX11_count 142 = .ok (.getfield 27, 3) := by decide +kernel
theorem dX11_count_145 : decode cX11_count 145 = .ok (.iconst 3, 1) := by decide +kernel
theorem dX11_count_146 : decode cX11_count 146 = .ok (.iaload, 1) := by decide +kernel
theorem dX11_count_147 : decode cX11_count 147 = .ok (.iadd, 1) := by decide +kernel
theorem dX11_count_148 : decode cX11_count 148 = .ok (.ireturn, 1) := by decide +kernel
theorem dX11_count_149 : decode cX11_count 149 = .ok (.aload_n 0, 1) := by decide +kernel
theorem dX11_count_150 : decode cX11_count 150 = .ok (.getfield 316, 3) := by decide +kernel
theorem dX11_count_153 : decode cX11_count 153 = .ok (.ireturn, 1) := by decide +kernel
theorem dX11_count_154 : decode cX11_count 154 = .ok (.aload_n 0, 1) := by decide +kernel
theorem dX11_count_155 : decode cX11_count 155 = .ok (.getfield 220, 3) := by decide +kernel
theorem dX11_count_158 : decode cX11_count 158 = .ok (.ireturn, 1) := by decide +kernel
theorem dX11_count_159 : decode cX11_count 159 = .ok (.ldc 108, 2) := by decide +kernel
theorem dX11_count_161 : decode cX11_count 161 = .ok (.ireturn, 1) := by decide +kernel
theorem dX11_status_0 : decode cX11_status 0 = .ok (.aload_n 0, 1) := by decide +kernel
theorem dX11_status_1 : decode cX11_status 1 = .ok (.iconst 0, 1) := by decide +kernel
theorem dX11_status_2 : decode cX11_status 2 = .ok (.putfield 1, 3) := by decide +kernel
theorem dX11_status_5 : decode cX11_status 5 = .ok (.aload_n 0, 1) := by decide +kernel
theorem dX11_status_6 : decode cX11_status 6 = .ok (.getfield 7, 3) := by decide +kernel
theorem dX11_status_9 : decode cX11_status 9 = .ok (.ireturn, 1) := by decide +kernel
