/-! java/util/Arrays.fill([JJ)V is 179 -/
theorem d179_0 : decode (am_code 179) 0 = .ok (.iconst 0, 1) := by decide +kernel
theorem d179_1 : decode (am_code 179) 1 = .ok (.istore_n 3, 1) := by decide +kernel
theorem d179_2 : decode (am_code 179) 2 = .ok (.aload_n 0, 1) := by decide +kernel
theorem d179_3 : decode (am_code 179) 3 = .ok (.arraylength, 1) := by decide +kernel
theorem d179_4 : decode (am_code 179) 4 = .ok (.istore 4, 2) := by decide +kernel
theorem d179_6 : decode (am_code 179) 6 = .ok (.iload_n 3, 1) := by decide +kernel
theorem d179_7 : decode (am_code 179) 7 = .ok (.iload 4, 2) := by decide +kernel
theorem d179_9 : decode (am_code 179) 9 = .ok (.if_icmp .ge 13, 3) := by decide +kernel
theorem d179_12 : decode (am_code 179) 12 = .ok (.aload_n 0, 1) := by decide +kernel
theorem d179_13 : decode (am_code 179) 13 = .ok (.iload_n 3, 1) := by decide +kernel
theorem d179_14 : decode (am_code 179) 14 = .ok (.lload_n 1, 1) := by decide +kernel
theorem d179_15 : decode (am_code 179) 15 = .ok (.lastore, 1) := by decide +kernel
theorem d179_16 : decode (am_code 179) 16 = .ok (.iinc 3 1, 3) := by decide +kernel
theorem d179_19 : decode (am_code 179) 19 = .ok (.goto (-13), 3) := by decide +kernel
theorem d179_22 : decode (am_code 179) 22 = .ok (.return_, 1) := by decide +kernel
theorem l179 : am_maxL 179 = 5 := by decide +kernel
theorem t179 : am_ret 179 = none := by decide +kernel
/-! java/util/Arrays.fill([II)V is 180 -/
theorem d180_0 : decode (am_code 180) 0 = .ok (.iconst 0, 1) := by decide +kernel
theorem d180_1 : decode (am_code 180) 1 = .ok (.istore_n 2, 1) := by decide +kernel
theorem d180_2 : decode (am_code 180) 2 = .ok (.aload_n 0, 1) := by decide +kernel
theorem d180_3 : decode (am_code 180) 3 = .ok (.arraylength, 1) := by decide +kernel
theorem d180_4 : decode (am_code 180) 4 = .ok (.istore_n 3, 1) := by decide +kernel
theorem d180_5 : decode (am_code 180) 5 = .ok (.iload_n 2, 1) := by decide +kernel
theorem d180_6 : decode (am_code 180) 6 = .ok (.iload_n 3, 1) := by decide +kernel
theorem d180_7 : decode (am_code 180) 7 = .ok (.if_icmp .ge 13, 3) := by decide +kernel
theorem d180_10 : decode (am_code 180) 10 = .ok (.aload_n 0, 1) := by decide +kernel
theorem d180_11 : decode (am_code 180) 11 = .ok (.iload_n 2, 1) := by decide +kernel
theorem d180_12 : decode (am_code 180) 12 = .ok (.iload_n 1, 1) := by decide +kernel
theorem d180_13 : decode (am_code 180) 13 = .ok (.iastore, 1) := by decide +kernel
theorem d180_14 : decode (am_code 180) 14 = .ok (.iinc 2 1, 3) := by decide +kernel
theorem d180_17 : decode (am_code 180) 17 = .ok (.goto (-12), 3) := by decide +kernel
theorem d180_20 : decode (am_code 180) 20 = .ok (.return_, 1) := by decide +kernel
theorem l180 : am_maxL 180 = 4 := by decide +kernel
theorem t180 : am_ret 180 = none := by decide +kernel
/-! ThirdSheetsLaw.law([I)Z is 181 -/
theorem d181_0 : decode (am_code 181) 0 = .ok (.new 7, 3) := by decide +kernel
theorem d181_3 : decode (am_code 181) 3 = .ok (.dup, 1) := by decide +kernel
theorem d181_4 : decode (am_code 181) 4 = .ok (.invokespecial 9, 3) := by decide +kernel
theorem d181_7 : decode (am_code 181) 7 = .ok (.astore_n 1, 1) := by decide +kernel
theorem d181_8 : decode (am_code 181) 8 = .ok (.new 10, 3) := by decide +kernel
theorem d181_11 : decode (am_code 181) 11 = .ok (.dup, 1) := by decide +kernel
theorem d181_12 : decode (am_code 181) 12 = .ok (.invokespecial 12, 3) := by decide +kernel
theorem d181_15 : decode (am_code 181) 15 = .ok (.astore_n 2, 1) := by decide +kernel
theorem d181_16 : decode (am_code 181) 16 = .ok (.iconst 0, 1) := by decide +kernel
theorem d181_17 : decode (am_code 181) 17 = .ok (.istore_n 3, 1) := by decide +kernel
theorem d181_18 : decode (am_code 181) 18 = .ok (.iload_n 3, 1) := by decide +kernel
theorem d181_19 : decode (am_code 181) 19 = .ok (.aload_n 0, 1) := by decide +kernel
theorem d181_20 : decode (am_code 181) 20 = .ok (.arraylength, 1) := by decide +kernel
theorem d181_21 : decode (am_code 181) 21 = .ok (.bipush 6, 2) := by decide +kernel
theorem d181_23 : decode (am_code 181) 23 = .ok (.isub, 1) := by decide +kernel
theorem d181_24 : decode (am_code 181) 24 = .ok (.if_icmp .gt 603, 3) := by decide +kernel
theorem d181_27 : decode (am_code 181) 27 = .ok (.aload_n 0, 1) := by decide +kernel
theorem d181_28 : decode (am_code 181) 28 = .ok (.iload_n 3, 1) := by decide +kernel
theorem d181_29 : decode (am_code 181) 29 = .ok (.iaload, 1) := by decide +kernel
theorem d181_30 : decode (am_code 181) 30 = .ok (.bipush 31, 2) := by decide +kernel
theorem d181_32 : decode (am_code 181) 32 = .ok (.iand, 1) := by decide +kernel
theorem d181_33 : decode (am_code 181) 33 = .ok (.tableswitch 588 0 18 #[91, 104, 167, 200, 213, 256, 299, 322, 345, 368, 391, 404, 437, 470, 503, 516, 529, 542, 555], 91) := by decide +kernel
theorem d181_124 : decode (am_code 181) 124 = .ok (.aload_n 1, 1) := by decide +kernel
theorem d181_125 : decode (am_code 181) 125 = .ok (.invokevirtual 13, 3) := by decide +kernel
theorem d181_128 : decode (am_code 181) 128 = .ok (.aload_n 2, 1) := by decide +kernel
theorem d181_129 : decode (am_code 181) 129 = .ok (.invokevirtual 17, 3) := by decide +kernel
theorem d181_132 : decode (am_code 181) 132 = .ok (.if_icmp .eq 489, 3) := by decide +kernel
theorem d181_135 : decode (am_code 181) 135 = .ok (.iconst 0, 1) := by decide +kernel
theorem d181_136 : decode (am_code 181) 136 = .ok (.ireturn, 1) := by decide +kernel
theorem d181_137 : decode (am_code 181) 137 = .ok (.aload_n 1, 1) := by decide +kernel
theorem d181_138 : decode (am_code 181) 138 = .ok (.aload_n 0, 1) := by decide +kernel
theorem d181_139 : decode (am_code 181) 139 = .ok (.iload_n 3, 1) := by decide +kernel
theorem d181_140 : decode (am_code 181) 140 = .ok (.iconst 1, 1) := by decide +kernel
theorem d181_141 : decode (am_code 181) 141 = .ok (.iadd, 1) := by decide +kernel
theorem d181_142 : decode (am_code 181) 142 = .ok (.iaload, 1) := by decide +kernel
theorem d181_143 : decode (am_code 181) 143 = .ok (.aload_n 0, 1) := by decide +kernel
theorem d181_144 : decode (am_code 181) 144 = .ok (.iload_n 3, 1) := by decide +kernel
theorem d181_145 : decode (am_code 181) 145 = .ok (.iconst 2, 1) := by decide +kernel
theorem d181_146 : decode (am_code 181) 146 = .ok (.iadd, 1) := by decide +kernel
theorem d181_147 : decode (am_code 181) 147 = .ok (.iaload, 1) := by decide +kernel
theorem d181_148 : decode (am_code 181) 148 = .ok (.aload_n 0, 1) := by decide +kernel
theorem d181_149 : decode (am_code 181) 149 = .ok (.iload_n 3, 1) := by decide +kernel
theorem d181_150 : decode (am_code 181) 150 = .ok (.iconst 3, 1) := by decide +kernel
theorem d181_151 : decode (am_code 181) 151 = .ok (.iadd, 1) := by decide +kernel
theorem d181_152 : decode (am_code 181) 152 = .ok (.iaload, 1) := by decide +kernel
theorem d181_153 : decode (am_code 181) 153 = .ok (.aload_n 0, 1) := by decide +kernel
theorem d181_154 : decode (am_code 181) 154 = .ok (.iload_n 3, 1) := by decide +kernel
theorem d181_155 : decode (am_code 181) 155 = .ok (.iconst 4, 1) := by decide +kernel
theorem d181_156 : decode (am_code 181) 156 = .ok (.iadd, 1) := by decide +kernel
theorem d181_157 : decode (am_code 181) 157 = .ok (.iaload, 1) := by decide +kernel
theorem d181_158 : decode (am_code 181) 158 = .ok (.aload_n 0, 1) := by decide +kernel
theorem d181_159 : decode (am_code 181) 159 = .ok (.iload_n 3, 1) := by decide +kernel
theorem d181_160 : decode (am_code 181) 160 = .ok (.iconst 5, 1) := by decide +kernel
theorem d181_161 : decode (am_code 181) 161 = .ok (.iadd, 1) := by decide +kernel
theorem d181_162 : decode (am_code 181) 162 = .ok (.iaload, 1) := by decide +kernel
theorem d181_163 : decode (am_code 181) 163 = .ok (.invokevirtual 18, 3) := by decide +kernel
theorem d181_166 : decode (am_code 181) 166 = .ok (.aload_n 2, 1) := by decide +kernel
theorem d181_167 : decode (am_code 181) 167 = .ok (.aload_n 0, 1) := by decide +kernel
theorem d181_168 : decode (am_code 181) 168 = .ok (.iload_n 3, 1) := by decide +kernel
theorem d181_169 : decode (am_code 181) 169 = .ok (.iconst 1, 1) := by decide +kernel
theorem d181_170 : decode (am_code 181) 170 = .ok (.iadd, 1) := by decide +kernel
theorem d181_171 : decode (am_code 181) 171 = .ok (.iaload, 1) := by decide +kernel
theorem d181_172 : decode (am_code 181) 172 = .ok (.aload_n 0, 1) := by decide +kernel
theorem d181_173 : decode (am_code 181) 173 = .ok (.iload_n 3, 1) := by decide +kernel
theorem d181_174 : decode (am_code 181) 174 = .ok (.iconst 2, 1) := by decide +kernel
theorem d181_175 : decode (am_code 181) 175 = .ok (.iadd, 1) := by decide +kernel
theorem d181_176 : decode (am_code 181) 176 = .ok (.iaload, 1) := by decide +kernel
theorem d181_177 : decode (am_code 181) 177 = .ok (.aload_n 0, 1) := by decide +kernel
theorem d181_178 : decode (am_code 181) 178 = .ok (.iload_n 3, 1) := by decide +kernel
theorem d181_179 : decode (am_code 181) 179 = .ok (.iconst 3, 1) := by decide +kernel
theorem d181_180 : decode (am_code 181) 180 = .ok (.iadd, 1) := by decide +kernel
theorem d181_181 : decode (am_code 181) 181 = .ok (.iaload, 1) := by decide +kernel
theorem d181_182 : decode (am_code 181) 182 = .ok (.aload_n 0, 1) := by decide +kernel
theorem d181_183 : decode (am_code 181) 183 = .ok (.iload_n 3, 1) := by decide +kernel
theorem d181_184 : decode (am_code 181) 184 = .ok (.iconst 4, 1) := by decide +kernel
theorem d181_185 : decode (am_code 181) 185 = .ok (.iadd, 1) := by decide +kernel
theorem d181_186 : decode (am_code 181) 186 = .ok (.iaload, 1) := by decide +kernel
theorem d181_187 : decode (am_code 181) 187 = .ok (.aload_n 0, 1) := by decide +kernel
theorem d181_188 : decode (am_code 181) 188 = .ok (.iload_n 3, 1) := by decide +kernel
theorem d181_189 : decode (am_code 181) 189 = .ok (.iconst 5, 1) := by decide +kernel
theorem d181_190 : decode (am_code 181) 190 = .ok (.iadd, 1) := by decide +kernel
theorem d181_191 : decode (am_code 181) 191 = .ok (.iaload, 1) := by decide +kernel
theorem d181_192 : decode (am_code 181) 192 = .ok (.invokevirtual 22, 3) := by decide +kernel
theorem d181_195 : decode (am_code 181) 195 = .ok (.if_icmp .eq 426, 3) := by decide +kernel
theorem d181_198 : decode (am_code 181) 198 = .ok (.iconst 0, 1) := by decide +kernel
theorem d181_199 : decode (am_code 181) 199 = .ok (.ireturn, 1) := by decide +kernel
theorem d181_200 : decode (am_code 181) 200 = .ok (.aload_n 1, 1) := by decide +kernel
theorem d181_201 : decode (am_code 181) 201 = .ok (.aload_n 0, 1) := by decide +kernel
theorem d181_202 : decode (am_code 181) 202 = .ok (.iload_n 3, 1) := by decide +kernel
theorem d181_203 : decode (am_code 181) 203 = .ok (.iconst 1, 1) := by decide +kernel
theorem d181_204 : decode (am_code 181) 204 = .ok (.iadd, 1) := by decide +kernel
theorem d181_205 : decode (am_code 181) 205 = .ok (.iaload, 1) := by decide +kernel
theorem d181_206 : decode (am_code 181) 206 = .ok (.aload_n 0, 1) := by decide +kernel
theorem d181_207 : decode (am_code 181) 207 = .ok (.iload_n 3, 1) := by decide +kernel
theorem d181_208 : decode (am_code 181) 208 = .ok (.iconst 2, 1) := by decide +kernel
theorem d181_209 : decode (am_code 181) 209 = .ok (.iadd, 1) := by decide +kernel
theorem d181_210 : decode (am_code 181) 210 = .ok (.iaload, 1) := by decide +kernel
theorem d181_211 : decode (am_code 181) 211 = .ok (.invokevirtual 23, 3) := by decide +kernel
theorem d181_214 : decode (am_code 181) 214 = .ok (.aload_n 2, 1) := by decide +kernel
theorem d181_215 : decode (am_code 181) 215 = .ok (.aload_n 0, 1) := by decide +kernel
theorem d181_216 : decode (am_code 181) 216 = .ok (.iload_n 3, 1) := by decide +kernel
theorem d181_217 : decode (am_code 181) 217 = .ok (.iconst 1, 1) := by decide +kernel
theorem d181_218 : decode (am_code 181) 218 = .ok (.iadd, 1) := by decide +kernel
theorem d181_219 : decode (am_code 181) 219 = .ok (.iaload, 1) := by decide +kernel
theorem d181_220 : decode (am_code 181) 220 = .ok (.aload_n 0, 1) := by decide +kernel
theorem d181_221 : decode (am_code 181) 221 = .ok (.iload_n 3, 1) := by decide +kernel
theorem d181_222 : decode (am_code 181) 222 = .ok (.iconst 2, 1) := by decide +kernel
theorem d181_223 : decode (am_code 181) 223 = .ok (.iadd, 1) := by decide +kernel
theorem d181_224 : decode (am_code 181) 224 = .ok (.iaload, 1) := by decide +kernel
theorem d181_225 : decode (am_code 181) 225 = .ok (.invokevirtual 27, 3) := by decide +kernel
theorem d181_228 : decode (am_code 181) 228 = .ok (.if_icmp .eq 393, 3) := by decide +kernel
theorem d181_231 : decode (am_code 181) 231 = .ok (.iconst 0, 1) := by decide +kernel
theorem d181_232 : decode (am_code 181) 232 = .ok (.ireturn, 1) := by decide +kernel
theorem d181_233 : decode (am_code 181) 233 = .ok (.aload_n 1, 1) := by decide +kernel
theorem d181_234 : decode (am_code 181) 234 = .ok (.invokevirtual 28, 3) := by decide +kernel
theorem d181_237 : decode (am_code 181) 237 = .ok (.aload_n 2, 1) := by decide +kernel
theorem d181_238 : decode (am_code 181) 238 = .ok (.invokevirtual 31, 3) := by decide +kernel
theorem d181_241 : decode (am_code 181) 241 = .ok (.if_icmp .eq 380, 3) := by decide +kernel
theorem d181_244 : decode (am_code 181) 244 = .ok (.iconst 0, 1) := by decide +kernel
theorem d181_245 : decode (am_code 181) 245 = .ok (.ireturn, 1) := by decide +kernel
theorem d181_246 : decode (am_code 181) 246 = .ok (.aload_n 1, 1) := by decide +kernel
theorem d181_247 : decode (am_code 181) 247 = .ok (.aload_n 0, 1) := by decide +kernel
theorem d181_248 : decode (am_code 181) 248 = .ok (.iload_n 3, 1) := by decide +kernel
theorem d181_249 : decode (am_code 181) 249 = .ok (.iconst 1, 1) := by decide +kernel
theorem d181_250 : decode (am_code 181) 250 = .ok (.iadd, 1) := by decide +kernel
theorem d181_251 : decode (am_code 181) 251 = .ok (.iaload, 1) := by decide +kernel
theorem d181_252 : decode (am_code 181) 252 = .ok (.aload_n 0, 1) := by decide +kernel
theorem d181_253 : decode (am_code 181) 253 = .ok (.iload_n 3, 1) := by decide +kernel
theorem d181_254 : decode (am_code 181) 254 = .ok (.iconst 2, 1) := by decide +kernel
theorem d181_255 : decode (am_code 181) 255 = .ok (.iadd, 1) := by decide +kernel
theorem d181_256 : decode (am_code 181) 256 = .ok (.iaload, 1) := by decide +kernel
theorem d181_257 : decode (am_code 181) 257 = .ok (.aload_n 0, 1) := by decide +kernel
theorem d181_258 : decode (am_code 181) 258 = .ok (.iload_n 3, 1) := by decide +kernel
theorem d181_259 : decode (am_code 181) 259 = .ok (.iconst 3, 1) := by decide +kernel
theorem d181_260 : decode (am_code 181) 260 = .ok (.iadd, 1) := by decide +kernel
theorem d181_261 : decode (am_code 181) 261 = .ok (.iaload, 1) := by decide +kernel
theorem d181_262 : decode (am_code 181) 262 = .ok (.invokevirtual 32, 3) := by decide +kernel
theorem d181_265 : decode (am_code 181) 265 = .ok (.aload_n 2, 1) := by decide +kernel
theorem d181_266 : decode (am_code 181) 266 = .ok (.aload_n 0, 1) := by decide +kernel
theorem d181_267 : decode (am_code 181) 267 = .ok (.iload_n 3, 1) := by decide +kernel
theorem d181_268 : decode (am_code 181) 268 = .ok (.iconst 1, 1) := by decide +kernel
theorem d181_269 : decode (am_code 181) 269 = .ok (.iadd, 1) := by decide +kernel
theorem d181_270 : decode (am_code 181) 270 = .ok (.iaload, 1) := by decide +kernel
theorem d181_271 : decode (am_code 181) 271 = .ok (.aload_n 0, 1) := by decide +kernel
theorem d181_272 : decode (am_code 181) 272 = .ok (.iload_n 3, 1) := by decide +kernel
theorem d181_273 : decode (am_code 181) 273 = .ok (.iconst 2, 1) := by decide +kernel
theorem d181_274 : decode (am_code 181) 274 = .ok (.iadd, 1) := by decide +kernel
theorem d181_275 : decode (am_code 181) 275 = .ok (.iaload, 1) := by decide +kernel
theorem d181_276 : decode (am_code 181) 276 = .ok (.aload_n 0, 1) := by decide +kernel
theorem d181_277 : decode (am_code 181) 277 = .ok (.iload_n 3, 1) := by decide +kernel
theorem d181_278 : decode (am_code 181) 278 = .ok (.iconst 3, 1) := by decide +kernel
theorem d181_279 : decode (am_code 181) 279 = .ok (.iadd, 1) := by decide +kernel
theorem d181_280 : decode (am_code 181) 280 = .ok (.iaload, 1) := by decide +kernel
theorem d181_281 : decode (am_code 181) 281 = .ok (.invokevirtual 36, 3) := by decide +kernel
theorem d181_284 : decode (am_code 181) 284 = .ok (.if_icmp .eq 337, 3) := by decide +kernel
theorem d181_287 : decode (am_code 181) 287 = .ok (.iconst 0, 1) := by decide +kernel
theorem d181_288 : decode (am_code 181) 288 = .ok (.ireturn, 1) := by decide +kernel
theorem d181_289 : decode (am_code 181) 289 = .ok (.aload_n 1, 1) := by decide +kernel
theorem d181_290 : decode (am_code 181) 290 = .ok (.aload_n 0, 1) := by decide +kernel
theorem d181_291 : decode (am_code 181) 291 = .ok (.iload_n 3, 1) := by decide +kernel
theorem d181_292 : decode (am_code 181) 292 = .ok (.iconst 1, 1) := by decide +kernel
theorem d181_293 : decode (am_code 181) 293 = .ok (.iadd, 1) := by decide +kernel
theorem d181_294 : decode (am_code 181) 294 = .ok (.iaload, 1) := by decide +kernel
theorem d181_295 : decode (am_code 181) 295 = .ok (.aload_n 0, 1) := by decide +kernel
theorem d181_296 : decode (am_code 181) 296 = .ok (.iload_n 3, 1) := by decide +kernel
theorem d181_297 : decode (am_code 181) 297 = .ok (.iconst 2, 1) := by decide +kernel
theorem d181_298 : decode (am_code 181) 298 = .ok (.iadd, 1) := by decide +kernel
theorem d181_299 : decode (am_code 181) 299 = .ok (.iaload, 1) := by decide +kernel
theorem d181_300 : decode (am_code 181) 300 = .ok (.aload_n 0, 1) := by decide +kernel
theorem d181_301 : decode (am_code 181) 301 = .ok (.iload_n 3, 1) := by decide +kernel
theorem d181_302 : decode (am_code 181) 302 = .ok (.iconst 3, 1) := by decide +kernel
theorem d181_303 : decode (am_code 181) 303 = .ok (.iadd, 1) := by decide +kernel
theorem d181_304 : decode (am_code 181) 304 = .ok (.iaload, 1) := by decide +kernel
theorem d181_305 : decode (am_code 181) 305 = .ok (.invokevirtual 37, 3) := by decide +kernel
theorem d181_308 : decode (am_code 181) 308 = .ok (.aload_n 2, 1) := by decide +kernel
theorem d181_309 : decode (am_code 181) 309 = .ok (.aload_n 0, 1) := by decide +kernel
theorem d181_310 : decode (am_code 181) 310 = .ok (.iload_n 3, 1) := by decide +kernel
theorem d181_311 : decode (am_code 181) 311 = .ok (.iconst 1, 1) := by decide +kernel
theorem d181_312 : decode (am_code 181) 312 = .ok (.iadd, 1) := by decide +kernel
theorem d181_313 : decode (am_code 181) 313 = .ok (.iaload, 1) := by decide +kernel
theorem d181_314 : decode (am_code 181) 314 = .ok (.aload_n 0, 1) := by decide +kernel
theorem d181_315 : decode (am_code 181) 315 = .ok (.iload_n 3, 1) := by decide +kernel
theorem d181_316 : decode (am_code 181) 316 = .ok (.iconst 2, 1) := by decide +kernel
theorem d181_317 : decode (am_code 181) 317 = .ok (.iadd, 1) := by decide +kernel
theorem d181_318 : decode (am_code 181) 318 = .ok (.iaload, 1) := by decide +kernel
theorem d181_319 : decode (am_code 181) 319 = .ok (.aload_n 0, 1) := by decide +kernel
theorem d181_320 : decode (am_code 181) 320 = .ok (.iload_n 3, 1) := by decide +kernel
theorem d181_321 : decode (am_code 181) 321 = .ok (.iconst 3, 1) := by decide +kernel
theorem d181_322 : decode (am_code 181) 322 = .ok (.iadd, 1) := by decide +kernel
theorem d181_323 : decode (am_code 181) 323 = .ok (.iaload, 1) := by decide +kernel
theorem d181_324 : decode (am_code 181) 324 = .ok (.invokevirtual 40, 3) := by decide +kernel
theorem d181_327 : decode (am_code 181) 327 = .ok (.if_icmp .eq 294, 3) := by decide +kernel
theorem d181_330 : decode (am_code 181) 330 = .ok (.iconst 0, 1) := by decide +kernel
theorem d181_331 : decode (am_code 181) 331 = .ok (.ireturn, 1) := by decide +kernel
theorem d181_332 : decode (am_code 181) 332 = .ok (.aload_n 1, 1) := by decide +kernel
theorem d181_333 : decode (am_code 181) 333 = .ok (.aload_n 0, 1) := by decide +kernel
theorem d181_334 : decode (am_code 181) 334 = .ok (.iload_n 3, 1) := by decide +kernel
theorem d181_335 : decode (am_code 181) 335 = .ok (.iconst 1, 1) := by decide +kernel
theorem d181_336 : decode (am_code 181) 336 = .ok (.iadd, 1) := by decide +kernel
theorem d181_337 : decode (am_code 181) 337 = .ok (.iaload, 1) := by decide +kernel
theorem d181_338 : decode (am_code 181) 338 = .ok (.invokevirtual 41, 3) := by decide +kernel
theorem d181_341 : decode (am_code 181) 341 = .ok (.aload_n 2, 1) := by decide +kernel
theorem d181_342 : decode (am_code 181) 342 = .ok (.aload_n 0, 1) := by decide +kernel
theorem d181_343 : decode (am_code 181) 343 = .ok (.iload_n 3, 1) := by decide +kernel
theorem d181_344 : decode (am_code 181) 344 = .ok (.iconst 1, 1) := by decide +kernel
theorem d181_345 : decode (am_code 181) 345 = .ok (.iadd, 1) := by decide +kernel
theorem d181_346 : decode (am_code 181) 346 = .ok (.iaload, 1) := by decide +kernel
theorem d181_347 : decode (am_code 181) 347 = .ok (.invokevirtual 45, 3) := by decide +kernel
theorem d181_350 : decode (am_code 181) 350 = .ok (.if_icmp .eq 271, 3) := by decide +kernel
theorem d181_353 : decode (am_code 181) 353 = .ok (.iconst 0, 1) := by decide +kernel
theorem d181_354 : decode (am_code 181) 354 = .ok (.ireturn, 1) := by decide +kernel
theorem d181_355 : decode (am_code 181) 355 = .ok (.aload_n 1, 1) := by decide +kernel
theorem d181_356 : decode (am_code 181) 356 = .ok (.aload_n 0, 1) := by decide +kernel
theorem d181_357 : decode (am_code 181) 357 = .ok (.iload_n 3, 1) := by decide +kernel
theorem d181_358 : decode (am_code 181) 358 = .ok (.iconst 1, 1) := by decide +kernel
theorem d181_359 : decode (am_code 181) 359 = .ok (.iadd, 1) := by decide +kernel
theorem d181_360 : decode (am_code 181) 360 = .ok (.iaload, 1) := by decide +kernel
theorem d181_361 : decode (am_code 181) 361 = .ok (.invokevirtual 46, 3) := by decide +kernel
theorem d181_364 : decode (am_code 181) 364 = .ok (.aload_n 2, 1) := by decide +kernel
theorem d181_365 : decode (am_code 181) 365 = .ok (.aload_n 0, 1) := by decide +kernel
theorem d181_366 : decode (am_code 181) 366 = .ok (.iload_n 3, 1) := by decide +kernel
theorem d181_367 : decode (am_code 181) 367 = .ok (.iconst 1, 1) := by decide +kernel
theorem d181_368 : decode (am_code 181) 368 = .ok (.iadd, 1) := by decide +kernel
theorem d181_369 : decode (am_code 181) 369 = .ok (.iaload, 1) := by decide +kernel
theorem d181_370 : decode (am_code 181) 370 = .ok (.invokevirtual 49, 3) := by decide +kernel
theorem d181_373 : decode (am_code 181) 373 = .ok (.if_icmp .eq 248, 3) := by decide +kernel
theorem d181_376 : decode (am_code 181) 376 = .ok (.iconst 0, 1) := by decide +kernel
theorem d181_377 : decode (am_code 181) 377 = .ok (.ireturn, 1) := by decide +kernel
theorem d181_378 : decode (am_code 181) 378 = .ok (.aload_n 1, 1) := by decide +kernel
theorem d181_379 : decode (am_code 181) 379 = .ok (.aload_n 0, 1) := by decide +kernel
theorem d181_380 : decode (am_code 181) 380 = .ok (.iload_n 3, 1) := by decide +kernel
theorem d181_381 : decode (am_code 181) 381 = .ok (.iconst 1, 1) := by decide +kernel
theorem d181_382 : decode (am_code 181) 382 = .ok (.iadd, 1) := by decide +kernel
theorem d181_383 : decode (am_code 181) 383 = .ok (.iaload, 1) := by decide +kernel
theorem d181_384 : decode (am_code 181) 384 = .ok (.invokevirtual 50, 3) := by decide +kernel
theorem d181_387 : decode (am_code 181) 387 = .ok (.aload_n 2, 1) := by decide +kernel
theorem d181_388 : decode (am_code 181) 388 = .ok (.aload_n 0, 1) := by decide +kernel
theorem d181_389 : decode (am_code 181) 389 = .ok (.iload_n 3, 1) := by decide +kernel
theorem d181_390 : decode (am_code 181) 390 = .ok (.iconst 1, 1) := by decide +kernel
theorem d181_391 : decode (am_code 181) 391 = .ok (.iadd, 1) := by decide +kernel
theorem d181_392 : decode (am_code 181) 392 = .ok (.iaload, 1) := by decide +kernel
theorem d181_393 : decode (am_code 181) 393 = .ok (.invokevirtual 53, 3) := by decide +kernel
theorem d181_396 : decode (am_code 181) 396 = .ok (.if_icmp .eq 225, 3) := by decide +kernel
theorem d181_399 : decode (am_code 181) 399 = .ok (.iconst 0, 1) := by decide +kernel
theorem d181_400 : decode (am_code 181) 400 = .ok (.ireturn, 1) := by decide +kernel
theorem d181_401 : decode (am_code 181) 401 = .ok (.aload_n 1, 1) := by decide +kernel
theorem d181_402 : decode (am_code 181) 402 = .ok (.aload_n 0, 1) := by decide +kernel
theorem d181_403 : decode (am_code 181) 403 = .ok (.iload_n 3, 1) := by decide +kernel
theorem d181_404 : decode (am_code 181) 404 = .ok (.iconst 1, 1) := by decide +kernel
theorem d181_405 : decode (am_code 181) 405 = .ok (.iadd, 1) := by decide +kernel
theorem d181_406 : decode (am_code 181) 406 = .ok (.iaload, 1) := by decide +kernel
theorem d181_407 : decode (am_code 181) 407 = .ok (.invokevirtual 54, 3) := by decide +kernel
theorem d181_410 : decode (am_code 181) 410 = .ok (.aload_n 2, 1) := by decide +kernel
theorem d181_411 : decode (am_code 181) 411 = .ok (.aload_n 0, 1) := by decide +kernel
theorem d181_412 : decode (am_code 181) 412 = .ok (.iload_n 3, 1) := by decide +kernel
theorem d181_413 : decode (am_code 181) 413 = .ok (.iconst 1, 1) := by decide +kernel
theorem d181_414 : decode (am_code 181) 414 = .ok (.iadd, 1) := by decide +kernel
theorem d181_415 : decode (am_code 181) 415 = .ok (.iaload, 1) := by decide +kernel
theorem d181_416 : decode (am_code 181) 416 = .ok (.invokevirtual 57, 3) := by decide +kernel
theorem d181_419 : decode (am_code 181) 419 = .ok (.if_icmp .eq 202, 3) := by decide +kernel
theorem d181_422 : decode (am_code 181) 422 = .ok (.iconst 0, 1) := by decide +kernel
theorem d181_423 : decode (am_code 181) 423 = .ok (.ireturn, 1) := by decide +kernel
theorem d181_424 : decode (am_code 181) 424 = .ok (.aload_n 1, 1) := by decide +kernel
theorem d181_425 : decode (am_code 181) 425 = .ok (.invokevirtual 58, 3) := by decide +kernel
theorem d181_428 : decode (am_code 181) 428 = .ok (.aload_n 2, 1) := by decide +kernel
theorem d181_429 : decode (am_code 181) 429 = .ok (.invokevirtual 61, 3) := by decide +kernel
theorem d181_432 : decode (am_code 181) 432 = .ok (.if_icmp .eq 189, 3) := by decide +kernel
theorem d181_435 : decode (am_code 181) 435 = .ok (.iconst 0, 1) := by decide +kernel
theorem d181_436 : decode (am_code 181) 436 = .ok (.ireturn, 1) := by decide +kernel
theorem d181_437 : decode (am_code 181) 437 = .ok (.aload_n 1, 1) := by decide +kernel
theorem d181_438 : decode (am_code 181) 438 = .ok (.aload_n 0, 1) := by decide +kernel
theorem d181_439 : decode (am_code 181) 439 = .ok (.iload_n 3, 1) := by decide +kernel
theorem d181_440 : decode (am_code 181) 440 = .ok (.iconst 1, 1) := by decide +kernel
theorem d181_441 : decode (am_code 181) 441 = .ok (.iadd, 1) := by decide +kernel
theorem d181_442 : decode (am_code 181) 442 = .ok (.iaload, 1) := by decide +kernel
theorem d181_443 : decode (am_code 181) 443 = .ok (.aload_n 0, 1) := by decide +kernel
theorem d181_444 : decode (am_code 181) 444 = .ok (.iload_n 3, 1) := by decide +kernel
theorem d181_445 : decode (am_code 181) 445 = .ok (.iconst 2, 1) := by decide +kernel
theorem d181_446 : decode (am_code 181) 446 = .ok (.iadd, 1) := by decide +kernel
theorem d181_447 : decode (am_code 181) 447 = .ok (.iaload, 1) := by decide +kernel
theorem d181_448 : decode (am_code 181) 448 = .ok (.invokevirtual 62, 3) := by decide +kernel
theorem d181_451 : decode (am_code 181) 451 = .ok (.aload_n 2, 1) := by decide +kernel
theorem d181_452 : decode (am_code 181) 452 = .ok (.aload_n 0, 1) := by decide +kernel
theorem d181_453 : decode (am_code 181) 453 = .ok (.iload_n 3, 1) := by decide +kernel
theorem d181_454 : decode (am_code 181) 454 = .ok (.iconst 1, 1) := by decide +kernel
theorem d181_455 : decode (am_code 181) 455 = .ok (.iadd, 1) := by decide +kernel
theorem d181_456 : decode (am_code 181) 456 = .ok (.iaload, 1) := by decide +kernel
theorem d181_457 : decode (am_code 181) 457 = .ok (.aload_n 0, 1) := by decide +kernel
theorem d181_458 : decode (am_code 181) 458 = .ok (.iload_n 3, 1) := by decide +kernel
theorem d181_459 : decode (am_code 181) 459 = .ok (.iconst 2, 1) := by decide +kernel
theorem d181_460 : decode (am_code 181) 460 = .ok (.iadd, 1) := by decide +kernel
theorem d181_461 : decode (am_code 181) 461 = .ok (.iaload, 1) := by decide +kernel
theorem d181_462 : decode (am_code 181) 462 = .ok (.invokevirtual 65, 3) := by decide +kernel
theorem d181_465 : decode (am_code 181) 465 = .ok (.if_icmp .eq 156, 3) := by decide +kernel
theorem d181_468 : decode (am_code 181) 468 = .ok (.iconst 0, 1) := by decide +kernel
theorem d181_469 : decode (am_code 181) 469 = .ok (.ireturn, 1) := by decide +kernel
theorem d181_470 : decode (am_code 181) 470 = .ok (.aload_n 1, 1) := by decide +kernel
theorem d181_471 : decode (am_code 181) 471 = .ok (.aload_n 0, 1) := by decide +kernel
theorem d181_472 : decode (am_code 181) 472 = .ok (.iload_n 3, 1) := by decide +kernel
theorem d181_473 : decode (am_code 181) 473 = .ok (.iconst 1, 1) := by decide +kernel
theorem d181_474 : decode (am_code 181) 474 = .ok (.iadd, 1) := by decide +kernel
theorem d181_475 : decode (am_code 181) 475 = .ok (.iaload, 1) := by decide +kernel
theorem d181_476 : decode (am_code 181) 476 = .ok (.aload_n 0, 1) := by decide +kernel
theorem d181_477 : decode (am_code 181) 477 = .ok (.iload_n 3, 1) := by decide +kernel
theorem d181_478 : decode (am_code 181) 478 = .ok (.iconst 2, 1) := by decide +kernel
theorem d181_479 : decode (am_code 181) 479 = .ok (.iadd, 1) := by decide +kernel
theorem d181_480 : decode (am_code 181) 480 = .ok (.iaload, 1) := by decide +kernel
theorem d181_481 : decode (am_code 181) 481 = .ok (.invokevirtual 66, 3) := by decide +kernel
theorem d181_484 : decode (am_code 181) 484 = .ok (.aload_n 2, 1) := by decide +kernel
theorem d181_485 : decode (am_code 181) 485 = .ok (.aload_n 0, 1) := by decide +kernel
theorem d181_486 : decode (am_code 181) 486 = .ok (.iload_n 3, 1) := by decide +kernel
theorem d181_487 : decode (am_code 181) 487 = .ok (.iconst 1, 1) := by decide +kernel
theorem d181_488 : decode (am_code 181) 488 = .ok (.iadd, 1) := by decide +kernel
theorem d181_489 : decode (am_code 181) 489 = .ok (.iaload, 1) := by decide +kernel
theorem d181_490 : decode (am_code 181) 490 = .ok (.aload_n 0, 1) := by decide +kernel
theorem d181_491 : decode (am_code 181) 491 = .ok (.iload_n 3, 1) := by decide +kernel
theorem d181_492 : decode (am_code 181) 492 = .ok (.iconst 2, 1) := by decide +kernel
theorem d181_493 : decode (am_code 181) 493 = .ok (.iadd, 1) := by decide +kernel
theorem d181_494 : decode (am_code 181) 494 = .ok (.iaload, 1) := by decide +kernel
theorem d181_495 : decode (am_code 181) 495 = .ok (.invokevirtual 69, 3) := by decide +kernel
theorem d181_498 : decode (am_code 181) 498 = .ok (.if_icmp .eq 123, 3) := by decide +kernel
theorem d181_501 : decode (am_code 181) 501 = .ok (.iconst 0, 1) := by decide +kernel
theorem d181_502 : decode (am_code 181) 502 = .ok (.ireturn, 1) := by decide +kernel
theorem d181_503 : decode (am_code 181) 503 = .ok (.aload_n 1, 1) := by decide +kernel
theorem d181_504 : decode (am_code 181) 504 = .ok (.aload_n 0, 1) := by decide +kernel
theorem d181_505 : decode (am_code 181) 505 = .ok (.iload_n 3, 1) := by decide +kernel
theorem d181_506 : decode (am_code 181) 506 = .ok (.iconst 1, 1) := by decide +kernel
theorem d181_507 : decode (am_code 181) 507 = .ok (.iadd, 1) := by decide +kernel
theorem d181_508 : decode (am_code 181) 508 = .ok (.iaload, 1) := by decide +kernel
theorem d181_509 : decode (am_code 181) 509 = .ok (.aload_n 0, 1) := by decide +kernel
theorem d181_510 : decode (am_code 181) 510 = .ok (.iload_n 3, 1) := by decide +kernel
theorem d181_511 : decode (am_code 181) 511 = .ok (.iconst 2, 1) := by decide +kernel
theorem d181_512 : decode (am_code 181) 512 = .ok (.iadd, 1) := by decide +kernel
theorem d181_513 : decode (am_code 181) 513 = .ok (.iaload, 1) := by decide +kernel
theorem d181_514 : decode (am_code 181) 514 = .ok (.invokevirtual 70, 3) := by decide +kernel
theorem d181_517 : decode (am_code 181) 517 = .ok (.aload_n 2, 1) := by decide +kernel
theorem d181_518 : decode (am_code 181) 518 = .ok (.aload_n 0, 1) := by decide +kernel
theorem d181_519 : decode (am_code 181) 519 = .ok (.iload_n 3, 1) := by decide +kernel
theorem d181_520 : decode (am_code 181) 520 = .ok (.iconst 1, 1) := by decide +kernel
theorem d181_521 : decode (am_code 181) 521 = .ok (.iadd, 1) := by decide +kernel
theorem d181_522 : decode (am_code 181) 522 = .ok (.iaload, 1) := by decide +kernel
theorem d181_523 : decode (am_code 181) 523 = .ok (.aload_n 0, 1) := by decide +kernel
theorem d181_524 : decode (am_code 181) 524 = .ok (.iload_n 3, 1) := by decide +kernel
theorem d181_525 : decode (am_code 181) 525 = .ok (.iconst 2, 1) := by decide +kernel
theorem d181_526 : decode (am_code 181) 526 = .ok (.iadd, 1) := by decide +kernel
theorem d181_527 : decode (am_code 181) 527 = .ok (.iaload, 1) := by decide +kernel
theorem d181_528 : decode (am_code 181) 528 = .ok (.invokevirtual 73, 3) := by decide +kernel
theorem d181_531 : decode (am_code 181) 531 = .ok (.if_icmp .eq 90, 3) := by decide +kernel
theorem d181_534 : decode (am_code 181) 534 = .ok (.iconst 0, 1) := by decide +kernel
theorem d181_535 : decode (am_code 181) 535 = .ok (.ireturn, 1) := by decide +kernel
theorem d181_536 : decode (am_code 181) 536 = .ok (.aload_n 1, 1) := by decide +kernel
theorem d181_537 : decode (am_code 181) 537 = .ok (.invokevirtual 74, 3) := by decide +kernel
theorem d181_540 : decode (am_code 181) 540 = .ok (.aload_n 2, 1) := by decide +kernel
theorem d181_541 : decode (am_code 181) 541 = .ok (.invokevirtual 77, 3) := by decide +kernel
theorem d181_544 : decode (am_code 181) 544 = .ok (.if_icmp .eq 77, 3) := by decide +kernel
theorem d181_547 : decode (am_code 181) 547 = .ok (.iconst 0, 1) := by decide +kernel
theorem d181_548 : decode (am_code 181) 548 = .ok (.ireturn, 1) := by decide +kernel
theorem d181_549 : decode (am_code 181) 549 = .ok (.aload_n 1, 1) := by decide +kernel
theorem d181_550 : decode (am_code 181) 550 = .ok (.invokevirtual 78, 3) := by decide +kernel
theorem d181_553 : decode (am_code 181) 553 = .ok (.aload_n 2, 1) := by decide +kernel
theorem d181_554 : decode (am_code 181) 554 = .ok (.invokevirtual 81, 3) := by decide +kernel
theorem d181_557 : decode (am_code 181) 557 = .ok (.if_icmp .eq 64, 3) := by decide +kernel
theorem d181_560 : decode (am_code 181) 560 = .ok (.iconst 0, 1) := by decide +kernel
theorem d181_561 : decode (am_code 181) 561 = .ok (.ireturn, 1) := by decide +kernel
theorem d181_562 : decode (am_code 181) 562 = .ok (.aload_n 1, 1) := by decide +kernel
theorem d181_563 : decode (am_code 181) 563 = .ok (.invokevirtual 82, 3) := by decide +kernel
theorem d181_566 : decode (am_code 181) 566 = .ok (.aload_n 2, 1) := by decide +kernel
theorem d181_567 : decode (am_code 181) 567 = .ok (.invokevirtual 85, 3) := by decide +kernel
theorem d181_570 : decode (am_code 181) 570 = .ok (.if_icmp .eq 51, 3) := by decide +kernel
theorem d181_573 : decode (am_code 181) 573 = .ok (.iconst 0, 1) := by decide +kernel
theorem d181_574 : decode (am_code 181) 574 = .ok (.ireturn, 1) := by decide +kernel
theorem d181_575 : decode (am_code 181) 575 = .ok (.aload_n 1, 1) := by decide +kernel
theorem d181_576 : decode (am_code 181) 576 = .ok (.invokevirtual 86, 3) := by decide +kernel
theorem d181_579 : decode (am_code 181) 579 = .ok (.aload_n 2, 1) := by decide +kernel
theorem d181_580 : decode (am_code 181) 580 = .ok (.invokevirtual 89, 3) := by decide +kernel
theorem d181_583 : decode (am_code 181) 583 = .ok (.if_icmp .eq 38, 3) := by decide +kernel
theorem d181_586 : decode (am_code 181) 586 = .ok (.iconst 0, 1) := by decide +kernel
theorem d181_587 : decode (am_code 181) 587 = .ok (.ireturn, 1) := by decide +kernel
theorem d181_588 : decode (am_code 181) 588 = .ok (.aload_n 1, 1) := by decide +kernel
theorem d181_589 : decode (am_code 181) 589 = .ok (.aload_n 0, 1) := by decide +kernel
theorem d181_590 : decode (am_code 181) 590 = .ok (.iload_n 3, 1) := by decide +kernel
theorem d181_591 : decode (am_code 181) 591 = .ok (.iconst 1, 1) := by decide +kernel
theorem d181_592 : decode (am_code 181) 592 = .ok (.iadd, 1) := by decide +kernel
theorem d181_593 : decode (am_code 181) 593 = .ok (.iaload, 1) := by decide +kernel
theorem d181_594 : decode (am_code 181) 594 = .ok (.aload_n 0, 1) := by decide +kernel
theorem d181_595 : decode (am_code 181) 595 = .ok (.iload_n 3, 1) := by decide +kernel
theorem d181_596 : decode (am_code 181) 596 = .ok (.iconst 2, 1) := by decide +kernel
theorem d181_597 : decode (am_code 181) 597 = .ok (.iadd, 1) := by decide +kernel
theorem d181_598 : decode (am_code 181) 598 = .ok (.iaload, 1) := by decide +kernel
theorem d181_599 : decode (am_code 181) 599 = .ok (.invokevirtual 90, 3) := by decide +kernel
theorem d181_602 : decode (am_code 181) 602 = .ok (.aload_n 2, 1) := by decide +kernel
theorem d181_603 : decode (am_code 181) 603 = .ok (.aload_n 0, 1) := by decide +kernel
theorem d181_604 : decode (am_code 181) 604 = .ok (.iload_n 3, 1) := by decide +kernel
theorem d181_605 : decode (am_code 181) 605 = .ok (.iconst 1, 1) := by decide +kernel
theorem d181_606 : decode (am_code 181) 606 = .ok (.iadd, 1) := by decide +kernel
theorem d181_607 : decode (am_code 181) 607 = .ok (.iaload, 1) := by decide +kernel
theorem d181_608 : decode (am_code 181) 608 = .ok (.aload_n 0, 1) := by decide +kernel
theorem d181_609 : decode (am_code 181) 609 = .ok (.iload_n 3, 1) := by decide +kernel
theorem d181_610 : decode (am_code 181) 610 = .ok (.iconst 2, 1) := by decide +kernel
theorem d181_611 : decode (am_code 181) 611 = .ok (.iadd, 1) := by decide +kernel
theorem d181_612 : decode (am_code 181) 612 = .ok (.iaload, 1) := by decide +kernel
theorem d181_613 : decode (am_code 181) 613 = .ok (.invokevirtual 93, 3) := by decide +kernel
theorem d181_616 : decode (am_code 181) 616 = .ok (.if_icmp .eq 5, 3) := by decide +kernel
theorem d181_619 : decode (am_code 181) 619 = .ok (.iconst 0, 1) := by decide +kernel
theorem d181_620 : decode (am_code 181) 620 = .ok (.ireturn, 1) := by decide +kernel
theorem d181_621 : decode (am_code 181) 621 = .ok (.iinc 3 6, 3) := by decide +kernel
theorem d181_624 : decode (am_code 181) 624 = .ok (.goto (-606), 3) := by decide +kernel
theorem d181_627 : decode (am_code 181) 627 = .ok (.iconst 1, 1) := by decide +kernel
theorem d181_628 : decode (am_code 181) 628 = .ok (.ireturn, 1) := by decide +kernel
theorem c181_9 : am_find am_ctL (am_mc 181) 9 = some (2, 78) ∧ am_na 78 = 0 ∧ am_fr 78 + 1 ≤ am_fr 181 ∧ 8 + (am_maxL 78 + 11) + am_lo 78 ≤ am_lo 181 := by decide +kernel
theorem c181_12 : am_find am_ctL (am_mc 181) 12 = some (2, 108) ∧ am_na 108 = 0 ∧ am_fr 108 + 1 ≤ am_fr 181 ∧ 8 + (am_maxL 108 + 11) + am_lo 108 ≤ am_lo 181 := by decide +kernel
theorem c181_13 : am_find am_ctL (am_mc 181) 13 = some (0, 79) ∧ am_na 79 = 0 ∧ am_fr 79 + 1 ≤ am_fr 181 ∧ 8 + (am_maxL 79 + 11) + am_lo 79 ≤ am_lo 181 := by decide +kernel
theorem c181_17 : am_find am_ctL (am_mc 181) 17 = some (0, 126) ∧ am_na 126 = 0 ∧ am_fr 126 + 1 ≤ am_fr 181 ∧ 8 + (am_maxL 126 + 11) + am_lo 126 ≤ am_lo 181 := by decide +kernel
theorem c181_18 : am_find am_ctL (am_mc 181) 18 = some (0, 80) ∧ am_na 80 = 5 ∧ am_fr 80 + 1 ≤ am_fr 181 ∧ 8 + (am_maxL 80 + 11) + am_lo 80 ≤ am_lo 181 := by decide +kernel
theorem c181_22 : am_find am_ctL (am_mc 181) 22 = some (0, 128) ∧ am_na 128 = 5 ∧ am_fr 128 + 1 ≤ am_fr 181 ∧ 8 + (am_maxL 128 + 11) + am_lo 128 ≤ am_lo 181 := by decide +kernel
theorem c181_23 : am_find am_ctL (am_mc 181) 23 = some (0, 81) ∧ am_na 81 = 2 ∧ am_fr 81 + 1 ≤ am_fr 181 ∧ 8 + (am_maxL 81 + 11) + am_lo 81 ≤ am_lo 181 := by decide +kernel
theorem c181_27 : am_find am_ctL (am_mc 181) 27 = some (0, 129) ∧ am_na 129 = 2 ∧ am_fr 129 + 1 ≤ am_fr 181 ∧ 8 + (am_maxL 129 + 11) + am_lo 129 ≤ am_lo 181 := by decide +kernel
theorem c181_28 : am_find am_ctL (am_mc 181) 28 = some (0, 82) ∧ am_na 82 = 0 ∧ am_fr 82 + 1 ≤ am_fr 181 ∧ 8 + (am_maxL 82 + 11) + am_lo 82 ≤ am_lo 181 := by decide +kernel
theorem c181_31 : am_find am_ctL (am_mc 181) 31 = some (0, 130) ∧ am_na 130 = 0 ∧ am_fr 130 + 1 ≤ am_fr 181 ∧ 8 + (am_maxL 130 + 11) + am_lo 130 ≤ am_lo 181 := by decide +kernel
theorem c181_32 : am_find am_ctL (am_mc 181) 32 = some (0, 83) ∧ am_na 83 = 3 ∧ am_fr 83 + 1 ≤ am_fr 181 ∧ 8 + (am_maxL 83 + 11) + am_lo 83 ≤ am_lo 181 := by decide +kernel
theorem c181_36 : am_find am_ctL (am_mc 181) 36 = some (0, 131) ∧ am_na 131 = 3 ∧ am_fr 131 + 1 ≤ am_fr 181 ∧ 8 + (am_maxL 131 + 11) + am_lo 131 ≤ am_lo 181 := by decide +kernel
theorem c181_37 : am_find am_ctL (am_mc 181) 37 = some (0, 84) ∧ am_na 84 = 3 ∧ am_fr 84 + 1 ≤ am_fr 181 ∧ 8 + (am_maxL 84 + 11) + am_lo 84 ≤ am_lo 181 := by decide +kernel
theorem c181_40 : am_find am_ctL (am_mc 181) 40 = some (0, 132) ∧ am_na 132 = 3 ∧ am_fr 132 + 1 ≤ am_fr 181 ∧ 8 + (am_maxL 132 + 11) + am_lo 132 ≤ am_lo 181 := by decide +kernel
theorem c181_41 : am_find am_ctL (am_mc 181) 41 = some (0, 85) ∧ am_na 85 = 1 ∧ am_fr 85 + 1 ≤ am_fr 181 ∧ 8 + (am_maxL 85 + 11) + am_lo 85 ≤ am_lo 181 := by decide +kernel
theorem c181_45 : am_find am_ctL (am_mc 181) 45 = some (0, 133) ∧ am_na 133 = 1 ∧ am_fr 133 + 1 ≤ am_fr 181 ∧ 8 + (am_maxL 133 + 11) + am_lo 133 ≤ am_lo 181 := by decide +kernel
theorem c181_46 : am_find am_ctL (am_mc 181) 46 = some (0, 86) ∧ am_na 86 = 1 ∧ am_fr 86 + 1 ≤ am_fr 181 ∧ 8 + (am_maxL 86 + 11) + am_lo 86 ≤ am_lo 181 := by decide +kernel
theorem c181_49 : am_find am_ctL (am_mc 181) 49 = some (0, 135) ∧ am_na 135 = 1 ∧ am_fr 135 + 1 ≤ am_fr 181 ∧ 8 + (am_maxL 135 + 11) + am_lo 135 ≤ am_lo 181 := by decide +kernel
theorem c181_50 : am_find am_ctL (am_mc 181) 50 = some (0, 87) ∧ am_na 87 = 1 ∧ am_fr 87 + 1 ≤ am_fr 181 ∧ 8 + (am_maxL 87 + 11) + am_lo 87 ≤ am_lo 181 := by decide +kernel
theorem c181_53 : am_find am_ctL (am_mc 181) 53 = some (0, 141) ∧ am_na 141 = 1 ∧ am_fr 141 + 1 ≤ am_fr 181 ∧ 8 + (am_maxL 141 + 11) + am_lo 141 ≤ am_lo 181 := by decide +kernel
theorem c181_54 : am_find am_ctL (am_mc 181) 54 = some (0, 88) ∧ am_na 88 = 1 ∧ am_fr 88 + 1 ≤ am_fr 181 ∧ 8 + (am_maxL 88 + 11) + am_lo 88 ≤ am_lo 181 := by decide +kernel
theorem c181_57 : am_find am_ctL (am_mc 181) 57 = some (0, 148) ∧ am_na 148 = 1 ∧ am_fr 148 + 1 ≤ am_fr 181 ∧ 8 + (am_maxL 148 + 11) + am_lo 148 ≤ am_lo 181 := by decide +kernel
theorem c181_58 : am_find am_ctL (am_mc 181) 58 = some (0, 89) ∧ am_na 89 = 0 ∧ am_fr 89 + 1 ≤ am_fr 181 ∧ 8 + (am_maxL 89 + 11) + am_lo 89 ≤ am_lo 181 := by decide +kernel
theorem c181_61 : am_find am_ctL (am_mc 181) 61 = some (0, 161) ∧ am_na 161 = 0 ∧ am_fr 161 + 1 ≤ am_fr 181 ∧ 8 + (am_maxL 161 + 11) + am_lo 161 ≤ am_lo 181 := by decide +kernel
theorem c181_62 : am_find am_ctL (am_mc 181) 62 = some (0, 90) ∧ am_na 90 = 2 ∧ am_fr 90 + 1 ≤ am_fr 181 ∧ 8 + (am_maxL 90 + 11) + am_lo 90 ≤ am_lo 181 := by decide +kernel
theorem c181_65 : am_find am_ctL (am_mc 181) 65 = some (0, 162) ∧ am_na 162 = 2 ∧ am_fr 162 + 1 ≤ am_fr 181 ∧ 8 + (am_maxL 162 + 11) + am_lo 162 ≤ am_lo 181 := by decide +kernel
theorem c181_66 : am_find am_ctL (am_mc 181) 66 = some (0, 91) ∧ am_na 91 = 2 ∧ am_fr 91 + 1 ≤ am_fr 181 ∧ 8 + (am_maxL 91 + 11) + am_lo 91 ≤ am_lo 181 := by decide +kernel
theorem c181_69 : am_find am_ctL (am_mc 181) 69 = some (0, 163) ∧ am_na 163 = 2 ∧ am_fr 163 + 1 ≤ am_fr 181 ∧ 8 + (am_maxL 163 + 11) + am_lo 163 ≤ am_lo 181 := by decide +kernel
theorem c181_70 : am_find am_ctL (am_mc 181) 70 = some (0, 92) ∧ am_na 92 = 2 ∧ am_fr 92 + 1 ≤ am_fr 181 ∧ 8 + (am_maxL 92 + 11) + am_lo 92 ≤ am_lo 181 := by decide +kernel
theorem c181_73 : am_find am_ctL (am_mc 181) 73 = some (0, 164) ∧ am_na 164 = 2 ∧ am_fr 164 + 1 ≤ am_fr 181 ∧ 8 + (am_maxL 164 + 11) + am_lo 164 ≤ am_lo 181 := by decide +kernel
theorem c181_74 : am_find am_ctL (am_mc 181) 74 = some (0, 93) ∧ am_na 93 = 0 ∧ am_fr 93 + 1 ≤ am_fr 181 ∧ 8 + (am_maxL 93 + 11) + am_lo 93 ≤ am_lo 181 := by decide +kernel
theorem c181_77 : am_find am_ctL (am_mc 181) 77 = some (0, 165) ∧ am_na 165 = 0 ∧ am_fr 165 + 1 ≤ am_fr 181 ∧ 8 + (am_maxL 165 + 11) + am_lo 165 ≤ am_lo 181 := by decide +kernel
theorem c181_78 : am_find am_ctL (am_mc 181) 78 = some (0, 94) ∧ am_na 94 = 0 ∧ am_fr 94 + 1 ≤ am_fr 181 ∧ 8 + (am_maxL 94 + 11) + am_lo 94 ≤ am_lo 181 := by decide +kernel
theorem c181_81 : am_find am_ctL (am_mc 181) 81 = some (0, 167) ∧ am_na 167 = 0 ∧ am_fr 167 + 1 ≤ am_fr 181 ∧ 8 + (am_maxL 167 + 11) + am_lo 167 ≤ am_lo 181 := by decide +kernel
theorem c181_82 : am_find am_ctL (am_mc 181) 82 = some (0, 95) ∧ am_na 95 = 0 ∧ am_fr 95 + 1 ≤ am_fr 181 ∧ 8 + (am_maxL 95 + 11) + am_lo 95 ≤ am_lo 181 := by decide +kernel
theorem c181_85 : am_find am_ctL (am_mc 181) 85 = some (0, 169) ∧ am_na 169 = 0 ∧ am_fr 169 + 1 ≤ am_fr 181 ∧ 8 + (am_maxL 169 + 11) + am_lo 169 ≤ am_lo 181 := by decide +kernel
theorem c181_86 : am_find am_ctL (am_mc 181) 86 = some (0, 96) ∧ am_na 96 = 0 ∧ am_fr 96 + 1 ≤ am_fr 181 ∧ 8 + (am_maxL 96 + 11) + am_lo 96 ≤ am_lo 181 := by decide +kernel
theorem c181_89 : am_find am_ctL (am_mc 181) 89 = some (0, 175) ∧ am_na 175 = 0 ∧ am_fr 175 + 1 ≤ am_fr 181 ∧ 8 + (am_maxL 175 + 11) + am_lo 175 ≤ am_lo 181 := by decide +kernel
theorem c181_90 : am_find am_ctL (am_mc 181) 90 = some (0, 97) ∧ am_na 97 = 2 ∧ am_fr 97 + 1 ≤ am_fr 181 ∧ 8 + (am_maxL 97 + 11) + am_lo 97 ≤ am_lo 181 := by decide +kernel
theorem c181_93 : am_find am_ctL (am_mc 181) 93 = some (0, 178) ∧ am_na 178 = 2 ∧ am_fr 178 + 1 ≤ am_fr 181 ∧ 8 + (am_maxL 178 + 11) + am_lo 178 ≤ am_lo 181 := by decide +kernel
theorem l181 : am_maxL 181 = 4 := by decide +kernel
theorem t181 : am_ret 181 = (some .boolean) := by decide +kernel
