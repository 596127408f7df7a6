/-! the law: one call of each kind -/
section
variable {X : am_X} {K : Nat} {T : Nat → MT} {lab : Nat → List Nat} {mu : Nat → Nat} {k j : Nat} {Q : am_R → Prop}
theorem aw_scr {mi pc i n k j : Nat} {L : am_L} {st : List Value} {h : am_H} {Q : am_R → Prop} (hd : decode (am_code mi) pc = .ok (.iaload, 1)) (hi : i < X.1) (hl : X.1 < 2 ^ 31) (kk : AW X mi (pc + 1, L, .int (X.2 i) :: st, n, h, k, j) Q) : AW X mi (pc, L, .int (nI i) :: .float 0 :: st, n, h, k, j) Q := by
  have e : (nI i).toNatClampNeg = i := nI_clamp (by omega)
  refine as_fald hd (by decide) (show am_in (nI i) X.1 = true from am_in_nI hi hl) ?_
  show AW X mi (pc + 1, L, .int (X.2 (nI i).toNatClampNeg) :: st, n, h, k, j) Q
  rw [e]
  exact kk
theorem lw_0 (hT : TabOK K T lab mu) (hV : CovH K T) {i : Nat} (hi : i + 6 ≤ X.1) (h31 : X.1 < 2 ^ 31) {S : MS} {P : Nat} {mt : Nat → Option Nat} {go : Nat → Nat} (h : Inv S P mt go) (nx : ∀ U P mt go, Inv U P mt go → AW X 181 (621, [(3, .int (nI i)), (2, .ref 189), (1, .ref 0), (0, .float 0)], [], 208, HP U, k, j) Q) : AW X 181 (124, [(3, .int (nI i)), (2, .ref 189), (1, .ref 0), (0, .float 0)], [], 208, HP S, k, j) Q := by
  obtain ⟨z, T, U, m1, m2, P', mt', go', hI⟩ := st_piece X h
  refine as_aload_n d181_124 rfl ?_
  refine ac_v0 d181_125 c181_13 (by decide) rfl (Nat.le_of_ble_eq_true rfl) m1 ?_
  refine as_aload_n d181_128 rfl ?_
  refine ac_v0 d181_129 c181_17 (by decide) rfl (Nat.le_of_ble_eq_true rfl) m2 ?_
  refine as_icmp_eq 621 d181_132 (by decide) (fun _ => ?_) (fun c => absurd rfl c)
  exact nx U P' mt' go' hI
theorem lw_1 (hT : TabOK K T lab mu) (hV : CovH K T) {i : Nat} (hi : i + 6 ≤ X.1) (h31 : X.1 < 2 ^ 31) {S : MS} {P : Nat} {mt : Nat → Option Nat} {go : Nat → Nat} (h : Inv S P mt go) (nx : ∀ U P mt go, Inv U P mt go → AW X 181 (621, [(3, .int (nI i)), (2, .ref 189), (1, .ref 0), (0, .float 0)], [], 208, HP U, k, j) Q) : AW X 181 (137, [(3, .int (nI i)), (2, .ref 189), (1, .ref 0), (0, .float 0)], [], 208, HP S, k, j) Q := by
  obtain ⟨z, T, U, m1, m2, P', mt', go', hI⟩ := st_glue X h (X.2 (i + 1)) (X.2 (i + 2)) (X.2 (i + 3)) (X.2 (i + 4)) (X.2 (i + 5))
  refine as_aload_n d181_137 rfl ?_
  refine as_aload_f d181_138 rfl ?_
  refine as_iload_n d181_139 rfl ?_
  refine an_iconst 1 d181_140 rfl ?_
  refine an_iadd d181_141 ?_
  refine aw_scr d181_142 (show i + 1 < X.1 by omega) h31 ?_
  refine as_aload_f d181_143 rfl ?_
  refine as_iload_n d181_144 rfl ?_
  refine an_iconst 2 d181_145 rfl ?_
  refine an_iadd d181_146 ?_
  refine aw_scr d181_147 (show i + 2 < X.1 by omega) h31 ?_
  refine as_aload_f d181_148 rfl ?_
  refine as_iload_n d181_149 rfl ?_
  refine an_iconst 3 d181_150 rfl ?_
  refine an_iadd d181_151 ?_
  refine aw_scr d181_152 (show i + 3 < X.1 by omega) h31 ?_
  refine as_aload_f d181_153 rfl ?_
  refine as_iload_n d181_154 rfl ?_
  refine an_iconst 4 d181_155 rfl ?_
  refine an_iadd d181_156 ?_
  refine aw_scr d181_157 (show i + 4 < X.1 by omega) h31 ?_
  refine as_aload_f d181_158 rfl ?_
  refine as_iload_n d181_159 rfl ?_
  refine an_iconst 5 d181_160 rfl ?_
  refine an_iadd d181_161 ?_
  refine aw_scr d181_162 (show i + 5 < X.1 by omega) h31 ?_
  refine ac_v5 d181_163 c181_18 (by decide) rfl (Nat.le_of_ble_eq_true rfl) m1 ?_
  refine as_aload_n d181_166 rfl ?_
  refine as_aload_f d181_167 rfl ?_
  refine as_iload_n d181_168 rfl ?_
  refine an_iconst 1 d181_169 rfl ?_
  refine an_iadd d181_170 ?_
  refine aw_scr d181_171 (show i + 1 < X.1 by omega) h31 ?_
  refine as_aload_f d181_172 rfl ?_
  refine as_iload_n d181_173 rfl ?_
  refine an_iconst 2 d181_174 rfl ?_
  refine an_iadd d181_175 ?_
  refine aw_scr d181_176 (show i + 2 < X.1 by omega) h31 ?_
  refine as_aload_f d181_177 rfl ?_
  refine as_iload_n d181_178 rfl ?_
  refine an_iconst 3 d181_179 rfl ?_
  refine an_iadd d181_180 ?_
  refine aw_scr d181_181 (show i + 3 < X.1 by omega) h31 ?_
  refine as_aload_f d181_182 rfl ?_
  refine as_iload_n d181_183 rfl ?_
  refine an_iconst 4 d181_184 rfl ?_
  refine an_iadd d181_185 ?_
  refine aw_scr d181_186 (show i + 4 < X.1 by omega) h31 ?_
  refine as_aload_f d181_187 rfl ?_
  refine as_iload_n d181_188 rfl ?_
  refine an_iconst 5 d181_189 rfl ?_
  refine an_iadd d181_190 ?_
  refine aw_scr d181_191 (show i + 5 < X.1 by omega) h31 ?_
  refine ac_v5 d181_192 c181_22 (by decide) rfl (Nat.le_of_ble_eq_true rfl) m2 ?_
  refine as_icmp_eq 621 d181_195 (by decide) (fun _ => ?_) (fun c => absurd rfl c)
  exact nx U P' mt' go' hI
theorem lw_2 (hT : TabOK K T lab mu) (hV : CovH K T) {i : Nat} (hi : i + 6 ≤ X.1) (h31 : X.1 < 2 ^ 31) {S : MS} {P : Nat} {mt : Nat → Option Nat} {go : Nat → Nat} (h : Inv S P mt go) (nx : ∀ U P mt go, Inv U P mt go → AW X 181 (621, [(3, .int (nI i)), (2, .ref 189), (1, .ref 0), (0, .float 0)], [], 208, HP U, k, j) Q) : AW X 181 (200, [(3, .int (nI i)), (2, .ref 189), (1, .ref 0), (0, .float 0)], [], 208, HP S, k, j) Q := by
  obtain ⟨z, T, U, m1, m2, P', mt', go', hI⟩ := st_open X h (X.2 (i + 1)) (X.2 (i + 2))
  refine as_aload_n d181_200 rfl ?_
  refine as_aload_f d181_201 rfl ?_
  refine as_iload_n d181_202 rfl ?_
  refine an_iconst 1 d181_203 rfl ?_
  refine an_iadd d181_204 ?_
  refine aw_scr d181_205 (show i + 1 < X.1 by omega) h31 ?_
  refine as_aload_f d181_206 rfl ?_
  refine as_iload_n d181_207 rfl ?_
  refine an_iconst 2 d181_208 rfl ?_
  refine an_iadd d181_209 ?_
  refine aw_scr d181_210 (show i + 2 < X.1 by omega) h31 ?_
  refine ac_v2 d181_211 c181_23 (by decide) rfl (Nat.le_of_ble_eq_true rfl) m1 ?_
  refine as_aload_n d181_214 rfl ?_
  refine as_aload_f d181_215 rfl ?_
  refine as_iload_n d181_216 rfl ?_
  refine an_iconst 1 d181_217 rfl ?_
  refine an_iadd d181_218 ?_
  refine aw_scr d181_219 (show i + 1 < X.1 by omega) h31 ?_
  refine as_aload_f d181_220 rfl ?_
  refine as_iload_n d181_221 rfl ?_
  refine an_iconst 2 d181_222 rfl ?_
  refine an_iadd d181_223 ?_
  refine aw_scr d181_224 (show i + 2 < X.1 by omega) h31 ?_
  refine ac_v2 d181_225 c181_27 (by decide) rfl (Nat.le_of_ble_eq_true rfl) m2 ?_
  refine as_icmp_eq 621 d181_228 (by decide) (fun _ => ?_) (fun c => absurd rfl c)
  exact nx U P' mt' go' hI
theorem lw_3 (hT : TabOK K T lab mu) (hV : CovH K T) {i : Nat} (hi : i + 6 ≤ X.1) (h31 : X.1 < 2 ^ 31) {S : MS} {P : Nat} {mt : Nat → Option Nat} {go : Nat → Nat} (h : Inv S P mt go) (nx : ∀ U P mt go, Inv U P mt go → AW X 181 (621, [(3, .int (nI i)), (2, .ref 189), (1, .ref 0), (0, .float 0)], [], 208, HP U, k, j) Q) : AW X 181 (233, [(3, .int (nI i)), (2, .ref 189), (1, .ref 0), (0, .float 0)], [], 208, HP S, k, j) Q := by
  obtain ⟨z, T, U, m1, m2, P', mt', go', hI⟩ := st_clear X h
  refine as_aload_n d181_233 rfl ?_
  refine ac_v0 d181_234 c181_28 (by decide) rfl (Nat.le_of_ble_eq_true rfl) m1 ?_
  refine as_aload_n d181_237 rfl ?_
  refine ac_v0 d181_238 c181_31 (by decide) rfl (Nat.le_of_ble_eq_true rfl) m2 ?_
  refine as_icmp_eq 621 d181_241 (by decide) (fun _ => ?_) (fun c => absurd rfl c)
  exact nx U P' mt' go' hI
theorem lw_4 (hT : TabOK K T lab mu) (hV : CovH K T) {i : Nat} (hi : i + 6 ≤ X.1) (h31 : X.1 < 2 ^ 31) {S : MS} {P : Nat} {mt : Nat → Option Nat} {go : Nat → Nat} (h : Inv S P mt go) (nx : ∀ U P mt go, Inv U P mt go → AW X 181 (621, [(3, .int (nI i)), (2, .ref 189), (1, .ref 0), (0, .float 0)], [], 208, HP U, k, j) Q) : AW X 181 (246, [(3, .int (nI i)), (2, .ref 189), (1, .ref 0), (0, .float 0)], [], 208, HP S, k, j) Q := by
  obtain ⟨z, T, U, m1, m2, P', mt', go', hI⟩ := st_across X h (X.2 (i + 1)) (X.2 (i + 2)) (X.2 (i + 3))
  refine as_aload_n d181_246 rfl ?_
  refine as_aload_f d181_247 rfl ?_
  refine as_iload_n d181_248 rfl ?_
  refine an_iconst 1 d181_249 rfl ?_
  refine an_iadd d181_250 ?_
  refine aw_scr d181_251 (show i + 1 < X.1 by omega) h31 ?_
  refine as_aload_f d181_252 rfl ?_
  refine as_iload_n d181_253 rfl ?_
  refine an_iconst 2 d181_254 rfl ?_
  refine an_iadd d181_255 ?_
  refine aw_scr d181_256 (show i + 2 < X.1 by omega) h31 ?_
  refine as_aload_f d181_257 rfl ?_
  refine as_iload_n d181_258 rfl ?_
  refine an_iconst 3 d181_259 rfl ?_
  refine an_iadd d181_260 ?_
  refine aw_scr d181_261 (show i + 3 < X.1 by omega) h31 ?_
  refine ac_v3 d181_262 c181_32 (by decide) rfl (Nat.le_of_ble_eq_true rfl) m1 ?_
  refine as_aload_n d181_265 rfl ?_
  refine as_aload_f d181_266 rfl ?_
  refine as_iload_n d181_267 rfl ?_
  refine an_iconst 1 d181_268 rfl ?_
  refine an_iadd d181_269 ?_
  refine aw_scr d181_270 (show i + 1 < X.1 by omega) h31 ?_
  refine as_aload_f d181_271 rfl ?_
  refine as_iload_n d181_272 rfl ?_
  refine an_iconst 2 d181_273 rfl ?_
  refine an_iadd d181_274 ?_
  refine aw_scr d181_275 (show i + 2 < X.1 by omega) h31 ?_
  refine as_aload_f d181_276 rfl ?_
  refine as_iload_n d181_277 rfl ?_
  refine an_iconst 3 d181_278 rfl ?_
  refine an_iadd d181_279 ?_
  refine aw_scr d181_280 (show i + 3 < X.1 by omega) h31 ?_
  refine ac_v3 d181_281 c181_36 (by decide) rfl (Nat.le_of_ble_eq_true rfl) m2 ?_
  refine as_icmp_eq 621 d181_284 (by decide) (fun _ => ?_) (fun c => absurd rfl c)
  exact nx U P' mt' go' hI
theorem lw_5 (hT : TabOK K T lab mu) (hV : CovH K T) {i : Nat} (hi : i + 6 ≤ X.1) (h31 : X.1 < 2 ^ 31) {S : MS} {P : Nat} {mt : Nat → Option Nat} {go : Nat → Nat} (h : Inv S P mt go) (nx : ∀ U P mt go, Inv U P mt go → AW X 181 (621, [(3, .int (nI i)), (2, .ref 189), (1, .ref 0), (0, .float 0)], [], 208, HP U, k, j) Q) : AW X 181 (289, [(3, .int (nI i)), (2, .ref 189), (1, .ref 0), (0, .float 0)], [], 208, HP S, k, j) Q := by
  obtain ⟨z, T, U, m1, m2, P', mt', go', hI⟩ := st_class X h (X.2 (i + 1)) (X.2 (i + 2)) (X.2 (i + 3))
  refine as_aload_n d181_289 rfl ?_
  refine as_aload_f d181_290 rfl ?_
  refine as_iload_n d181_291 rfl ?_
  refine an_iconst 1 d181_292 rfl ?_
  refine an_iadd d181_293 ?_
  refine aw_scr d181_294 (show i + 1 < X.1 by omega) h31 ?_
  refine as_aload_f d181_295 rfl ?_
  refine as_iload_n d181_296 rfl ?_
  refine an_iconst 2 d181_297 rfl ?_
  refine an_iadd d181_298 ?_
  refine aw_scr d181_299 (show i + 2 < X.1 by omega) h31 ?_
  refine as_aload_f d181_300 rfl ?_
  refine as_iload_n d181_301 rfl ?_
  refine an_iconst 3 d181_302 rfl ?_
  refine an_iadd d181_303 ?_
  refine aw_scr d181_304 (show i + 3 < X.1 by omega) h31 ?_
  refine ac_v3 d181_305 c181_37 (by decide) rfl (Nat.le_of_ble_eq_true rfl) m1 ?_
  refine as_aload_n d181_308 rfl ?_
  refine as_aload_f d181_309 rfl ?_
  refine as_iload_n d181_310 rfl ?_
  refine an_iconst 1 d181_311 rfl ?_
  refine an_iadd d181_312 ?_
  refine aw_scr d181_313 (show i + 1 < X.1 by omega) h31 ?_
  refine as_aload_f d181_314 rfl ?_
  refine as_iload_n d181_315 rfl ?_
  refine an_iconst 2 d181_316 rfl ?_
  refine an_iadd d181_317 ?_
  refine aw_scr d181_318 (show i + 2 < X.1 by omega) h31 ?_
  refine as_aload_f d181_319 rfl ?_
  refine as_iload_n d181_320 rfl ?_
  refine an_iconst 3 d181_321 rfl ?_
  refine an_iadd d181_322 ?_
  refine aw_scr d181_323 (show i + 3 < X.1 by omega) h31 ?_
  refine ac_v3 d181_324 c181_40 (by decide) rfl (Nat.le_of_ble_eq_true rfl) m2 ?_
  refine as_icmp_eq 621 d181_327 (by decide) (fun _ => ?_) (fun c => absurd rfl c)
  exact nx U P' mt' go' hI
theorem lw_6 (hT : TabOK K T lab mu) (hV : CovH K T) {i : Nat} (hi : i + 6 ≤ X.1) (h31 : X.1 < 2 ^ 31) {S : MS} {P : Nat} {mt : Nat → Option Nat} {go : Nat → Nat} (h : Inv S P mt go) (nx : ∀ U P mt go, Inv U P mt go → AW X 181 (621, [(3, .int (nI i)), (2, .ref 189), (1, .ref 0), (0, .float 0)], [], 208, HP U, k, j) Q) : AW X 181 (332, [(3, .int (nI i)), (2, .ref 189), (1, .ref 0), (0, .float 0)], [], 208, HP S, k, j) Q := by
  obtain ⟨z, T, U, m1, m2, P', mt', go', hI⟩ := st_bent X h (X.2 (i + 1))
  refine as_aload_n d181_332 rfl ?_
  refine as_aload_f d181_333 rfl ?_
  refine as_iload_n d181_334 rfl ?_
  refine an_iconst 1 d181_335 rfl ?_
  refine an_iadd d181_336 ?_
  refine aw_scr d181_337 (show i + 1 < X.1 by omega) h31 ?_
  refine ac_v1 d181_338 c181_41 (by decide) rfl (Nat.le_of_ble_eq_true rfl) m1 ?_
  refine as_aload_n d181_341 rfl ?_
  refine as_aload_f d181_342 rfl ?_
  refine as_iload_n d181_343 rfl ?_
  refine an_iconst 1 d181_344 rfl ?_
  refine an_iadd d181_345 ?_
  refine aw_scr d181_346 (show i + 1 < X.1 by omega) h31 ?_
  refine ac_v1 d181_347 c181_45 (by decide) rfl (Nat.le_of_ble_eq_true rfl) m2 ?_
  refine as_icmp_eq 621 d181_350 (by decide) (fun _ => ?_) (fun c => absurd rfl c)
  exact nx U P' mt' go' hI
theorem lw_7 (hT : TabOK K T lab mu) (hV : CovH K T) {i : Nat} (hi : i + 6 ≤ X.1) (h31 : X.1 < 2 ^ 31) {S : MS} {P : Nat} {mt : Nat → Option Nat} {go : Nat → Nat} (h : Inv S P mt go) (nx : ∀ U P mt go, Inv U P mt go → AW X 181 (621, [(3, .int (nI i)), (2, .ref 189), (1, .ref 0), (0, .float 0)], [], 208, HP U, k, j) Q) : AW X 181 (355, [(3, .int (nI i)), (2, .ref 189), (1, .ref 0), (0, .float 0)], [], 208, HP S, k, j) Q := by
  obtain ⟨z, T, U, m1, m2, P', mt', go', hI⟩ := st_link X h (X.2 (i + 1))
  refine as_aload_n d181_355 rfl ?_
  refine as_aload_f d181_356 rfl ?_
  refine as_iload_n d181_357 rfl ?_
  refine an_iconst 1 d181_358 rfl ?_
  refine an_iadd d181_359 ?_
  refine aw_scr d181_360 (show i + 1 < X.1 by omega) h31 ?_
  refine ac_v1 d181_361 c181_46 (by decide) rfl (Nat.le_of_ble_eq_true rfl) m1 ?_
  refine as_aload_n d181_364 rfl ?_
  refine as_aload_f d181_365 rfl ?_
  refine as_iload_n d181_366 rfl ?_
  refine an_iconst 1 d181_367 rfl ?_
  refine an_iadd d181_368 ?_
  refine aw_scr d181_369 (show i + 1 < X.1 by omega) h31 ?_
  refine ac_v1 d181_370 c181_49 (by decide) rfl (Nat.le_of_ble_eq_true rfl) m2 ?_
  refine as_icmp_eq 621 d181_373 (by decide) (fun _ => ?_) (fun c => absurd rfl c)
  exact nx U P' mt' go' hI
theorem lw_8 (hT : TabOK K T lab mu) (hV : CovH K T) {i : Nat} (hi : i + 6 ≤ X.1) (h31 : X.1 < 2 ^ 31) {S : MS} {P : Nat} {mt : Nat → Option Nat} {go : Nat → Nat} (h : Inv S P mt go) (nx : ∀ U P mt go, Inv U P mt go → AW X 181 (621, [(3, .int (nI i)), (2, .ref 189), (1, .ref 0), (0, .float 0)], [], 208, HP U, k, j) Q) : AW X 181 (378, [(3, .int (nI i)), (2, .ref 189), (1, .ref 0), (0, .float 0)], [], 208, HP S, k, j) Q := by
  obtain ⟨z, T, U, m1, m2, P', mt', go', hI⟩ := st_count X h (X.2 (i + 1))
  refine as_aload_n d181_378 rfl ?_
  refine as_aload_f d181_379 rfl ?_
  refine as_iload_n d181_380 rfl ?_
  refine an_iconst 1 d181_381 rfl ?_
  refine an_iadd d181_382 ?_
  refine aw_scr d181_383 (show i + 1 < X.1 by omega) h31 ?_
  refine ac_v1 d181_384 c181_50 (by decide) rfl (Nat.le_of_ble_eq_true rfl) m1 ?_
  refine as_aload_n d181_387 rfl ?_
  refine as_aload_f d181_388 rfl ?_
  refine as_iload_n d181_389 rfl ?_
  refine an_iconst 1 d181_390 rfl ?_
  refine an_iadd d181_391 ?_
  refine aw_scr d181_392 (show i + 1 < X.1 by omega) h31 ?_
  refine ac_v1 d181_393 c181_53 (by decide) rfl (Nat.le_of_ble_eq_true rfl) m2 ?_
  refine as_icmp_eq 621 d181_396 (by decide) (fun _ => ?_) (fun c => absurd rfl c)
  exact nx U P' mt' go' hI
theorem lw_9 (hT : TabOK K T lab mu) (hV : CovH K T) {i : Nat} (hi : i + 6 ≤ X.1) (h31 : X.1 < 2 ^ 31) {S : MS} {P : Nat} {mt : Nat → Option Nat} {go : Nat → Nat} (h : Inv S P mt go) (nx : ∀ U P mt go, Inv U P mt go → AW X 181 (621, [(3, .int (nI i)), (2, .ref 189), (1, .ref 0), (0, .float 0)], [], 208, HP U, k, j) Q) : AW X 181 (401, [(3, .int (nI i)), (2, .ref 189), (1, .ref 0), (0, .float 0)], [], 208, HP S, k, j) Q := by
  obtain ⟨z, T, U, m1, m2, P', mt', go', hI⟩ := st_holes X hT hV h (X.2 (i + 1))
  refine as_aload_n d181_401 rfl ?_
  refine as_aload_f d181_402 rfl ?_
  refine as_iload_n d181_403 rfl ?_
  refine an_iconst 1 d181_404 rfl ?_
  refine an_iadd d181_405 ?_
  refine aw_scr d181_406 (show i + 1 < X.1 by omega) h31 ?_
  refine ac_v1 d181_407 c181_54 (by decide) rfl (Nat.le_of_ble_eq_true rfl) m1 ?_
  refine as_aload_n d181_410 rfl ?_
  refine as_aload_f d181_411 rfl ?_
  refine as_iload_n d181_412 rfl ?_
  refine an_iconst 1 d181_413 rfl ?_
  refine an_iadd d181_414 ?_
  refine aw_scr d181_415 (show i + 1 < X.1 by omega) h31 ?_
  refine ac_v1 d181_416 c181_57 (by decide) rfl (Nat.le_of_ble_eq_true rfl) m2 ?_
  refine as_icmp_eq 621 d181_419 (by decide) (fun _ => ?_) (fun c => absurd rfl c)
  exact nx U P' mt' go' hI
theorem lw_10 (hT : TabOK K T lab mu) (hV : CovH K T) {i : Nat} (hi : i + 6 ≤ X.1) (h31 : X.1 < 2 ^ 31) {S : MS} {P : Nat} {mt : Nat → Option Nat} {go : Nat → Nat} (h : Inv S P mt go) (nx : ∀ U P mt go, Inv U P mt go → AW X 181 (621, [(3, .int (nI i)), (2, .ref 189), (1, .ref 0), (0, .float 0)], [], 208, HP U, k, j) Q) : AW X 181 (424, [(3, .int (nI i)), (2, .ref 189), (1, .ref 0), (0, .float 0)], [], 208, HP S, k, j) Q := by
  obtain ⟨z, T, U, m1, m2, P', mt', go', hI⟩ := st_least X h
  refine as_aload_n d181_424 rfl ?_
  refine ac_v0 d181_425 c181_58 (by decide) rfl (Nat.le_of_ble_eq_true rfl) m1 ?_
  refine as_aload_n d181_428 rfl ?_
  refine ac_v0 d181_429 c181_61 (by decide) rfl (Nat.le_of_ble_eq_true rfl) m2 ?_
  refine as_icmp_eq 621 d181_432 (by decide) (fun _ => ?_) (fun c => absurd rfl c)
  exact nx U P' mt' go' hI
theorem lw_11 (hT : TabOK K T lab mu) (hV : CovH K T) {i : Nat} (hi : i + 6 ≤ X.1) (h31 : X.1 < 2 ^ 31) {S : MS} {P : Nat} {mt : Nat → Option Nat} {go : Nat → Nat} (h : Inv S P mt go) (nx : ∀ U P mt go, Inv U P mt go → AW X 181 (621, [(3, .int (nI i)), (2, .ref 189), (1, .ref 0), (0, .float 0)], [], 208, HP U, k, j) Q) : AW X 181 (437, [(3, .int (nI i)), (2, .ref 189), (1, .ref 0), (0, .float 0)], [], 208, HP S, k, j) Q := by
  obtain ⟨z, T, U, m1, m2, P', mt', go', hI⟩ := st_number X h (X.2 (i + 1)) (X.2 (i + 2))
  refine as_aload_n d181_437 rfl ?_
  refine as_aload_f d181_438 rfl ?_
  refine as_iload_n d181_439 rfl ?_
  refine an_iconst 1 d181_440 rfl ?_
  refine an_iadd d181_441 ?_
  refine aw_scr d181_442 (show i + 1 < X.1 by omega) h31 ?_
  refine as_aload_f d181_443 rfl ?_
  refine as_iload_n d181_444 rfl ?_
  refine an_iconst 2 d181_445 rfl ?_
  refine an_iadd d181_446 ?_
  refine aw_scr d181_447 (show i + 2 < X.1 by omega) h31 ?_
  refine ac_v2 d181_448 c181_62 (by decide) rfl (Nat.le_of_ble_eq_true rfl) m1 ?_
  refine as_aload_n d181_451 rfl ?_
  refine as_aload_f d181_452 rfl ?_
  refine as_iload_n d181_453 rfl ?_
  refine an_iconst 1 d181_454 rfl ?_
  refine an_iadd d181_455 ?_
  refine aw_scr d181_456 (show i + 1 < X.1 by omega) h31 ?_
  refine as_aload_f d181_457 rfl ?_
  refine as_iload_n d181_458 rfl ?_
  refine an_iconst 2 d181_459 rfl ?_
  refine an_iadd d181_460 ?_
  refine aw_scr d181_461 (show i + 2 < X.1 by omega) h31 ?_
  refine ac_v2 d181_462 c181_65 (by decide) rfl (Nat.le_of_ble_eq_true rfl) m2 ?_
  refine as_icmp_eq 621 d181_465 (by decide) (fun _ => ?_) (fun c => absurd rfl c)
  exact nx U P' mt' go' hI
theorem lw_12 (hT : TabOK K T lab mu) (hV : CovH K T) {i : Nat} (hi : i + 6 ≤ X.1) (h31 : X.1 < 2 ^ 31) {S : MS} {P : Nat} {mt : Nat → Option Nat} {go : Nat → Nat} (h : Inv S P mt go) (nx : ∀ U P mt go, Inv U P mt go → AW X 181 (621, [(3, .int (nI i)), (2, .ref 189), (1, .ref 0), (0, .float 0)], [], 208, HP U, k, j) Q) : AW X 181 (470, [(3, .int (nI i)), (2, .ref 189), (1, .ref 0), (0, .float 0)], [], 208, HP S, k, j) Q := by
  obtain ⟨z, T, U, m1, m2, P', mt', go', hI⟩ := st_put X h (X.2 (i + 1)) (X.2 (i + 2))
  refine as_aload_n d181_470 rfl ?_
  refine as_aload_f d181_471 rfl ?_
  refine as_iload_n d181_472 rfl ?_
  refine an_iconst 1 d181_473 rfl ?_
  refine an_iadd d181_474 ?_
  refine aw_scr d181_475 (show i + 1 < X.1 by omega) h31 ?_
  refine as_aload_f d181_476 rfl ?_
  refine as_iload_n d181_477 rfl ?_
  refine an_iconst 2 d181_478 rfl ?_
  refine an_iadd d181_479 ?_
  refine aw_scr d181_480 (show i + 2 < X.1 by omega) h31 ?_
  refine ac_v2 d181_481 c181_66 (by decide) rfl (Nat.le_of_ble_eq_true rfl) m1 ?_
  refine as_aload_n d181_484 rfl ?_
  refine as_aload_f d181_485 rfl ?_
  refine as_iload_n d181_486 rfl ?_
  refine an_iconst 1 d181_487 rfl ?_
  refine an_iadd d181_488 ?_
  refine aw_scr d181_489 (show i + 1 < X.1 by omega) h31 ?_
  refine as_aload_f d181_490 rfl ?_
  refine as_iload_n d181_491 rfl ?_
  refine an_iconst 2 d181_492 rfl ?_
  refine an_iadd d181_493 ?_
  refine aw_scr d181_494 (show i + 2 < X.1 by omega) h31 ?_
  refine ac_v2 d181_495 c181_69 (by decide) rfl (Nat.le_of_ble_eq_true rfl) m2 ?_
  refine as_icmp_eq 621 d181_498 (by decide) (fun _ => ?_) (fun c => absurd rfl c)
  exact nx U P' mt' go' hI
theorem lw_13 (hT : TabOK K T lab mu) (hV : CovH K T) {i : Nat} (hi : i + 6 ≤ X.1) (h31 : X.1 < 2 ^ 31) {S : MS} {P : Nat} {mt : Nat → Option Nat} {go : Nat → Nat} (h : Inv S P mt go) (nx : ∀ U P mt go, Inv U P mt go → AW X 181 (621, [(3, .int (nI i)), (2, .ref 189), (1, .ref 0), (0, .float 0)], [], 208, HP U, k, j) Q) : AW X 181 (503, [(3, .int (nI i)), (2, .ref 189), (1, .ref 0), (0, .float 0)], [], 208, HP S, k, j) Q := by
  obtain ⟨z, T, U, m1, m2, P', mt', go', hI⟩ := st_add X h (X.2 (i + 1)) (X.2 (i + 2))
  refine as_aload_n d181_503 rfl ?_
  refine as_aload_f d181_504 rfl ?_
  refine as_iload_n d181_505 rfl ?_
  refine an_iconst 1 d181_506 rfl ?_
  refine an_iadd d181_507 ?_
  refine aw_scr d181_508 (show i + 1 < X.1 by omega) h31 ?_
  refine as_aload_f d181_509 rfl ?_
  refine as_iload_n d181_510 rfl ?_
  refine an_iconst 2 d181_511 rfl ?_
  refine an_iadd d181_512 ?_
  refine aw_scr d181_513 (show i + 2 < X.1 by omega) h31 ?_
  refine ac_v2 d181_514 c181_70 (by decide) rfl (Nat.le_of_ble_eq_true rfl) m1 ?_
  refine as_aload_n d181_517 rfl ?_
  refine as_aload_f d181_518 rfl ?_
  refine as_iload_n d181_519 rfl ?_
  refine an_iconst 1 d181_520 rfl ?_
  refine an_iadd d181_521 ?_
  refine aw_scr d181_522 (show i + 1 < X.1 by omega) h31 ?_
  refine as_aload_f d181_523 rfl ?_
  refine as_iload_n d181_524 rfl ?_
  refine an_iconst 2 d181_525 rfl ?_
  refine an_iadd d181_526 ?_
  refine aw_scr d181_527 (show i + 2 < X.1 by omega) h31 ?_
  refine ac_v2 d181_528 c181_73 (by decide) rfl (Nat.le_of_ble_eq_true rfl) m2 ?_
  refine as_icmp_eq 621 d181_531 (by decide) (fun _ => ?_) (fun c => absurd rfl c)
  exact nx U P' mt' go' hI
theorem lw_14 (hT : TabOK K T lab mu) (hV : CovH K T) {i : Nat} (hi : i + 6 ≤ X.1) (h31 : X.1 < 2 ^ 31) {S : MS} {P : Nat} {mt : Nat → Option Nat} {go : Nat → Nat} (h : Inv S P mt go) (nx : ∀ U P mt go, Inv U P mt go → AW X 181 (621, [(3, .int (nI i)), (2, .ref 189), (1, .ref 0), (0, .float 0)], [], 208, HP U, k, j) Q) : AW X 181 (536, [(3, .int (nI i)), (2, .ref 189), (1, .ref 0), (0, .float 0)], [], 208, HP S, k, j) Q := by
  obtain ⟨z, T, U, m1, m2, P', mt', go', hI⟩ := st_drop X h
  refine as_aload_n d181_536 rfl ?_
  refine ac_v0 d181_537 c181_74 (by decide) rfl (Nat.le_of_ble_eq_true rfl) m1 ?_
  refine as_aload_n d181_540 rfl ?_
  refine ac_v0 d181_541 c181_77 (by decide) rfl (Nat.le_of_ble_eq_true rfl) m2 ?_
  refine as_icmp_eq 621 d181_544 (by decide) (fun _ => ?_) (fun c => absurd rfl c)
  exact nx U P' mt' go' hI
theorem lw_15 (hT : TabOK K T lab mu) (hV : CovH K T) {i : Nat} (hi : i + 6 ≤ X.1) (h31 : X.1 < 2 ^ 31) {S : MS} {P : Nat} {mt : Nat → Option Nat} {go : Nat → Nat} (h : Inv S P mt go) (nx : ∀ U P mt go, Inv U P mt go → AW X 181 (621, [(3, .int (nI i)), (2, .ref 189), (1, .ref 0), (0, .float 0)], [], 208, HP U, k, j) Q) : AW X 181 (549, [(3, .int (nI i)), (2, .ref 189), (1, .ref 0), (0, .float 0)], [], 208, HP S, k, j) Q := by
  obtain ⟨z, T, U, m1, m2, P', mt', go', hI⟩ := st_legal X h
  refine as_aload_n d181_549 rfl ?_
  refine ac_v0 d181_550 c181_78 (by decide) rfl (Nat.le_of_ble_eq_true rfl) m1 ?_
  refine as_aload_n d181_553 rfl ?_
  refine ac_v0 d181_554 c181_81 (by decide) rfl (Nat.le_of_ble_eq_true rfl) m2 ?_
  refine as_icmp_eq 621 d181_557 (by decide) (fun _ => ?_) (fun c => absurd rfl c)
  exact nx U P' mt' go' hI
theorem lw_16 (hT : TabOK K T lab mu) (hV : CovH K T) {i : Nat} (hi : i + 6 ≤ X.1) (h31 : X.1 < 2 ^ 31) {S : MS} {P : Nat} {mt : Nat → Option Nat} {go : Nat → Nat} (h : Inv S P mt go) (nx : ∀ U P mt go, Inv U P mt go → AW X 181 (621, [(3, .int (nI i)), (2, .ref 189), (1, .ref 0), (0, .float 0)], [], 208, HP U, k, j) Q) : AW X 181 (562, [(3, .int (nI i)), (2, .ref 189), (1, .ref 0), (0, .float 0)], [], 208, HP S, k, j) Q := by
  obtain ⟨z, T, U, m1, m2, P', mt', go', hI⟩ := st_euler X h
  refine as_aload_n d181_562 rfl ?_
  refine ac_v0 d181_563 c181_82 (by decide) rfl (Nat.le_of_ble_eq_true rfl) m1 ?_
  refine as_aload_n d181_566 rfl ?_
  refine ac_v0 d181_567 c181_85 (by decide) rfl (Nat.le_of_ble_eq_true rfl) m2 ?_
  refine as_icmp_eq 621 d181_570 (by decide) (fun _ => ?_) (fun c => absurd rfl c)
  exact nx U P' mt' go' hI
theorem lw_17 (hT : TabOK K T lab mu) (hV : CovH K T) {i : Nat} (hi : i + 6 ≤ X.1) (h31 : X.1 < 2 ^ 31) {S : MS} {P : Nat} {mt : Nat → Option Nat} {go : Nat → Nat} (h : Inv S P mt go) (nx : ∀ U P mt go, Inv U P mt go → AW X 181 (621, [(3, .int (nI i)), (2, .ref 189), (1, .ref 0), (0, .float 0)], [], 208, HP U, k, j) Q) : AW X 181 (575, [(3, .int (nI i)), (2, .ref 189), (1, .ref 0), (0, .float 0)], [], 208, HP S, k, j) Q := by
  obtain ⟨z, T, U, m1, m2, P', mt', go', hI⟩ := st_parts X h
  refine as_aload_n d181_575 rfl ?_
  refine ac_v0 d181_576 c181_86 (by decide) rfl (Nat.le_of_ble_eq_true rfl) m1 ?_
  refine as_aload_n d181_579 rfl ?_
  refine ac_v0 d181_580 c181_89 (by decide) rfl (Nat.le_of_ble_eq_true rfl) m2 ?_
  refine as_icmp_eq 621 d181_583 (by decide) (fun _ => ?_) (fun c => absurd rfl c)
  exact nx U P' mt' go' hI
theorem lw_18 (hT : TabOK K T lab mu) (hV : CovH K T) {i : Nat} (hi : i + 6 ≤ X.1) (h31 : X.1 < 2 ^ 31) {S : MS} {P : Nat} {mt : Nat → Option Nat} {go : Nat → Nat} (h : Inv S P mt go) (nx : ∀ U P mt go, Inv U P mt go → AW X 181 (621, [(3, .int (nI i)), (2, .ref 189), (1, .ref 0), (0, .float 0)], [], 208, HP U, k, j) Q) : AW X 181 (588, [(3, .int (nI i)), (2, .ref 189), (1, .ref 0), (0, .float 0)], [], 208, HP S, k, j) Q := by
  obtain ⟨z, T, U, m1, m2, P', mt', go', hI⟩ := st_part X h (X.2 (i + 1)) (X.2 (i + 2))
  refine as_aload_n d181_588 rfl ?_
  refine as_aload_f d181_589 rfl ?_
  refine as_iload_n d181_590 rfl ?_
  refine an_iconst 1 d181_591 rfl ?_
  refine an_iadd d181_592 ?_
  refine aw_scr d181_593 (show i + 1 < X.1 by omega) h31 ?_
  refine as_aload_f d181_594 rfl ?_
  refine as_iload_n d181_595 rfl ?_
  refine an_iconst 2 d181_596 rfl ?_
  refine an_iadd d181_597 ?_
  refine aw_scr d181_598 (show i + 2 < X.1 by omega) h31 ?_
  refine ac_v2 d181_599 c181_90 (by decide) rfl (Nat.le_of_ble_eq_true rfl) m1 ?_
  refine as_aload_n d181_602 rfl ?_
  refine as_aload_f d181_603 rfl ?_
  refine as_iload_n d181_604 rfl ?_
  refine an_iconst 1 d181_605 rfl ?_
  refine an_iadd d181_606 ?_
  refine aw_scr d181_607 (show i + 1 < X.1 by omega) h31 ?_
  refine as_aload_f d181_608 rfl ?_
  refine as_iload_n d181_609 rfl ?_
  refine an_iconst 2 d181_610 rfl ?_
  refine an_iadd d181_611 ?_
  refine aw_scr d181_612 (show i + 2 < X.1 by omega) h31 ?_
  refine ac_v2 d181_613 c181_93 (by decide) rfl (Nat.le_of_ble_eq_true rfl) m2 ?_
  refine as_icmp_eq 621 d181_616 (by decide) (fun _ => ?_) (fun c => absurd rfl c)
  exact nx U P' mt' go' hI
theorem sw_o19 {x : Int32} (hn : ¬ (0 ≤ x ∧ x < nI 19)) : x.toInt < 0 ∨ 18 < x.toInt := by
  have e : (nI 19).toInt = 19 := by decide
  have e0 : (0 : Int32).toInt = 0 := by decide
  simp only [Int32.le_iff_toInt_le, Int32.lt_iff_toInt_lt, e, e0] at hn
  omega
theorem lw_all (hT : TabOK K T lab mu) (hV : CovH K T) {i : Nat} (hi : i + 6 ≤ X.1) (h31 : X.1 < 2 ^ 31) {S : MS} {P : Nat} {mt : Nat → Option Nat} {go : Nat → Nat} (h : Inv S P mt go) (x : Int32) (nx : ∀ U P mt go, Inv U P mt go → AW X 181 (621, [(3, .int (nI i)), (2, .ref 189), (1, .ref 0), (0, .float 0)], [], 208, HP U, k, j) Q) : AW X 181 (33, [(3, .int (nI i)), (2, .ref 189), (1, .ref 0), (0, .float 0)], [.int x], 208, HP S, k, j) Q := by
  rcases nI_cases (x := x) 19 (by decide) with ⟨m, hm, rfl⟩ | hn
  · rcases (show m = 0 ∨ m = 1 ∨ m = 2 ∨ m = 3 ∨ m = 4 ∨ m = 5 ∨ m = 6 ∨ m = 7 ∨ m = 8 ∨ m = 9 ∨ m = 10 ∨ m = 11 ∨ m = 12 ∨ m = 13 ∨ m = 14 ∨ m = 15 ∨ m = 16 ∨ m = 17 ∨ m = 18 by omega) with rfl | rfl | rfl | rfl | rfl | rfl | rfl | rfl | rfl | rfl | rfl | rfl | rfl | rfl | rfl | rfl | rfl | rfl | rfl
    · refine as_tsw (o := 91) 124 d181_33 (by decide) (by decide) ?_
      exact lw_0 hT hV hi h31 h nx
    · refine as_tsw (o := 104) 137 d181_33 (by decide) (by decide) ?_
      exact lw_1 hT hV hi h31 h nx
    · refine as_tsw (o := 167) 200 d181_33 (by decide) (by decide) ?_
      exact lw_2 hT hV hi h31 h nx
    · refine as_tsw (o := 200) 233 d181_33 (by decide) (by decide) ?_
      exact lw_3 hT hV hi h31 h nx
    · refine as_tsw (o := 213) 246 d181_33 (by decide) (by decide) ?_
      exact lw_4 hT hV hi h31 h nx
    · refine as_tsw (o := 256) 289 d181_33 (by decide) (by decide) ?_
      exact lw_5 hT hV hi h31 h nx
    · refine as_tsw (o := 299) 332 d181_33 (by decide) (by decide) ?_
      exact lw_6 hT hV hi h31 h nx
    · refine as_tsw (o := 322) 355 d181_33 (by decide) (by decide) ?_
      exact lw_7 hT hV hi h31 h nx
    · refine as_tsw (o := 345) 378 d181_33 (by decide) (by decide) ?_
      exact lw_8 hT hV hi h31 h nx
    · refine as_tsw (o := 368) 401 d181_33 (by decide) (by decide) ?_
      exact lw_9 hT hV hi h31 h nx
    · refine as_tsw (o := 391) 424 d181_33 (by decide) (by decide) ?_
      exact lw_10 hT hV hi h31 h nx
    · refine as_tsw (o := 404) 437 d181_33 (by decide) (by decide) ?_
      exact lw_11 hT hV hi h31 h nx
    · refine as_tsw (o := 437) 470 d181_33 (by decide) (by decide) ?_
      exact lw_12 hT hV hi h31 h nx
    · refine as_tsw (o := 470) 503 d181_33 (by decide) (by decide) ?_
      exact lw_13 hT hV hi h31 h nx
    · refine as_tsw (o := 503) 536 d181_33 (by decide) (by decide) ?_
      exact lw_14 hT hV hi h31 h nx
    · refine as_tsw (o := 516) 549 d181_33 (by decide) (by decide) ?_
      exact lw_15 hT hV hi h31 h nx
    · refine as_tsw (o := 529) 562 d181_33 (by decide) (by decide) ?_
      exact lw_16 hT hV hi h31 h nx
    · refine as_tsw (o := 542) 575 d181_33 (by decide) (by decide) ?_
      exact lw_17 hT hV hi h31 h nx
    · refine as_tsw (o := 555) 588 d181_33 (by decide) (by decide) ?_
      exact lw_18 hT hV hi h31 h nx
  · refine as_tsw (o := 588) 621 d181_33 (if_pos (sw_o19 hn)) (by decide) ?_
    exact nx S P mt go h
theorem lw_lt {Ln i : Nat} (hL : Ln ≤ 3072) (hi : i < 2 ^ 31) (h : ¬ (nI Ln - nI 6 < nI i)) : i + 6 ≤ Ln := by
  have ei : (nI i).toInt = i := nI_toInt hi
  rw [Int32.lt_iff_toInt_lt, ei] at h
  by_cases c : 6 ≤ Ln
  · rw [pk_sub c, nI_toInt (by omega)] at h
    omega
  · exfalso
    rcases (show Ln = 0 ∨ Ln = 1 ∨ Ln = 2 ∨ Ln = 3 ∨ Ln = 4 ∨ Ln = 5 by omega) with rfl | rfl | rfl | rfl | rfl | rfl
    · have e : (nI 0 - nI 6).toInt = -6 := by decide
      omega
    · have e : (nI 1 - nI 6).toInt = -5 := by decide
      omega
    · have e : (nI 2 - nI 6).toInt = -4 := by decide
      omega
    · have e : (nI 3 - nI 6).toInt = -3 := by decide
      omega
    · have e : (nI 4 - nI 6).toInt = -2 := by decide
      omega
    · have e : (nI 5 - nI 6).toInt = -1 := by decide
      omega
theorem lw_head {i : Nat} (hL : X.1 ≤ 3072) (hi : i < 2 ^ 31) {S : MS} (kk : i + 6 ≤ X.1 → AW X 181 (27, [(3, .int (nI i)), (2, .ref 189), (1, .ref 0), (0, .float 0)], [], 208, HP S, k, j) Q) (hq : ∀ h, Q (some (.int 1), 208, h, k, j)) : AW X 181 (18, [(3, .int (nI i)), (2, .ref 189), (1, .ref 0), (0, .float 0)], [], 208, HP S, k, j) Q := by
  refine as_iload_n d181_18 rfl ?_
  refine as_aload_f d181_19 rfl ?_
  refine as_flen d181_20 (by decide) ?_
  refine an_top (e' := nI X.1) rfl ?_
  refine an_bipush 6 d181_21 rfl ?_
  refine as_isub d181_23 ?_
  refine as_icmp_gt 627 d181_24 (by decide) (fun _ => ?_) (fun c => kk (lw_lt hL hi c))
  refine an_iconst 1 d181_627 rfl ?_
  refine as_ireturn d181_628 (by rw [t181]; rfl) ?_
  exact hq _
theorem lw_loop (hT : TabOK K T lab mu) (hV : CovH K T) (hL : X.1 ≤ 3072) (hq : ∀ h, Q (some (.int 1), 208, h, k, j)) : ∀ (m i : Nat), X.1 ≤ m + i → i ≤ 3072 → ∀ {S : MS} {P : Nat} {mt : Nat → Option Nat} {go : Nat → Nat}, Inv S P mt go → AW X 181 (18, [(3, .int (nI i)), (2, .ref 189), (1, .ref 0), (0, .float 0)], [], 208, HP S, k, j) Q := by
  intro m
  induction m with
  | zero =>
    intro i h1 h2 S P mt go h
    refine lw_head hL (by omega) (fun c => by omega) hq
  | succ m ih =>
    intro i h1 h2 S P mt go h
    refine lw_head hL (by omega) (fun c => ?_) hq
    refine as_aload_f d181_27 rfl ?_
    refine as_iload_n d181_28 rfl ?_
    refine aw_scr d181_29 (show i < X.1 by omega) (by omega) ?_
    refine as_bipush d181_30 ?_
    refine as_iand d181_32 ?_
    refine lw_all hT hV c (by omega) h _ (fun U P mt go hI => ?_)
    refine an_iinc 6 d181_621 rfl rfl (by decide) ?_
    refine as_goto 18 d181_624 (by decide) ?_
    refine AW.loc [(3, .int (nI (i + 6))), (2, .ref 189), (1, .ref 0), (0, .float 0)] (am_pick [0, 1, 2, 3] rfl rfl) ?_
    exact ih (i + 6) (by omega) (by omega) hI
end
