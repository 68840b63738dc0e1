/-! the law's sixteen calls -/
abbrev lv0 (b : Nat) (κ : Kx) (j : Nat) : List (Nat × Value) := [(0, .ref b), (1, .ref (κ.2.2.1 0)), (2, .ref (κ.2.2.2.1 0)), (3, .ref κ.2.2.2.2), (4, vI (6 * (j : Int)))]
section CS
variable {x : Mx} {κ : Kx} {b L : Nat} {xs : Nat → Int32} {S T : St} {g B : Int} {j : Nat}
set_option maxRecDepth 20000 in
set_option maxHeartbeats 4000000 in
theorem case_set (C : LC x κ b L xs) (hj : 6 * j + 5 < L) (hB0 : 0 ≤ B) (hB9 : B + 540000 ≤ 2147483000) (hR : RE WK (-1) B S T) (hS : RS S) (hT : RS T) (kk : ∀ S' T' g', RE WK (-1) (B + 540000) S' T' → RS S' → RS T' → LJ x κ S' T' g' (j + 1) 707 (lv0 b κ j) []) : LJ x κ S T g j 120 (lv0 b κ j) [] := by
  have hL : L ≤ 3072 := C.2.2.2.1
  have hi : j ≤ 512 := by omega
  obtain ⟨S', T', r, h1, h2, h3⟩ := call_set (a0 := (xs (6 * j + 1)).toInt) (a1 := (xs (6 * j + 2)).toInt) hR
  refine l_aload_n (n := 121) C 1 dL_law_120 rfl rfl ?_
  refine l_arg (n := 127) C 1 rfl (by decide) hj rfl rfl dL_law_121 dL_law_122 dL_law_124 dL_law_125 dL_law_126 rfl ?_
  refine l_arg (n := 133) C 2 rfl (by decide) hj rfl rfl dL_law_127 dL_law_128 dL_law_130 dL_law_131 dL_law_132 rfl ?_
  refine l_callXz (n := 136) (As := [vI (xs (6 * j + 1)).toInt, vI (xs (6 * j + 2)).toInt]) (rest := []) C 2 hi (c_X8_set hS (i_rng _) (i_rng _) h1) gL_law_X8_set rfl ⟨rfl, rfl⟩ (by decide +kernel) ⟨Nat.le_of_ble_eq_true rfl, Nat.le_of_ble_eq_true rfl⟩ rfl rfl (Nat.le_of_ble_eq_true rfl) dL_law_133 rfl (fun hS1 _ => ?_)
  show LJ x κ S' T g j 136 (lv0 b κ j) [vI r]
  refine l_aload_n (n := 137) C 2 dL_law_136 rfl rfl ?_
  refine l_arg (n := 143) C 1 rfl (by decide) hj rfl rfl dL_law_137 dL_law_138 dL_law_140 dL_law_141 dL_law_142 rfl ?_
  refine l_arg (n := 149) C 2 rfl (by decide) hj rfl rfl dL_law_143 dL_law_144 dL_law_146 dL_law_147 dL_law_148 rfl ?_
  refine l_callM (n := 152) (As := [vI (xs (6 * j + 1)).toInt, vI (xs (6 * j + 2)).toInt]) (rest := [vI r]) C 2 hi (c_X9_set hT (i_rng _) (i_rng _) h2) gL_law_X9_set rfl ⟨rfl, rfl⟩ (by decide +kernel) ⟨Nat.le_of_ble_eq_true rfl, Nat.le_of_ble_eq_true rfl⟩ rfl rfl (Nat.le_of_ble_eq_true rfl) dL_law_149 rfl (fun hT1 _ => ?_)
  show LJ x κ S' T' g j 152 (lv0 b κ j) [vI r, vI r]
  exact l_same C 707 dL_law_152 (by decide) (l_next (kk S' T' g (RE_b h3 (by omega)) hS1 hT1))
set_option maxRecDepth 20000 in
set_option maxHeartbeats 4000000 in
theorem case_speed (C : LC x κ b L xs) (hj : 6 * j + 5 < L) (hB0 : 0 ≤ B) (hB9 : B + 540000 ≤ 2147483000) (hR : RE WK (-1) B S T) (hS : RS S) (hT : RS T) (kk : ∀ S' T' g', RE WK (-1) (B + 540000) S' T' → RS S' → RS T' → LJ x κ S' T' g' (j + 1) 707 (lv0 b κ j) []) : LJ x κ S T g j 157 (lv0 b κ j) [] := by
  have hL : L ≤ 3072 := C.2.2.2.1
  have hi : j ≤ 512 := by omega
  obtain ⟨S', T', r, h1, h2, h3⟩ := call_speed (a0 := (xs (6 * j + 1)).toInt) (a1 := (xs (6 * j + 2)).toInt) hR
  refine l_aload_n (n := 158) C 1 dL_law_157 rfl rfl ?_
  refine l_arg (n := 164) C 1 rfl (by decide) hj rfl rfl dL_law_158 dL_law_159 dL_law_161 dL_law_162 dL_law_163 rfl ?_
  refine l_arg (n := 170) C 2 rfl (by decide) hj rfl rfl dL_law_164 dL_law_165 dL_law_167 dL_law_168 dL_law_169 rfl ?_
  refine l_callX (n := 173) (As := [vI (xs (6 * j + 1)).toInt, vI (xs (6 * j + 2)).toInt]) (rest := []) C 2 hi (c_X8_speed hS (i_rng _) (i_rng _) h1) gL_law_X8_speed rfl ⟨rfl, rfl⟩ (by decide +kernel) ⟨Nat.le_of_ble_eq_true rfl, Nat.le_of_ble_eq_true rfl⟩ rfl rfl (Nat.le_of_ble_eq_true rfl) dL_law_170 rfl (fun hS1 _ => ?_)
  show LJ x κ S' T g j 173 (lv0 b κ j) [vI r]
  refine l_aload_n (n := 174) C 2 dL_law_173 rfl rfl ?_
  refine l_arg (n := 180) C 1 rfl (by decide) hj rfl rfl dL_law_174 dL_law_175 dL_law_177 dL_law_178 dL_law_179 rfl ?_
  refine l_arg (n := 186) C 2 rfl (by decide) hj rfl rfl dL_law_180 dL_law_181 dL_law_183 dL_law_184 dL_law_185 rfl ?_
  refine l_callM (n := 189) (As := [vI (xs (6 * j + 1)).toInt, vI (xs (6 * j + 2)).toInt]) (rest := [vI r]) C 2 hi (c_X9_speed hT (i_rng _) (i_rng _) h2) gL_law_X9_speed rfl ⟨rfl, rfl⟩ (by decide +kernel) ⟨Nat.le_of_ble_eq_true rfl, Nat.le_of_ble_eq_true rfl⟩ rfl rfl (Nat.le_of_ble_eq_true rfl) dL_law_186 rfl (fun hT1 _ => ?_)
  show LJ x κ S' T' g j 189 (lv0 b κ j) [vI r, vI r]
  exact l_same C 707 dL_law_189 (by decide) (l_next (kk S' T' g (RE_b h3 (by omega)) hS1 hT1))
set_option maxRecDepth 20000 in
set_option maxHeartbeats 4000000 in
theorem case_caller (C : LC x κ b L xs) (hj : 6 * j + 5 < L) (hB0 : 0 ≤ B) (hB9 : B + 540000 ≤ 2147483000) (hR : RE WK (-1) B S T) (hS : RS S) (hT : RS T) (kk : ∀ S' T' g', RE WK (-1) (B + 540000) S' T' → RS S' → RS T' → LJ x κ S' T' g' (j + 1) 707 (lv0 b κ j) []) : LJ x κ S T g j 194 (lv0 b κ j) [] := by
  have hL : L ≤ 3072 := C.2.2.2.1
  have hi : j ≤ 512 := by omega
  obtain ⟨S', T', r, h1, h2, h3⟩ := call_caller (a0 := (xs (6 * j + 1)).toInt) (a1 := (xs (6 * j + 2)).toInt) (a2 := (xs (6 * j + 3)).toInt) (a3 := (xs (6 * j + 4)).toInt) (a4 := (xs (6 * j + 5)).toInt) hR
  refine l_aload_n (n := 195) C 1 dL_law_194 rfl rfl ?_
  refine l_arg (n := 201) C 1 rfl (by decide) hj rfl rfl dL_law_195 dL_law_196 dL_law_198 dL_law_199 dL_law_200 rfl ?_
  refine l_arg (n := 207) C 2 rfl (by decide) hj rfl rfl dL_law_201 dL_law_202 dL_law_204 dL_law_205 dL_law_206 rfl ?_
  refine l_arg (n := 213) C 3 rfl (by decide) hj rfl rfl dL_law_207 dL_law_208 dL_law_210 dL_law_211 dL_law_212 rfl ?_
  refine l_arg (n := 219) C 4 rfl (by decide) hj rfl rfl dL_law_213 dL_law_214 dL_law_216 dL_law_217 dL_law_218 rfl ?_
  refine l_arg (n := 225) C 5 rfl (by decide) hj rfl rfl dL_law_219 dL_law_220 dL_law_222 dL_law_223 dL_law_224 rfl ?_
  refine l_callX (n := 228) (As := [vI (xs (6 * j + 1)).toInt, vI (xs (6 * j + 2)).toInt, vI (xs (6 * j + 3)).toInt, vI (xs (6 * j + 4)).toInt, vI (xs (6 * j + 5)).toInt]) (rest := []) C 5 hi (c_X8_caller hS (i_rng _) (i_rng _) (i_rng _) (i_rng _) (i_rng _) h1) gL_law_X8_caller rfl ⟨rfl, rfl⟩ (by decide +kernel) ⟨Nat.le_of_ble_eq_true rfl, Nat.le_of_ble_eq_true rfl⟩ rfl rfl (Nat.le_of_ble_eq_true rfl) dL_law_225 rfl (fun hS1 _ => ?_)
  show LJ x κ S' T g j 228 (lv0 b κ j) [vI r]
  refine l_aload_n (n := 229) C 2 dL_law_228 rfl rfl ?_
  refine l_arg (n := 235) C 1 rfl (by decide) hj rfl rfl dL_law_229 dL_law_230 dL_law_232 dL_law_233 dL_law_234 rfl ?_
  refine l_arg (n := 241) C 2 rfl (by decide) hj rfl rfl dL_law_235 dL_law_236 dL_law_238 dL_law_239 dL_law_240 rfl ?_
  refine l_arg (n := 247) C 3 rfl (by decide) hj rfl rfl dL_law_241 dL_law_242 dL_law_244 dL_law_245 dL_law_246 rfl ?_
  refine l_arg (n := 253) C 4 rfl (by decide) hj rfl rfl dL_law_247 dL_law_248 dL_law_250 dL_law_251 dL_law_252 rfl ?_
  refine l_arg (n := 259) C 5 rfl (by decide) hj rfl rfl dL_law_253 dL_law_254 dL_law_256 dL_law_257 dL_law_258 rfl ?_
  refine l_callM (n := 262) (As := [vI (xs (6 * j + 1)).toInt, vI (xs (6 * j + 2)).toInt, vI (xs (6 * j + 3)).toInt, vI (xs (6 * j + 4)).toInt, vI (xs (6 * j + 5)).toInt]) (rest := [vI r]) C 5 hi (c_X9_caller hT (i_rng _) (i_rng _) (i_rng _) (i_rng _) (i_rng _) h2) gL_law_X9_caller rfl ⟨rfl, rfl⟩ (by decide +kernel) ⟨Nat.le_of_ble_eq_true rfl, Nat.le_of_ble_eq_true rfl⟩ rfl rfl (Nat.le_of_ble_eq_true rfl) dL_law_259 rfl (fun hT1 _ => ?_)
  show LJ x κ S' T' g j 262 (lv0 b κ j) [vI r, vI r]
  exact l_same C 707 dL_law_262 (by decide) (l_next (kk S' T' g (RE_b h3 (by omega)) hS1 hT1))
set_option maxRecDepth 20000 in
set_option maxHeartbeats 4000000 in
theorem case_broken (C : LC x κ b L xs) (hj : 6 * j + 5 < L) (hB0 : 0 ≤ B) (hB9 : B + 540000 ≤ 2147483000) (hR : RE WK (-1) B S T) (hS : RS S) (hT : RS T) (kk : ∀ S' T' g', RE WK (-1) (B + 540000) S' T' → RS S' → RS T' → LJ x κ S' T' g' (j + 1) 707 (lv0 b κ j) []) : LJ x κ S T g j 267 (lv0 b κ j) [] := by
  have hL : L ≤ 3072 := C.2.2.2.1
  have hi : j ≤ 512 := by omega
  obtain ⟨S', T', r, h1, h2, h3⟩ := call_broken (a0 := (xs (6 * j + 1)).toInt) (a1 := (xs (6 * j + 2)).toInt) hR
  refine l_aload_n (n := 268) C 1 dL_law_267 rfl rfl ?_
  refine l_arg (n := 274) C 1 rfl (by decide) hj rfl rfl dL_law_268 dL_law_269 dL_law_271 dL_law_272 dL_law_273 rfl ?_
  refine l_arg (n := 280) C 2 rfl (by decide) hj rfl rfl dL_law_274 dL_law_275 dL_law_277 dL_law_278 dL_law_279 rfl ?_
  refine l_callX (n := 283) (As := [vI (xs (6 * j + 1)).toInt, vI (xs (6 * j + 2)).toInt]) (rest := []) C 2 hi (c_X8_broken hS (i_rng _) (i_rng _) h1) gL_law_X8_broken rfl ⟨rfl, rfl⟩ (by decide +kernel) ⟨Nat.le_of_ble_eq_true rfl, Nat.le_of_ble_eq_true rfl⟩ rfl rfl (Nat.le_of_ble_eq_true rfl) dL_law_280 rfl (fun hS1 _ => ?_)
  show LJ x κ S' T g j 283 (lv0 b κ j) [vI r]
  refine l_aload_n (n := 284) C 2 dL_law_283 rfl rfl ?_
  refine l_arg (n := 290) C 1 rfl (by decide) hj rfl rfl dL_law_284 dL_law_285 dL_law_287 dL_law_288 dL_law_289 rfl ?_
  refine l_arg (n := 296) C 2 rfl (by decide) hj rfl rfl dL_law_290 dL_law_291 dL_law_293 dL_law_294 dL_law_295 rfl ?_
  refine l_callM (n := 299) (As := [vI (xs (6 * j + 1)).toInt, vI (xs (6 * j + 2)).toInt]) (rest := [vI r]) C 2 hi (c_X9_broken hT (i_rng _) (i_rng _) h2) gL_law_X9_broken rfl ⟨rfl, rfl⟩ (by decide +kernel) ⟨Nat.le_of_ble_eq_true rfl, Nat.le_of_ble_eq_true rfl⟩ rfl rfl (Nat.le_of_ble_eq_true rfl) dL_law_296 rfl (fun hT1 _ => ?_)
  show LJ x κ S' T' g j 299 (lv0 b κ j) [vI r, vI r]
  exact l_same C 707 dL_law_299 (by decide) (l_next (kk S' T' g (RE_b h3 (by omega)) hS1 hT1))
set_option maxRecDepth 20000 in
set_option maxHeartbeats 4000000 in
theorem case_run (C : LC x κ b L xs) (hj : 6 * j + 5 < L) (hB0 : 0 ≤ B) (hB9 : B + 540000 ≤ 2147483000) (hR : RE WK (-1) B S T) (hS : RS S) (hT : RS T) (kk : ∀ S' T' g', RE WK (-1) (B + 540000) S' T' → RS S' → RS T' → LJ x κ S' T' g' (j + 1) 707 (lv0 b κ j) []) : LJ x κ S T g j 304 (lv0 b κ j) [] := by
  have hL : L ≤ 3072 := C.2.2.2.1
  have hi : j ≤ 512 := by omega
  obtain ⟨S', T', r, h1, h2, h3⟩ := call_run (a0 := (xs (6 * j + 1)).toInt) hR (by omega)
  refine l_aload_n (n := 305) C 1 dL_law_304 rfl rfl ?_
  refine l_arg (n := 311) C 1 rfl (by decide) hj rfl rfl dL_law_305 dL_law_306 dL_law_308 dL_law_309 dL_law_310 rfl ?_
  refine l_callX (n := 314) (As := [vI (xs (6 * j + 1)).toInt]) (rest := []) C 1 hi (c_X8_run hS (i_rng _) h1) gL_law_X8_run rfl ⟨rfl, rfl⟩ (by decide +kernel) ⟨Nat.le_of_ble_eq_true rfl, Nat.le_of_ble_eq_true rfl⟩ rfl rfl (Nat.le_of_ble_eq_true rfl) dL_law_311 rfl (fun hS1 _ => ?_)
  show LJ x κ S' T g j 314 (lv0 b κ j) [vI r]
  refine l_aload_n (n := 315) C 2 dL_law_314 rfl rfl ?_
  refine l_arg (n := 321) C 1 rfl (by decide) hj rfl rfl dL_law_315 dL_law_316 dL_law_318 dL_law_319 dL_law_320 rfl ?_
  refine l_callM (n := 324) (As := [vI (xs (6 * j + 1)).toInt]) (rest := [vI r]) C 1 hi (c_X9_run hT (i_rng _) h2) gL_law_X9_run rfl ⟨rfl, rfl⟩ (by decide +kernel) ⟨Nat.le_of_ble_eq_true rfl, Nat.le_of_ble_eq_true rfl⟩ rfl rfl (Nat.le_of_ble_eq_true rfl) dL_law_321 rfl (fun hT1 _ => ?_)
  show LJ x κ S' T' g j 324 (lv0 b κ j) [vI r, vI r]
  exact l_same C 707 dL_law_324 (by decide) (l_next (kk S' T' g (h3) hS1 hT1))
set_option maxRecDepth 20000 in
set_option maxHeartbeats 4000000 in
theorem case_clear (C : LC x κ b L xs) (hj : 6 * j + 5 < L) (hB0 : 0 ≤ B) (hB9 : B + 540000 ≤ 2147483000) (hR : RE WK (-1) B S T) (hS : RS S) (hT : RS T) (kk : ∀ S' T' g', RE WK (-1) (B + 540000) S' T' → RS S' → RS T' → LJ x κ S' T' g' (j + 1) 707 (lv0 b κ j) []) : LJ x κ S T g j 329 (lv0 b κ j) [] := by
  have hL : L ≤ 3072 := C.2.2.2.1
  have hi : j ≤ 512 := by omega
  obtain ⟨S', T', r, h1, h2, h3⟩ := call_clear  hR hB0
  refine l_aload_n (n := 330) C 1 dL_law_329 rfl rfl ?_
  refine l_callX (n := 333) (As := []) (rest := []) C 0 hi (c_X8_clear hS  h1) gL_law_X8_clear rfl ⟨rfl, rfl⟩ (by decide +kernel) ⟨Nat.le_of_ble_eq_true rfl, Nat.le_of_ble_eq_true rfl⟩ rfl rfl (Nat.le_of_ble_eq_true rfl) dL_law_330 rfl (fun hS1 _ => ?_)
  show LJ x κ S' T g j 333 (lv0 b κ j) []
  refine l_aload_n (n := 334) C 2 dL_law_333 rfl rfl ?_
  refine l_callM (n := 337) (As := []) (rest := []) C 0 hi (c_X9_clear hT  h2) gL_law_X9_clear rfl ⟨rfl, rfl⟩ (by decide +kernel) ⟨Nat.le_of_ble_eq_true rfl, Nat.le_of_ble_eq_true rfl⟩ rfl rfl (Nat.le_of_ble_eq_true rfl) dL_law_334 rfl (fun hT1 _ => ?_)
  show LJ x κ S' T' g j 337 (lv0 b κ j) []
  exact l_goto C 707 dL_law_337 (by decide) (l_next (kk S' T' g (RE_b h3 (by omega)) hS1 hT1))
set_option maxRecDepth 20000 in
set_option maxHeartbeats 4000000 in
theorem case_count (C : LC x κ b L xs) (hj : 6 * j + 5 < L) (hB0 : 0 ≤ B) (hB9 : B + 540000 ≤ 2147483000) (hR : RE WK (-1) B S T) (hS : RS S) (hT : RS T) (kk : ∀ S' T' g', RE WK (-1) (B + 540000) S' T' → RS S' → RS T' → LJ x κ S' T' g' (j + 1) 707 (lv0 b κ j) []) : LJ x κ S T g j 340 (lv0 b κ j) [] := by
  have hL : L ≤ 3072 := C.2.2.2.1
  have hi : j ≤ 512 := by omega
  obtain ⟨S', T', r, h1, h2, h3⟩ := call_count (a0 := (xs (6 * j + 1)).toInt) hR
  refine l_aload_n (n := 341) C 1 dL_law_340 rfl rfl ?_
  refine l_arg (n := 347) C 1 rfl (by decide) hj rfl rfl dL_law_341 dL_law_342 dL_law_344 dL_law_345 dL_law_346 rfl ?_
  refine l_callX (n := 350) (As := [vI (xs (6 * j + 1)).toInt]) (rest := []) C 1 hi (c_X8_count hS (i_rng _) h1) gL_law_X8_count rfl ⟨rfl, rfl⟩ (by decide +kernel) ⟨Nat.le_of_ble_eq_true rfl, Nat.le_of_ble_eq_true rfl⟩ rfl rfl (Nat.le_of_ble_eq_true rfl) dL_law_347 rfl (fun hS1 _ => ?_)
  show LJ x κ S' T g j 350 (lv0 b κ j) [vJ r]
  refine l_aload_n (n := 351) C 2 dL_law_350 rfl rfl ?_
  refine l_arg (n := 357) C 1 rfl (by decide) hj rfl rfl dL_law_351 dL_law_352 dL_law_354 dL_law_355 dL_law_356 rfl ?_
  refine l_callM (n := 360) (As := [vI (xs (6 * j + 1)).toInt]) (rest := [vJ r]) C 1 hi (c_X9_count hT (i_rng _) h2) gL_law_X9_count rfl ⟨rfl, rfl⟩ (by decide +kernel) ⟨Nat.le_of_ble_eq_true rfl, Nat.le_of_ble_eq_true rfl⟩ rfl rfl (Nat.le_of_ble_eq_true rfl) dL_law_357 rfl (fun hT1 _ => ?_)
  show LJ x κ S' T' g j 360 (lv0 b κ j) [vJ r, vJ r]
  exact l_sameJ C 707 dL_law_360 dL_law_361 (by decide) (l_next (kk S' T' g (RE_b h3 (by omega)) hS1 hT1))
set_option maxRecDepth 20000 in
set_option maxHeartbeats 4000000 in
theorem case_slot (C : LC x κ b L xs) (hj : 6 * j + 5 < L) (hB0 : 0 ≤ B) (hB9 : B + 540000 ≤ 2147483000) (hR : RE WK (-1) B S T) (hS : RS S) (hT : RS T) (kk : ∀ S' T' g', RE WK (-1) (B + 540000) S' T' → RS S' → RS T' → LJ x κ S' T' g' (j + 1) 707 (lv0 b κ j) []) : LJ x κ S T g j 366 (lv0 b κ j) [] := by
  have hL : L ≤ 3072 := C.2.2.2.1
  have hi : j ≤ 512 := by omega
  obtain ⟨S', T', r, h1, h2, h3⟩ := call_slot (a0 := (xs (6 * j + 1)).toInt) (a1 := (xs (6 * j + 2)).toInt) hR
  refine l_aload_n (n := 367) C 1 dL_law_366 rfl rfl ?_
  refine l_arg (n := 373) C 1 rfl (by decide) hj rfl rfl dL_law_367 dL_law_368 dL_law_370 dL_law_371 dL_law_372 rfl ?_
  refine l_arg (n := 379) C 2 rfl (by decide) hj rfl rfl dL_law_373 dL_law_374 dL_law_376 dL_law_377 dL_law_378 rfl ?_
  refine l_callX (n := 382) (As := [vI (xs (6 * j + 1)).toInt, vI (xs (6 * j + 2)).toInt]) (rest := []) C 2 hi (c_X8_slot hS (i_rng _) (i_rng _) h1) gL_law_X8_slot rfl ⟨rfl, rfl⟩ (by decide +kernel) ⟨Nat.le_of_ble_eq_true rfl, Nat.le_of_ble_eq_true rfl⟩ rfl rfl (Nat.le_of_ble_eq_true rfl) dL_law_379 rfl (fun hS1 _ => ?_)
  show LJ x κ S' T g j 382 (lv0 b κ j) [vI r]
  refine l_aload_n (n := 383) C 2 dL_law_382 rfl rfl ?_
  refine l_arg (n := 389) C 1 rfl (by decide) hj rfl rfl dL_law_383 dL_law_384 dL_law_386 dL_law_387 dL_law_388 rfl ?_
  refine l_arg (n := 395) C 2 rfl (by decide) hj rfl rfl dL_law_389 dL_law_390 dL_law_392 dL_law_393 dL_law_394 rfl ?_
  refine l_callM (n := 398) (As := [vI (xs (6 * j + 1)).toInt, vI (xs (6 * j + 2)).toInt]) (rest := [vI r]) C 2 hi (c_X9_slot hT (i_rng _) (i_rng _) h2) gL_law_X9_slot rfl ⟨rfl, rfl⟩ (by decide +kernel) ⟨Nat.le_of_ble_eq_true rfl, Nat.le_of_ble_eq_true rfl⟩ rfl rfl (Nat.le_of_ble_eq_true rfl) dL_law_395 rfl (fun hT1 _ => ?_)
  show LJ x κ S' T' g j 398 (lv0 b κ j) [vI r, vI r]
  exact l_same C 707 dL_law_398 (by decide) (l_next (kk S' T' g (RE_b h3 (by omega)) hS1 hT1))
set_option maxRecDepth 20000 in
set_option maxHeartbeats 4000000 in
theorem case_event (C : LC x κ b L xs) (hj : 6 * j + 5 < L) (hB0 : 0 ≤ B) (hB9 : B + 540000 ≤ 2147483000) (hR : RE WK (-1) B S T) (hS : RS S) (hT : RS T) (kk : ∀ S' T' g', RE WK (-1) (B + 540000) S' T' → RS S' → RS T' → LJ x κ S' T' g' (j + 1) 707 (lv0 b κ j) []) : LJ x κ S T g j 471 (lv0 b κ j) [] := by
  have hL : L ≤ 3072 := C.2.2.2.1
  have hi : j ≤ 512 := by omega
  obtain ⟨S', T', r, h1, h2, h3⟩ := call_event (a0 := (xs (6 * j + 1)).toInt) (a1 := (xs (6 * j + 2)).toInt) hR (by omega)
  refine l_aload_n (n := 472) C 1 dL_law_471 rfl rfl ?_
  refine l_arg (n := 478) C 1 rfl (by decide) hj rfl rfl dL_law_472 dL_law_473 dL_law_475 dL_law_476 dL_law_477 rfl ?_
  refine l_arg (n := 484) C 2 rfl (by decide) hj rfl rfl dL_law_478 dL_law_479 dL_law_481 dL_law_482 dL_law_483 rfl ?_
  refine l_callX (n := 487) (As := [vI (xs (6 * j + 1)).toInt, vI (xs (6 * j + 2)).toInt]) (rest := []) C 2 hi (c_X8_event hS (i_rng _) (i_rng _) h1) gL_law_X8_event rfl ⟨rfl, rfl⟩ (by decide +kernel) ⟨Nat.le_of_ble_eq_true rfl, Nat.le_of_ble_eq_true rfl⟩ rfl rfl (Nat.le_of_ble_eq_true rfl) dL_law_484 rfl (fun hS1 _ => ?_)
  show LJ x κ S' T g j 487 (lv0 b κ j) [vI r]
  refine l_aload_n (n := 488) C 2 dL_law_487 rfl rfl ?_
  refine l_arg (n := 494) C 1 rfl (by decide) hj rfl rfl dL_law_488 dL_law_489 dL_law_491 dL_law_492 dL_law_493 rfl ?_
  refine l_arg (n := 500) C 2 rfl (by decide) hj rfl rfl dL_law_494 dL_law_495 dL_law_497 dL_law_498 dL_law_499 rfl ?_
  refine l_callM (n := 503) (As := [vI (xs (6 * j + 1)).toInt, vI (xs (6 * j + 2)).toInt]) (rest := [vI r]) C 2 hi (c_X9_event hT (i_rng _) (i_rng _) h2) gL_law_X9_event rfl ⟨rfl, rfl⟩ (by decide +kernel) ⟨Nat.le_of_ble_eq_true rfl, Nat.le_of_ble_eq_true rfl⟩ rfl rfl (Nat.le_of_ble_eq_true rfl) dL_law_500 rfl (fun hT1 _ => ?_)
  show LJ x κ S' T' g j 503 (lv0 b κ j) [vI r, vI r]
  exact l_same C 707 dL_law_503 (by decide) (l_next (kk S' T' g (RE_b h3 (by omega)) hS1 hT1))
set_option maxRecDepth 20000 in
set_option maxHeartbeats 4000000 in
theorem case_mean (C : LC x κ b L xs) (hj : 6 * j + 5 < L) (hB0 : 0 ≤ B) (hB9 : B + 540000 ≤ 2147483000) (hR : RE WK (-1) B S T) (hS : RS S) (hT : RS T) (kk : ∀ S' T' g', RE WK (-1) (B + 540000) S' T' → RS S' → RS T' → LJ x κ S' T' g' (j + 1) 707 (lv0 b κ j) []) : LJ x κ S T g j 508 (lv0 b κ j) [] := by
  have hL : L ≤ 3072 := C.2.2.2.1
  have hi : j ≤ 512 := by omega
  obtain ⟨S', T', r, h1, h2, h3⟩ := call_mean (a0 := (xs (6 * j + 1)).toInt) (a1 := (xs (6 * j + 2)).toInt) (a2 := (xs (6 * j + 3)).toInt) (a3 := (xs (6 * j + 4)).toInt) hR
  refine l_aload_n (n := 509) C 1 dL_law_508 rfl rfl ?_
  refine l_arg (n := 515) C 1 rfl (by decide) hj rfl rfl dL_law_509 dL_law_510 dL_law_512 dL_law_513 dL_law_514 rfl ?_
  refine l_arg (n := 521) C 2 rfl (by decide) hj rfl rfl dL_law_515 dL_law_516 dL_law_518 dL_law_519 dL_law_520 rfl ?_
  refine l_arg (n := 527) C 3 rfl (by decide) hj rfl rfl dL_law_521 dL_law_522 dL_law_524 dL_law_525 dL_law_526 rfl ?_
  refine l_arg (n := 533) C 4 rfl (by decide) hj rfl rfl dL_law_527 dL_law_528 dL_law_530 dL_law_531 dL_law_532 rfl ?_
  refine l_callX (n := 536) (As := [vI (xs (6 * j + 1)).toInt, vI (xs (6 * j + 2)).toInt, vI (xs (6 * j + 3)).toInt, vI (xs (6 * j + 4)).toInt]) (rest := []) C 4 hi (c_X8_mean hS (i_rng _) (i_rng _) (i_rng _) (i_rng _) h1) gL_law_X8_mean rfl ⟨rfl, rfl⟩ (by decide +kernel) ⟨Nat.le_of_ble_eq_true rfl, Nat.le_of_ble_eq_true rfl⟩ rfl rfl (Nat.le_of_ble_eq_true rfl) dL_law_533 rfl (fun hS1 _ => ?_)
  show LJ x κ S' T g j 536 (lv0 b κ j) [vJ r]
  refine l_aload_n (n := 537) C 2 dL_law_536 rfl rfl ?_
  refine l_arg (n := 543) C 1 rfl (by decide) hj rfl rfl dL_law_537 dL_law_538 dL_law_540 dL_law_541 dL_law_542 rfl ?_
  refine l_arg (n := 549) C 2 rfl (by decide) hj rfl rfl dL_law_543 dL_law_544 dL_law_546 dL_law_547 dL_law_548 rfl ?_
  refine l_arg (n := 555) C 3 rfl (by decide) hj rfl rfl dL_law_549 dL_law_550 dL_law_552 dL_law_553 dL_law_554 rfl ?_
  refine l_arg (n := 561) C 4 rfl (by decide) hj rfl rfl dL_law_555 dL_law_556 dL_law_558 dL_law_559 dL_law_560 rfl ?_
  refine l_callM (n := 564) (As := [vI (xs (6 * j + 1)).toInt, vI (xs (6 * j + 2)).toInt, vI (xs (6 * j + 3)).toInt, vI (xs (6 * j + 4)).toInt]) (rest := [vJ r]) C 4 hi (c_X9_mean hT (i_rng _) (i_rng _) (i_rng _) (i_rng _) h2) gL_law_X9_mean rfl ⟨rfl, rfl⟩ (by decide +kernel) ⟨Nat.le_of_ble_eq_true rfl, Nat.le_of_ble_eq_true rfl⟩ rfl rfl (Nat.le_of_ble_eq_true rfl) dL_law_561 rfl (fun hT1 _ => ?_)
  show LJ x κ S' T' g j 564 (lv0 b κ j) [vJ r, vJ r]
  exact l_sameJ C 707 dL_law_564 dL_law_565 (by decide) (l_next (kk S' T' g (RE_b h3 (by omega)) hS1 hT1))
set_option maxRecDepth 20000 in
set_option maxHeartbeats 4000000 in
theorem case_best (C : LC x κ b L xs) (hj : 6 * j + 5 < L) (hB0 : 0 ≤ B) (hB9 : B + 540000 ≤ 2147483000) (hR : RE WK (-1) B S T) (hS : RS S) (hT : RS T) (kk : ∀ S' T' g', RE WK (-1) (B + 540000) S' T' → RS S' → RS T' → LJ x κ S' T' g' (j + 1) 707 (lv0 b κ j) []) : LJ x κ S T g j 570 (lv0 b κ j) [] := by
  have hL : L ≤ 3072 := C.2.2.2.1
  have hi : j ≤ 512 := by omega
  obtain ⟨S', T', r, h1, h2, h3⟩ := call_best (a0 := (xs (6 * j + 1)).toInt) (a1 := (xs (6 * j + 2)).toInt) (a2 := (xs (6 * j + 3)).toInt) hR
  refine l_aload_n (n := 571) C 1 dL_law_570 rfl rfl ?_
  refine l_arg (n := 577) C 1 rfl (by decide) hj rfl rfl dL_law_571 dL_law_572 dL_law_574 dL_law_575 dL_law_576 rfl ?_
  refine l_arg (n := 583) C 2 rfl (by decide) hj rfl rfl dL_law_577 dL_law_578 dL_law_580 dL_law_581 dL_law_582 rfl ?_
  refine l_arg (n := 589) C 3 rfl (by decide) hj rfl rfl dL_law_583 dL_law_584 dL_law_586 dL_law_587 dL_law_588 rfl ?_
  refine l_callX (n := 592) (As := [vI (xs (6 * j + 1)).toInt, vI (xs (6 * j + 2)).toInt, vI (xs (6 * j + 3)).toInt]) (rest := []) C 3 hi (c_X8_best hS (i_rng _) (i_rng _) (i_rng _) h1) gL_law_X8_best rfl ⟨rfl, rfl⟩ (by decide +kernel) ⟨Nat.le_of_ble_eq_true rfl, Nat.le_of_ble_eq_true rfl⟩ rfl rfl (Nat.le_of_ble_eq_true rfl) dL_law_589 rfl (fun hS1 _ => ?_)
  show LJ x κ S' T g j 592 (lv0 b κ j) [vI r]
  refine l_aload_n (n := 593) C 2 dL_law_592 rfl rfl ?_
  refine l_arg (n := 599) C 1 rfl (by decide) hj rfl rfl dL_law_593 dL_law_594 dL_law_596 dL_law_597 dL_law_598 rfl ?_
  refine l_arg (n := 605) C 2 rfl (by decide) hj rfl rfl dL_law_599 dL_law_600 dL_law_602 dL_law_603 dL_law_604 rfl ?_
  refine l_arg (n := 611) C 3 rfl (by decide) hj rfl rfl dL_law_605 dL_law_606 dL_law_608 dL_law_609 dL_law_610 rfl ?_
  refine l_callM (n := 614) (As := [vI (xs (6 * j + 1)).toInt, vI (xs (6 * j + 2)).toInt, vI (xs (6 * j + 3)).toInt]) (rest := [vI r]) C 3 hi (c_X9_best hT (i_rng _) (i_rng _) (i_rng _) h2) gL_law_X9_best rfl ⟨rfl, rfl⟩ (by decide +kernel) ⟨Nat.le_of_ble_eq_true rfl, Nat.le_of_ble_eq_true rfl⟩ rfl rfl (Nat.le_of_ble_eq_true rfl) dL_law_611 rfl (fun hT1 _ => ?_)
  show LJ x κ S' T' g j 614 (lv0 b κ j) [vI r, vI r]
  exact l_same C 707 dL_law_614 (by decide) (l_next (kk S' T' g (RE_b h3 (by omega)) hS1 hT1))
set_option maxRecDepth 20000 in
set_option maxHeartbeats 4000000 in
theorem case_crowd (C : LC x κ b L xs) (hj : 6 * j + 5 < L) (hB0 : 0 ≤ B) (hB9 : B + 540000 ≤ 2147483000) (hR : RE WK (-1) B S T) (hS : RS S) (hT : RS T) (kk : ∀ S' T' g', RE WK (-1) (B + 540000) S' T' → RS S' → RS T' → LJ x κ S' T' g' (j + 1) 707 (lv0 b κ j) []) : LJ x κ S T g j 619 (lv0 b κ j) [] := by
  have hL : L ≤ 3072 := C.2.2.2.1
  have hi : j ≤ 512 := by omega
  obtain ⟨S', T', r, h1, h2, h3⟩ := call_crowd (a0 := (xs (6 * j + 1)).toInt) hR
  refine l_aload_n (n := 620) C 1 dL_law_619 rfl rfl ?_
  refine l_arg (n := 626) C 1 rfl (by decide) hj rfl rfl dL_law_620 dL_law_621 dL_law_623 dL_law_624 dL_law_625 rfl ?_
  refine l_callX (n := 629) (As := [vI (xs (6 * j + 1)).toInt]) (rest := []) C 1 hi (c_X8_crowd hS (i_rng _) h1) gL_law_X8_crowd rfl ⟨rfl, rfl⟩ (by decide +kernel) ⟨Nat.le_of_ble_eq_true rfl, Nat.le_of_ble_eq_true rfl⟩ rfl rfl (Nat.le_of_ble_eq_true rfl) dL_law_626 rfl (fun hS1 _ => ?_)
  show LJ x κ S' T g j 629 (lv0 b κ j) [vI r]
  refine l_aload_n (n := 630) C 2 dL_law_629 rfl rfl ?_
  refine l_arg (n := 636) C 1 rfl (by decide) hj rfl rfl dL_law_630 dL_law_631 dL_law_633 dL_law_634 dL_law_635 rfl ?_
  refine l_callM (n := 639) (As := [vI (xs (6 * j + 1)).toInt]) (rest := [vI r]) C 1 hi (c_X9_crowd hT (i_rng _) h2) gL_law_X9_crowd rfl ⟨rfl, rfl⟩ (by decide +kernel) ⟨Nat.le_of_ble_eq_true rfl, Nat.le_of_ble_eq_true rfl⟩ rfl rfl (Nat.le_of_ble_eq_true rfl) dL_law_636 rfl (fun hT1 _ => ?_)
  show LJ x κ S' T' g j 639 (lv0 b κ j) [vI r, vI r]
  exact l_same C 707 dL_law_639 (by decide) (l_next (kk S' T' g (RE_b h3 (by omega)) hS1 hT1))
set_option maxRecDepth 20000 in
set_option maxHeartbeats 4000000 in
theorem case_scatter (C : LC x κ b L xs) (hj : 6 * j + 5 < L) (hB0 : 0 ≤ B) (hB9 : B + 540000 ≤ 2147483000) (hR : RE WK (-1) B S T) (hS : RS S) (hT : RS T) (kk : ∀ S' T' g', RE WK (-1) (B + 540000) S' T' → RS S' → RS T' → LJ x κ S' T' g' (j + 1) 707 (lv0 b κ j) []) : LJ x κ S T g j 644 (lv0 b κ j) [] := by
  have hL : L ≤ 3072 := C.2.2.2.1
  have hi : j ≤ 512 := by omega
  obtain ⟨S', T', r, h1, h2, h3⟩ := call_scatter  hR
  refine l_aload_n (n := 645) C 1 dL_law_644 rfl rfl ?_
  refine l_callX (n := 648) (As := []) (rest := []) C 0 hi (c_X8_scatter hS  h1) gL_law_X8_scatter rfl ⟨rfl, rfl⟩ (by decide +kernel) ⟨Nat.le_of_ble_eq_true rfl, Nat.le_of_ble_eq_true rfl⟩ rfl rfl (Nat.le_of_ble_eq_true rfl) dL_law_645 rfl (fun hS1 _ => ?_)
  show LJ x κ S' T g j 648 (lv0 b κ j) [vI r]
  refine l_aload_n (n := 649) C 2 dL_law_648 rfl rfl ?_
  refine l_callM (n := 652) (As := []) (rest := [vI r]) C 0 hi (c_X9_scatter hT  h2) gL_law_X9_scatter rfl ⟨rfl, rfl⟩ (by decide +kernel) ⟨Nat.le_of_ble_eq_true rfl, Nat.le_of_ble_eq_true rfl⟩ rfl rfl (Nat.le_of_ble_eq_true rfl) dL_law_649 rfl (fun hT1 _ => ?_)
  show LJ x κ S' T' g j 652 (lv0 b κ j) [vI r, vI r]
  exact l_same C 707 dL_law_652 (by decide) (l_next (kk S' T' g (RE_b h3 (by omega)) hS1 hT1))
set_option maxRecDepth 20000 in
set_option maxHeartbeats 4000000 in
theorem case_states (C : LC x κ b L xs) (hj : 6 * j + 5 < L) (hB0 : 0 ≤ B) (hB9 : B + 540000 ≤ 2147483000) (hR : RE WK (-1) B S T) (hS : RS S) (hT : RS T) (kk : ∀ S' T' g', RE WK (-1) (B + 540000) S' T' → RS S' → RS T' → LJ x κ S' T' g' (j + 1) 707 (lv0 b κ j) []) : LJ x κ S T g j 657 (lv0 b κ j) [] := by
  have hL : L ≤ 3072 := C.2.2.2.1
  have hi : j ≤ 512 := by omega
  obtain ⟨S', T', r, h1, h2, h3⟩ := call_states (a0 := (xs (6 * j + 1)).toInt) (a1 := (xs (6 * j + 2)).toInt) hR
  refine l_aload_n (n := 658) C 1 dL_law_657 rfl rfl ?_
  refine l_arg (n := 664) C 1 rfl (by decide) hj rfl rfl dL_law_658 dL_law_659 dL_law_661 dL_law_662 dL_law_663 rfl ?_
  refine l_arg (n := 670) C 2 rfl (by decide) hj rfl rfl dL_law_664 dL_law_665 dL_law_667 dL_law_668 dL_law_669 rfl ?_
  refine l_callX (n := 673) (As := [vI (xs (6 * j + 1)).toInt, vI (xs (6 * j + 2)).toInt]) (rest := []) C 2 hi (c_X8_states hS (i_rng _) (i_rng _) h1) gL_law_X8_states rfl ⟨rfl, rfl⟩ (by decide +kernel) ⟨Nat.le_of_ble_eq_true rfl, Nat.le_of_ble_eq_true rfl⟩ rfl rfl (Nat.le_of_ble_eq_true rfl) dL_law_670 rfl (fun hS1 _ => ?_)
  show LJ x κ S' T g j 673 (lv0 b κ j) [vI r]
  refine l_aload_n (n := 674) C 2 dL_law_673 rfl rfl ?_
  refine l_arg (n := 680) C 1 rfl (by decide) hj rfl rfl dL_law_674 dL_law_675 dL_law_677 dL_law_678 dL_law_679 rfl ?_
  refine l_arg (n := 686) C 2 rfl (by decide) hj rfl rfl dL_law_680 dL_law_681 dL_law_683 dL_law_684 dL_law_685 rfl ?_
  refine l_callM (n := 689) (As := [vI (xs (6 * j + 1)).toInt, vI (xs (6 * j + 2)).toInt]) (rest := [vI r]) C 2 hi (c_X9_states hT (i_rng _) (i_rng _) h2) gL_law_X9_states rfl ⟨rfl, rfl⟩ (by decide +kernel) ⟨Nat.le_of_ble_eq_true rfl, Nat.le_of_ble_eq_true rfl⟩ rfl rfl (Nat.le_of_ble_eq_true rfl) dL_law_686 rfl (fun hT1 _ => ?_)
  show LJ x κ S' T' g j 689 (lv0 b κ j) [vI r, vI r]
  exact l_same C 707 dL_law_689 (by decide) (l_next (kk S' T' g (RE_b h3 (by omega)) hS1 hT1))
set_option maxRecDepth 20000 in
set_option maxHeartbeats 4000000 in
theorem case_sure (C : LC x κ b L xs) (hj : 6 * j + 5 < L) (hB0 : 0 ≤ B) (hB9 : B + 540000 ≤ 2147483000) (hR : RE WK (-1) B S T) (hS : RS S) (hT : RS T) (kk : ∀ S' T' g', RE WK (-1) (B + 540000) S' T' → RS S' → RS T' → LJ x κ S' T' g' (j + 1) 707 (lv0 b κ j) []) : LJ x κ S T g j 694 (lv0 b κ j) [] := by
  have hL : L ≤ 3072 := C.2.2.2.1
  have hi : j ≤ 512 := by omega
  obtain ⟨S', T', r, h1, h2, h3⟩ := call_sure  hR
  refine l_aload_n (n := 695) C 1 dL_law_694 rfl rfl ?_
  refine l_callX (n := 698) (As := []) (rest := []) C 0 hi (c_X8_sure hS  h1) gL_law_X8_sure rfl ⟨rfl, rfl⟩ (by decide +kernel) ⟨Nat.le_of_ble_eq_true rfl, Nat.le_of_ble_eq_true rfl⟩ rfl rfl (Nat.le_of_ble_eq_true rfl) dL_law_695 rfl (fun hS1 _ => ?_)
  show LJ x κ S' T g j 698 (lv0 b κ j) [vI r]
  refine l_aload_n (n := 699) C 2 dL_law_698 rfl rfl ?_
  refine l_callM (n := 702) (As := []) (rest := [vI r]) C 0 hi (c_X9_sure hT  h2) gL_law_X9_sure rfl ⟨rfl, rfl⟩ (by decide +kernel) ⟨Nat.le_of_ble_eq_true rfl, Nat.le_of_ble_eq_true rfl⟩ rfl rfl (Nat.le_of_ble_eq_true rfl) dL_law_699 rfl (fun hT1 _ => ?_)
  show LJ x κ S' T' g j 702 (lv0 b κ j) [vI r, vI r]
  exact l_same C 707 dL_law_702 (by decide) (l_next (kk S' T' g (RE_b h3 (by omega)) hS1 hT1))
set_option maxRecDepth 20000 in
set_option maxHeartbeats 4000000 in
theorem case_told (C : LC x κ b L xs) (hj : 6 * j + 5 < L) (hB0 : 0 ≤ B) (hB9 : B + 540000 ≤ 2147483000) (hR : RE WK (-1) B S T) (hS : RS S) (hT : RS T) (kk : ∀ S' T' g', RE WK (-1) (B + 540000) S' T' → RS S' → RS T' → LJ x κ S' T' g' (j + 1) 707 (lv0 b κ j) []) : LJ x κ S T g j 403 (lv0 b κ j) [] := by
  have hL : L ≤ 3072 := C.2.2.2.1
  have hi : j ≤ 511 := by omega
  obtain ⟨T', r, h1, h2, h3⟩ := call_told (a0 := (xs (6 * j + 1)).toInt) (a1 := (xs (6 * j + 2)).toInt) hR
  have e45 : S 4 5 = T 0 19 := hR.1.2.2.1.1
  have hm : 0 ≤ S 4 5 ∧ S 4 5 ≤ 60 := by rw [e45]; exact many_rng hR
  have key : ∃ k g1, (((0 ≤ (xs (6 * j + 1)).toInt ∧ (xs (6 * j + 1)).toInt < S 4 5 ∧ 0 ≤ (xs (6 * j + 2)).toInt ∧ (xs (6 * j + 2)).toInt ≤ 5) ∧ dn_X6_callerFigure (xs (6 * j + 1)).toInt (xs (6 * j + 2)).toInt S = some (S, g1) ∧ k = 0) ∨ (¬ (0 ≤ (xs (6 * j + 1)).toInt ∧ (xs (6 * j + 1)).toInt < S 4 5 ∧ 0 ≤ (xs (6 * j + 2)).toInt ∧ (xs (6 * j + 2)).toInt ≤ 5) ∧ k = 1 ∧ g1 = g)) ∧ T' 0 33 = k ∧ (k = 0 → g1 = r) ∧ (k = 0 ∨ k = 1) := by
    rcases h3 with ⟨q1, q2, q3, q4, q5, q6⟩ | ⟨q1, q2⟩
    · exact ⟨0, r, Or.inl ⟨⟨q1, by rw [e45]; exact q2, q3, q4⟩, q6, rfl⟩, q5, fun _ => rfl, Or.inl rfl⟩
    · exact ⟨1, g, Or.inr ⟨by rw [e45]; exact q1, rfl, rfl⟩, q2, fun h => absurd h (by decide), Or.inr rfl⟩
  obtain ⟨k, g1, hc, h33, hg, hk01⟩ := key
  refine l_aload_n (n := 404) C 1 dL_law_403 rfl rfl ?_
  refine l_arg (n := 410) C 1 rfl (by decide) hj rfl rfl dL_law_404 dL_law_405 dL_law_407 dL_law_408 dL_law_409 rfl ?_
  refine l_arg (n := 416) C 2 rfl (by decide) hj rfl rfl dL_law_410 dL_law_411 dL_law_413 dL_law_414 dL_law_415 rfl ?_
  refine l_aload_n (n := 417) C 3 dL_law_416 rfl rfl ?_
  refine l_told C (by omega) hS (i_rng _) (i_rng _) hm hc ?_
  refine l_istore (n := 422) (lv' := (5, vI k) :: lv0 b κ j) C dL_law_420 (by decide) rfl rfl ?_
  refine l_lv [1, 2, 3, 4, 5, 0] (lv' := [(0, .ref b), (1, .ref (κ.2.2.1 0)), (2, .ref (κ.2.2.2.1 0)), (3, .ref κ.2.2.2.2), (4, vI (6 * (j : Int))), (5, vI k)]) rfl ?_
  refine l_aload_n (n := 423) C 2 dL_law_422 rfl rfl ?_
  refine l_arg (n := 429) C 1 rfl (by decide) hj rfl rfl dL_law_423 dL_law_424 dL_law_426 dL_law_427 dL_law_428 rfl ?_
  refine l_arg (n := 435) C 2 rfl (by decide) hj rfl rfl dL_law_429 dL_law_430 dL_law_432 dL_law_433 dL_law_434 rfl ?_
  refine l_callM (n := 438) (As := [vI (xs (6 * j + 1)).toInt, vI (xs (6 * j + 2)).toInt]) (rest := []) C 2 (by omega) (c_X9_told hT (i_rng _) (i_rng _) h1) gL_law_X9_told rfl ⟨rfl, rfl⟩ (by decide +kernel) ⟨Nat.le_of_ble_eq_true rfl, Nat.le_of_ble_eq_true rfl⟩ rfl rfl (Nat.le_of_ble_eq_true rfl) dL_law_435 rfl (fun hT1 hr => ?_)
  show LJ x κ S T' g1 (j + 1) 438 _ [vI r]
  have hr : r32 r := hr
  refine l_istore (n := 440) (lv' := [(6, vI r), (0, .ref b), (1, .ref (κ.2.2.1 0)), (2, .ref (κ.2.2.2.1 0)), (3, .ref κ.2.2.2.2), (4, vI (6 * (j : Int))), (5, vI k)]) C dL_law_438 (by decide) rfl rfl ?_
  refine l_aload_n (n := 441) C 3 dL_law_440 rfl rfl ?_
  have hth : dn_X9_thrown T' = some (T', k) := by unfold dn_X9_thrown; rw [h33]
  refine l_callM (n := 444) (As := []) (rest := []) C 0 (by omega) (c_X9_thrown hT1 hth) gL_law_X9_thrown rfl ⟨rfl, rfl⟩ (by decide +kernel) ⟨Nat.le_of_ble_eq_true rfl, Nat.le_of_ble_eq_true rfl⟩ rfl rfl (Nat.le_of_ble_eq_true rfl) dL_law_441 rfl (fun _ _ => ?_)
  show LJ x κ S T' g1 (j + 1) 444 _ [vI k]
  refine l_iload (n := 446) C 6 dL_law_444 rfl rfl ?_
  refine l_same C 451 dL_law_446 (by decide) ?_
  refine l_iload (n := 453) C 6 dL_law_451 rfl rfl ?_
  have fin : LJ x κ S T' g1 (j + 1) 468 [(6, vI r), (0, .ref b), (1, .ref (κ.2.2.1 0)), (2, .ref (κ.2.2.2.1 0)), (3, .ref κ.2.2.2.2), (4, vI (6 * (j : Int))), (5, vI k)] [] := by
    refine l_goto C 707 dL_law_468 (by decide) ?_
    refine l_lv [1, 2, 3, 4, 5] rfl ?_
    exact kk S T' g1 (RE_b h2 (by omega)) hS hT1
  intro H locs ls hB hSv hv
  rcases hk01 with rfl | rfl
  · have hgr := hg rfl
    subst hgr
    refine lv_if_ne (tgt := 468) C.1.1 C.1.2.1 dL_law_453 (by decide) (fun h => absurd rfl h) (fun _ => ?_)
    refine lv_aload_n C.1.1 C.1.2.1 dL_law_456 rfl (lv_at hv 4 rfl) ?_
    refine lv_iconst (v := Int32.ofInt 0) C.1.1 C.1.2.1 dL_law_457 rfl ?_
    refine va_lald (tys := tyl κ.2.1) C.1.1 C.1.2.1 C.2.2.2.2.1 hB.2.2.1 0 1 rfl rfl (i_in (x := 0) (n := 1) (by decide) (by decide) (by decide)) dL_law_458 ?_
    refine lv_iload C.1.1 C.1.2.1 dL_law_459 (lv_at hv 0 rfl) ?_
    refine lv_i2l C.1.1 C.1.2.1 dL_law_461 (i2j hr) ?_
    refine W.lcmp C.1.1 C.1.2.1 dL_law_462 ?_
    have e : lg_cmp (Int64.ofInt g1) (Int64.ofInt g1) = 0 := by simp [lg_cmp]
    rw [e]
    exact lv_if_eq (tgt := 468) C.1.1 C.1.2.1 dL_law_463 (by decide) (fun _ => fin H locs ls hB hSv hv) (fun h => absurd rfl h)
  · exact lv_if_ne (tgt := 468) C.1.1 C.1.2.1 dL_law_453 (by decide) (fun _ => fin H locs ls hB hSv hv) (fun h => absurd h (by decide))
end CS
