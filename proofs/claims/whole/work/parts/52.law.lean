/-! ## the law's thirty-one calls, laid by wip/whole/gen/law.py out of the decode rows -/
theorem gl_in {i L k : Nat} (hi : i + 4 ≤ L) (hL : L ≤ 2048) (hk : k < 4) {y : Int32} (e : y = nI k) : vp_in (nI i + y) L := by
  subst e
  rw [nI_add]
  exact vp_in_nI (by omega) (by omega)
section GLC
variable {l : Launch} {b L : Nat} {xs : Nat → Int32} {aC aM : Nat → Nat} {X : gl_X} {hC hM : gw_H} {i : Nat}
abbrev gl_ls (b : Nat) (aC aM : Nat → Nat) (i : Nat) : gw_L := [some (.ref b), some (.ref (aC 0)), some (.ref (aM 0)), some (.int (nI i))]
set_option maxRecDepth 100000 in
set_option maxHeartbeats 4000000 in
theorem gl_c0 (R : RR hC hM) (hi : i + 4 ≤ L) (hL : L ≤ 2048) (K : ∀ hC' hM', RR hC' hM' → gl_G l b L xs aC aM X hC' hM' 1005 (gl_ls b aC aM i) []) : gl_G l b L xs aC aM X hC hM 172 (gl_ls b aC aM i) [] := by
  refine gl_aload_n (i := 1) dL_law_172 rfl rfl ?_
  refine gl_aload_n (i := 0) dL_law_173 rfl rfl ?_
  refine gl_iload_n (i := 3) dL_law_174 rfl rfl ?_
  refine gl_iconst (v := 1) dL_law_175 (by decide) ?_
  refine gl_iadd dL_law_176 ?_
  refine gl_sld (gl_in hi hL (k := 1) (by omega) rfl) dL_law_177 ?_
  refine gl_callC (As := [.int (xs (nI i + 1).toNatClampNeg)]) (rest := []) (gc_X5_letter (o_letter R)) mX5_letter lmL_13 rfl rfl ⟨Nat.le_of_ble_eq_true rfl, Nat.le_of_ble_eq_true rfl⟩ (Nat.le_of_ble_eq_true rfl) dL_law_178 (fun r1 h1 w1 => ?_)
  refine gl_aload_n (i := 2) dL_law_181 rfl rfl ?_
  refine gl_aload_n (i := 0) dL_law_182 rfl rfl ?_
  refine gl_iload_n (i := 3) dL_law_183 rfl rfl ?_
  refine gl_iconst (v := 1) dL_law_184 (by decide) ?_
  refine gl_iadd dL_law_185 ?_
  refine gl_sld (gl_in hi hL (k := 1) (by omega) rfl) dL_law_186 ?_
  refine gl_callM (As := [.int (xs (nI i + 1).toNatClampNeg)]) (rest := [.int r1]) (gc_X6_letter w1) mX6_letter lmL_17 rfl rfl ⟨Nat.le_of_ble_eq_true rfl, Nat.le_of_ble_eq_true rfl⟩ (Nat.le_of_ble_eq_true rfl) dL_law_187 (fun r2 h2 w2 => ?_)
  exact gl_icmp_eq (tgt := 1005) dL_law_190 (by decide) (fun _ => K h1 h2 w2.2) (fun c => absurd w2.1 c)
set_option maxRecDepth 100000 in
set_option maxHeartbeats 4000000 in
theorem gl_c1 (R : RR hC hM) (hi : i + 4 ≤ L) (hL : L ≤ 2048) (K : ∀ hC' hM', RR hC' hM' → gl_G l b L xs aC aM X hC' hM' 1005 (gl_ls b aC aM i) []) : gl_G l b L xs aC aM X hC hM 195 (gl_ls b aC aM i) [] := by
  refine gl_aload_n (i := 1) dL_law_195 rfl rfl ?_
  refine gl_callC (As := []) (rest := []) (gc_X5_office (o_office R)) mX5_office lmL_18 rfl rfl ⟨Nat.le_of_ble_eq_true rfl, Nat.le_of_ble_eq_true rfl⟩ (Nat.le_of_ble_eq_true rfl) dL_law_196 (fun r1 h1 w1 => ?_)
  refine gl_aload_n (i := 2) dL_law_199 rfl rfl ?_
  refine gl_callM (As := []) (rest := [.int r1]) (gc_X6_office w1) mX6_office lmL_22 rfl rfl ⟨Nat.le_of_ble_eq_true rfl, Nat.le_of_ble_eq_true rfl⟩ (Nat.le_of_ble_eq_true rfl) dL_law_200 (fun r2 h2 w2 => ?_)
  exact gl_icmp_eq (tgt := 1005) dL_law_203 (by decide) (fun _ => K h1 h2 w2.2) (fun c => absurd w2.1 c)
set_option maxRecDepth 100000 in
set_option maxHeartbeats 4000000 in
theorem gl_c2 (R : RR hC hM) (hi : i + 4 ≤ L) (hL : L ≤ 2048) (K : ∀ hC' hM', RR hC' hM' → gl_G l b L xs aC aM X hC' hM' 1005 (gl_ls b aC aM i) []) : gl_G l b L xs aC aM X hC hM 208 (gl_ls b aC aM i) [] := by
  refine gl_aload_n (i := 1) dL_law_208 rfl rfl ?_
  refine gl_aload_n (i := 0) dL_law_209 rfl rfl ?_
  refine gl_iload_n (i := 3) dL_law_210 rfl rfl ?_
  refine gl_iconst (v := 1) dL_law_211 (by decide) ?_
  refine gl_iadd dL_law_212 ?_
  refine gl_sld (gl_in hi hL (k := 1) (by omega) rfl) dL_law_213 ?_
  refine gl_aload_n (i := 0) dL_law_214 rfl rfl ?_
  refine gl_iload_n (i := 3) dL_law_215 rfl rfl ?_
  refine gl_iconst (v := 2) dL_law_216 (by decide) ?_
  refine gl_iadd dL_law_217 ?_
  refine gl_sld (gl_in hi hL (k := 2) (by omega) rfl) dL_law_218 ?_
  refine gl_callC (As := [.int (xs (nI i + 1).toNatClampNeg), .int (xs (nI i + 2).toNatClampNeg)]) (rest := []) (gc_X5_song (o_song R)) mX5_song lmL_23 rfl rfl ⟨Nat.le_of_ble_eq_true rfl, Nat.le_of_ble_eq_true rfl⟩ (Nat.le_of_ble_eq_true rfl) dL_law_219 (fun r1 h1 w1 => ?_)
  refine gl_aload_n (i := 2) dL_law_222 rfl rfl ?_
  refine gl_aload_n (i := 0) dL_law_223 rfl rfl ?_
  refine gl_iload_n (i := 3) dL_law_224 rfl rfl ?_
  refine gl_iconst (v := 1) dL_law_225 (by decide) ?_
  refine gl_iadd dL_law_226 ?_
  refine gl_sld (gl_in hi hL (k := 1) (by omega) rfl) dL_law_227 ?_
  refine gl_aload_n (i := 0) dL_law_228 rfl rfl ?_
  refine gl_iload_n (i := 3) dL_law_229 rfl rfl ?_
  refine gl_iconst (v := 2) dL_law_230 (by decide) ?_
  refine gl_iadd dL_law_231 ?_
  refine gl_sld (gl_in hi hL (k := 2) (by omega) rfl) dL_law_232 ?_
  refine gl_callM (As := [.int (xs (nI i + 1).toNatClampNeg), .int (xs (nI i + 2).toNatClampNeg)]) (rest := [.int r1]) (gc_X6_song w1) mX6_song lmL_27 rfl rfl ⟨Nat.le_of_ble_eq_true rfl, Nat.le_of_ble_eq_true rfl⟩ (Nat.le_of_ble_eq_true rfl) dL_law_233 (fun r2 h2 w2 => ?_)
  exact gl_icmp_eq (tgt := 1005) dL_law_236 (by decide) (fun _ => K h1 h2 w2.2) (fun c => absurd w2.1 c)
set_option maxRecDepth 100000 in
set_option maxHeartbeats 4000000 in
theorem gl_c3 (R : RR hC hM) (hi : i + 4 ≤ L) (hL : L ≤ 2048) (K : ∀ hC' hM', RR hC' hM' → gl_G l b L xs aC aM X hC' hM' 1005 (gl_ls b aC aM i) []) : gl_G l b L xs aC aM X hC hM 241 (gl_ls b aC aM i) [] := by
  refine gl_aload_n (i := 1) dL_law_241 rfl rfl ?_
  refine gl_aload_n (i := 0) dL_law_242 rfl rfl ?_
  refine gl_iload_n (i := 3) dL_law_243 rfl rfl ?_
  refine gl_iconst (v := 1) dL_law_244 (by decide) ?_
  refine gl_iadd dL_law_245 ?_
  refine gl_sld (gl_in hi hL (k := 1) (by omega) rfl) dL_law_246 ?_
  refine gl_aload_n (i := 0) dL_law_247 rfl rfl ?_
  refine gl_iload_n (i := 3) dL_law_248 rfl rfl ?_
  refine gl_iconst (v := 2) dL_law_249 (by decide) ?_
  refine gl_iadd dL_law_250 ?_
  refine gl_sld (gl_in hi hL (k := 2) (by omega) rfl) dL_law_251 ?_
  refine gl_callC (As := [.int (xs (nI i + 1).toNatClampNeg), .int (xs (nI i + 2).toNatClampNeg)]) (rest := []) (gc_X5_head (o_head R)) mX5_head lmL_28 rfl rfl ⟨Nat.le_of_ble_eq_true rfl, Nat.le_of_ble_eq_true rfl⟩ (Nat.le_of_ble_eq_true rfl) dL_law_252 (fun r1 h1 w1 => ?_)
  refine gl_aload_n (i := 2) dL_law_255 rfl rfl ?_
  refine gl_aload_n (i := 0) dL_law_256 rfl rfl ?_
  refine gl_iload_n (i := 3) dL_law_257 rfl rfl ?_
  refine gl_iconst (v := 1) dL_law_258 (by decide) ?_
  refine gl_iadd dL_law_259 ?_
  refine gl_sld (gl_in hi hL (k := 1) (by omega) rfl) dL_law_260 ?_
  refine gl_aload_n (i := 0) dL_law_261 rfl rfl ?_
  refine gl_iload_n (i := 3) dL_law_262 rfl rfl ?_
  refine gl_iconst (v := 2) dL_law_263 (by decide) ?_
  refine gl_iadd dL_law_264 ?_
  refine gl_sld (gl_in hi hL (k := 2) (by omega) rfl) dL_law_265 ?_
  refine gl_callM (As := [.int (xs (nI i + 1).toNatClampNeg), .int (xs (nI i + 2).toNatClampNeg)]) (rest := [.int r1]) (gc_X6_head w1) mX6_head lmL_31 rfl rfl ⟨Nat.le_of_ble_eq_true rfl, Nat.le_of_ble_eq_true rfl⟩ (Nat.le_of_ble_eq_true rfl) dL_law_266 (fun r2 h2 w2 => ?_)
  exact gl_icmp_eq (tgt := 1005) dL_law_269 (by decide) (fun _ => K h1 h2 w2.2) (fun c => absurd w2.1 c)
set_option maxRecDepth 100000 in
set_option maxHeartbeats 4000000 in
theorem gl_c4 (R : RR hC hM) (hi : i + 4 ≤ L) (hL : L ≤ 2048) (K : ∀ hC' hM', RR hC' hM' → gl_G l b L xs aC aM X hC' hM' 1005 (gl_ls b aC aM i) []) : gl_G l b L xs aC aM X hC hM 274 (gl_ls b aC aM i) [] := by
  refine gl_aload_n (i := 1) dL_law_274 rfl rfl ?_
  refine gl_aload_n (i := 0) dL_law_275 rfl rfl ?_
  refine gl_iload_n (i := 3) dL_law_276 rfl rfl ?_
  refine gl_iconst (v := 1) dL_law_277 (by decide) ?_
  refine gl_iadd dL_law_278 ?_
  refine gl_sld (gl_in hi hL (k := 1) (by omega) rfl) dL_law_279 ?_
  refine gl_callC (As := [.int (xs (nI i + 1).toNatClampNeg)]) (rest := []) (gc_X5_near (o_near R)) mX5_near lmL_32 rfl rfl ⟨Nat.le_of_ble_eq_true rfl, Nat.le_of_ble_eq_true rfl⟩ (Nat.le_of_ble_eq_true rfl) dL_law_280 (fun r1 h1 w1 => ?_)
  refine gl_aload_n (i := 2) dL_law_283 rfl rfl ?_
  refine gl_aload_n (i := 0) dL_law_284 rfl rfl ?_
  refine gl_iload_n (i := 3) dL_law_285 rfl rfl ?_
  refine gl_iconst (v := 1) dL_law_286 (by decide) ?_
  refine gl_iadd dL_law_287 ?_
  refine gl_sld (gl_in hi hL (k := 1) (by omega) rfl) dL_law_288 ?_
  refine gl_callM (As := [.int (xs (nI i + 1).toNatClampNeg)]) (rest := [.int r1]) (gc_X6_near w1) mX6_near lmL_35 rfl rfl ⟨Nat.le_of_ble_eq_true rfl, Nat.le_of_ble_eq_true rfl⟩ (Nat.le_of_ble_eq_true rfl) dL_law_289 (fun r2 h2 w2 => ?_)
  exact gl_icmp_eq (tgt := 1005) dL_law_292 (by decide) (fun _ => K h1 h2 w2.2) (fun c => absurd w2.1 c)
set_option maxRecDepth 100000 in
set_option maxHeartbeats 4000000 in
theorem gl_c5 (R : RR hC hM) (hi : i + 4 ≤ L) (hL : L ≤ 2048) (K : ∀ hC' hM', RR hC' hM' → gl_G l b L xs aC aM X hC' hM' 1005 (gl_ls b aC aM i) []) : gl_G l b L xs aC aM X hC hM 297 (gl_ls b aC aM i) [] := by
  refine gl_aload_n (i := 1) dL_law_297 rfl rfl ?_
  refine gl_aload_n (i := 0) dL_law_298 rfl rfl ?_
  refine gl_iload_n (i := 3) dL_law_299 rfl rfl ?_
  refine gl_iconst (v := 1) dL_law_300 (by decide) ?_
  refine gl_iadd dL_law_301 ?_
  refine gl_sld (gl_in hi hL (k := 1) (by omega) rfl) dL_law_302 ?_
  refine gl_callC (As := [.int (xs (nI i + 1).toNatClampNeg)]) (rest := []) (gc_X5_door (o_door R)) mX5_door lmL_36 rfl rfl ⟨Nat.le_of_ble_eq_true rfl, Nat.le_of_ble_eq_true rfl⟩ (Nat.le_of_ble_eq_true rfl) dL_law_303 (fun r1 h1 w1 => ?_)
  refine gl_aload_n (i := 2) dL_law_306 rfl rfl ?_
  refine gl_aload_n (i := 0) dL_law_307 rfl rfl ?_
  refine gl_iload_n (i := 3) dL_law_308 rfl rfl ?_
  refine gl_iconst (v := 1) dL_law_309 (by decide) ?_
  refine gl_iadd dL_law_310 ?_
  refine gl_sld (gl_in hi hL (k := 1) (by omega) rfl) dL_law_311 ?_
  refine gl_callM (As := [.int (xs (nI i + 1).toNatClampNeg)]) (rest := [.int r1]) (gc_X6_door w1) mX6_door lmL_39 rfl rfl ⟨Nat.le_of_ble_eq_true rfl, Nat.le_of_ble_eq_true rfl⟩ (Nat.le_of_ble_eq_true rfl) dL_law_312 (fun r2 h2 w2 => ?_)
  exact gl_icmp_eq (tgt := 1005) dL_law_315 (by decide) (fun _ => K h1 h2 w2.2) (fun c => absurd w2.1 c)
set_option maxRecDepth 100000 in
set_option maxHeartbeats 4000000 in
theorem gl_c6 (R : RR hC hM) (hi : i + 4 ≤ L) (hL : L ≤ 2048) (K : ∀ hC' hM', RR hC' hM' → gl_G l b L xs aC aM X hC' hM' 1005 (gl_ls b aC aM i) []) : gl_G l b L xs aC aM X hC hM 320 (gl_ls b aC aM i) [] := by
  refine gl_aload_n (i := 1) dL_law_320 rfl rfl ?_
  refine gl_aload_n (i := 0) dL_law_321 rfl rfl ?_
  refine gl_iload_n (i := 3) dL_law_322 rfl rfl ?_
  refine gl_iconst (v := 1) dL_law_323 (by decide) ?_
  refine gl_iadd dL_law_324 ?_
  refine gl_sld (gl_in hi hL (k := 1) (by omega) rfl) dL_law_325 ?_
  refine gl_aload_n (i := 0) dL_law_326 rfl rfl ?_
  refine gl_iload_n (i := 3) dL_law_327 rfl rfl ?_
  refine gl_iconst (v := 2) dL_law_328 (by decide) ?_
  refine gl_iadd dL_law_329 ?_
  refine gl_sld (gl_in hi hL (k := 2) (by omega) rfl) dL_law_330 ?_
  refine gl_callC (As := [.int (xs (nI i + 1).toNatClampNeg), .int (xs (nI i + 2).toNatClampNeg)]) (rest := []) (gc_X5_go (o_go R)) mX5_go lmL_40 rfl rfl ⟨Nat.le_of_ble_eq_true rfl, Nat.le_of_ble_eq_true rfl⟩ (Nat.le_of_ble_eq_true rfl) dL_law_331 (fun r1 h1 w1 => ?_)
  refine gl_aload_n (i := 2) dL_law_334 rfl rfl ?_
  refine gl_aload_n (i := 0) dL_law_335 rfl rfl ?_
  refine gl_iload_n (i := 3) dL_law_336 rfl rfl ?_
  refine gl_iconst (v := 1) dL_law_337 (by decide) ?_
  refine gl_iadd dL_law_338 ?_
  refine gl_sld (gl_in hi hL (k := 1) (by omega) rfl) dL_law_339 ?_
  refine gl_aload_n (i := 0) dL_law_340 rfl rfl ?_
  refine gl_iload_n (i := 3) dL_law_341 rfl rfl ?_
  refine gl_iconst (v := 2) dL_law_342 (by decide) ?_
  refine gl_iadd dL_law_343 ?_
  refine gl_sld (gl_in hi hL (k := 2) (by omega) rfl) dL_law_344 ?_
  refine gl_callM (As := [.int (xs (nI i + 1).toNatClampNeg), .int (xs (nI i + 2).toNatClampNeg)]) (rest := [.int r1]) (gc_X6_go w1) mX6_go lmL_43 rfl rfl ⟨Nat.le_of_ble_eq_true rfl, Nat.le_of_ble_eq_true rfl⟩ (Nat.le_of_ble_eq_true rfl) dL_law_345 (fun r2 h2 w2 => ?_)
  exact gl_icmp_eq (tgt := 1005) dL_law_348 (by decide) (fun _ => K h1 h2 w2.2) (fun c => absurd w2.1 c)
set_option maxRecDepth 100000 in
set_option maxHeartbeats 4000000 in
theorem gl_c7 (R : RR hC hM) (hi : i + 4 ≤ L) (hL : L ≤ 2048) (K : ∀ hC' hM', RR hC' hM' → gl_G l b L xs aC aM X hC' hM' 1005 (gl_ls b aC aM i) []) : gl_G l b L xs aC aM X hC hM 353 (gl_ls b aC aM i) [] := by
  refine gl_aload_n (i := 1) dL_law_353 rfl rfl ?_
  refine gl_aload_n (i := 0) dL_law_354 rfl rfl ?_
  refine gl_iload_n (i := 3) dL_law_355 rfl rfl ?_
  refine gl_iconst (v := 1) dL_law_356 (by decide) ?_
  refine gl_iadd dL_law_357 ?_
  refine gl_sld (gl_in hi hL (k := 1) (by omega) rfl) dL_law_358 ?_
  refine gl_aload_n (i := 0) dL_law_359 rfl rfl ?_
  refine gl_iload_n (i := 3) dL_law_360 rfl rfl ?_
  refine gl_iconst (v := 2) dL_law_361 (by decide) ?_
  refine gl_iadd dL_law_362 ?_
  refine gl_sld (gl_in hi hL (k := 2) (by omega) rfl) dL_law_363 ?_
  refine gl_callC (As := [.int (xs (nI i + 1).toNatClampNeg), .int (xs (nI i + 2).toNatClampNeg)]) (rest := []) (gc_X5_get (o_get R)) mX5_get lmL_44 rfl rfl ⟨Nat.le_of_ble_eq_true rfl, Nat.le_of_ble_eq_true rfl⟩ (Nat.le_of_ble_eq_true rfl) dL_law_364 (fun r1 h1 w1 => ?_)
  refine gl_aload_n (i := 2) dL_law_367 rfl rfl ?_
  refine gl_aload_n (i := 0) dL_law_368 rfl rfl ?_
  refine gl_iload_n (i := 3) dL_law_369 rfl rfl ?_
  refine gl_iconst (v := 1) dL_law_370 (by decide) ?_
  refine gl_iadd dL_law_371 ?_
  refine gl_sld (gl_in hi hL (k := 1) (by omega) rfl) dL_law_372 ?_
  refine gl_aload_n (i := 0) dL_law_373 rfl rfl ?_
  refine gl_iload_n (i := 3) dL_law_374 rfl rfl ?_
  refine gl_iconst (v := 2) dL_law_375 (by decide) ?_
  refine gl_iadd dL_law_376 ?_
  refine gl_sld (gl_in hi hL (k := 2) (by omega) rfl) dL_law_377 ?_
  refine gl_callM (As := [.int (xs (nI i + 1).toNatClampNeg), .int (xs (nI i + 2).toNatClampNeg)]) (rest := [.int r1]) (gc_X6_get w1) mX6_get lmL_47 rfl rfl ⟨Nat.le_of_ble_eq_true rfl, Nat.le_of_ble_eq_true rfl⟩ (Nat.le_of_ble_eq_true rfl) dL_law_378 (fun r2 h2 w2 => ?_)
  exact gl_icmp_eq (tgt := 1005) dL_law_381 (by decide) (fun _ => K h1 h2 w2.2) (fun c => absurd w2.1 c)
set_option maxRecDepth 100000 in
set_option maxHeartbeats 4000000 in
theorem gl_c8 (R : RR hC hM) (hi : i + 4 ≤ L) (hL : L ≤ 2048) (K : ∀ hC' hM', RR hC' hM' → gl_G l b L xs aC aM X hC' hM' 1005 (gl_ls b aC aM i) []) : gl_G l b L xs aC aM X hC hM 386 (gl_ls b aC aM i) [] := by
  refine gl_aload_n (i := 1) dL_law_386 rfl rfl ?_
  refine gl_aload_n (i := 0) dL_law_387 rfl rfl ?_
  refine gl_iload_n (i := 3) dL_law_388 rfl rfl ?_
  refine gl_iconst (v := 1) dL_law_389 (by decide) ?_
  refine gl_iadd dL_law_390 ?_
  refine gl_sld (gl_in hi hL (k := 1) (by omega) rfl) dL_law_391 ?_
  refine gl_aload_n (i := 0) dL_law_392 rfl rfl ?_
  refine gl_iload_n (i := 3) dL_law_393 rfl rfl ?_
  refine gl_iconst (v := 2) dL_law_394 (by decide) ?_
  refine gl_iadd dL_law_395 ?_
  refine gl_sld (gl_in hi hL (k := 2) (by omega) rfl) dL_law_396 ?_
  refine gl_callC (As := [.int (xs (nI i + 1).toNatClampNeg), .int (xs (nI i + 2).toNatClampNeg)]) (rest := []) (gc_X5_remedy (o_remedy R)) mX5_remedy lmL_48 rfl rfl ⟨Nat.le_of_ble_eq_true rfl, Nat.le_of_ble_eq_true rfl⟩ (Nat.le_of_ble_eq_true rfl) dL_law_397 (fun r1 h1 w1 => ?_)
  refine gl_aload_n (i := 2) dL_law_400 rfl rfl ?_
  refine gl_aload_n (i := 0) dL_law_401 rfl rfl ?_
  refine gl_iload_n (i := 3) dL_law_402 rfl rfl ?_
  refine gl_iconst (v := 1) dL_law_403 (by decide) ?_
  refine gl_iadd dL_law_404 ?_
  refine gl_sld (gl_in hi hL (k := 1) (by omega) rfl) dL_law_405 ?_
  refine gl_aload_n (i := 0) dL_law_406 rfl rfl ?_
  refine gl_iload_n (i := 3) dL_law_407 rfl rfl ?_
  refine gl_iconst (v := 2) dL_law_408 (by decide) ?_
  refine gl_iadd dL_law_409 ?_
  refine gl_sld (gl_in hi hL (k := 2) (by omega) rfl) dL_law_410 ?_
  refine gl_callM (As := [.int (xs (nI i + 1).toNatClampNeg), .int (xs (nI i + 2).toNatClampNeg)]) (rest := [.int r1]) (gc_X6_remedy w1) mX6_remedy lmL_51 rfl rfl ⟨Nat.le_of_ble_eq_true rfl, Nat.le_of_ble_eq_true rfl⟩ (Nat.le_of_ble_eq_true rfl) dL_law_411 (fun r2 h2 w2 => ?_)
  exact gl_icmp_eq (tgt := 1005) dL_law_414 (by decide) (fun _ => K h1 h2 w2.2) (fun c => absurd w2.1 c)
set_option maxRecDepth 100000 in
set_option maxHeartbeats 4000000 in
theorem gl_c9 (R : RR hC hM) (hi : i + 4 ≤ L) (hL : L ≤ 2048) (K : ∀ hC' hM', RR hC' hM' → gl_G l b L xs aC aM X hC' hM' 1005 (gl_ls b aC aM i) []) : gl_G l b L xs aC aM X hC hM 419 (gl_ls b aC aM i) [] := by
  refine gl_aload_n (i := 1) dL_law_419 rfl rfl ?_
  refine gl_aload_n (i := 0) dL_law_420 rfl rfl ?_
  refine gl_iload_n (i := 3) dL_law_421 rfl rfl ?_
  refine gl_iconst (v := 1) dL_law_422 (by decide) ?_
  refine gl_iadd dL_law_423 ?_
  refine gl_sld (gl_in hi hL (k := 1) (by omega) rfl) dL_law_424 ?_
  refine gl_callC (As := [.int (xs (nI i + 1).toNatClampNeg)]) (rest := []) (gc_X5_loud (o_loud R)) mX5_loud lmL_52 rfl rfl ⟨Nat.le_of_ble_eq_true rfl, Nat.le_of_ble_eq_true rfl⟩ (Nat.le_of_ble_eq_true rfl) dL_law_425 (fun r1 h1 w1 => ?_)
  refine gl_aload_n (i := 2) dL_law_428 rfl rfl ?_
  refine gl_aload_n (i := 0) dL_law_429 rfl rfl ?_
  refine gl_iload_n (i := 3) dL_law_430 rfl rfl ?_
  refine gl_iconst (v := 1) dL_law_431 (by decide) ?_
  refine gl_iadd dL_law_432 ?_
  refine gl_sld (gl_in hi hL (k := 1) (by omega) rfl) dL_law_433 ?_
  refine gl_callM (As := [.int (xs (nI i + 1).toNatClampNeg)]) (rest := [.int r1]) (gc_X6_loud w1) mX6_loud lmL_55 rfl rfl ⟨Nat.le_of_ble_eq_true rfl, Nat.le_of_ble_eq_true rfl⟩ (Nat.le_of_ble_eq_true rfl) dL_law_434 (fun r2 h2 w2 => ?_)
  exact gl_icmp_eq (tgt := 1005) dL_law_437 (by decide) (fun _ => K h1 h2 w2.2) (fun c => absurd w2.1 c)
set_option maxRecDepth 100000 in
set_option maxHeartbeats 4000000 in
theorem gl_c10 (R : RR hC hM) (hi : i + 4 ≤ L) (hL : L ≤ 2048) (K : ∀ hC' hM', RR hC' hM' → gl_G l b L xs aC aM X hC' hM' 1005 (gl_ls b aC aM i) []) : gl_G l b L xs aC aM X hC hM 442 (gl_ls b aC aM i) [] := by
  refine gl_aload_n (i := 1) dL_law_442 rfl rfl ?_
  refine gl_callC (As := []) (rest := []) (gc_X5_hour (o_hour R)) mX5_hour lmL_56 rfl rfl ⟨Nat.le_of_ble_eq_true rfl, Nat.le_of_ble_eq_true rfl⟩ (Nat.le_of_ble_eq_true rfl) dL_law_443 (fun r1 h1 w1 => ?_)
  refine gl_aload_n (i := 2) dL_law_446 rfl rfl ?_
  refine gl_callM (As := []) (rest := [.int r1]) (gc_X6_hour w1) mX6_hour lmL_59 rfl rfl ⟨Nat.le_of_ble_eq_true rfl, Nat.le_of_ble_eq_true rfl⟩ (Nat.le_of_ble_eq_true rfl) dL_law_447 (fun r2 h2 w2 => ?_)
  exact gl_icmp_eq (tgt := 1005) dL_law_450 (by decide) (fun _ => K h1 h2 w2.2) (fun c => absurd w2.1 c)
set_option maxRecDepth 100000 in
set_option maxHeartbeats 4000000 in
theorem gl_c11 (R : RR hC hM) (hi : i + 4 ≤ L) (hL : L ≤ 2048) (K : ∀ hC' hM', RR hC' hM' → gl_G l b L xs aC aM X hC' hM' 1005 (gl_ls b aC aM i) []) : gl_G l b L xs aC aM X hC hM 455 (gl_ls b aC aM i) [] := by
  refine gl_aload_n (i := 1) dL_law_455 rfl rfl ?_
  refine gl_aload_n (i := 0) dL_law_456 rfl rfl ?_
  refine gl_iload_n (i := 3) dL_law_457 rfl rfl ?_
  refine gl_iconst (v := 1) dL_law_458 (by decide) ?_
  refine gl_iadd dL_law_459 ?_
  refine gl_sld (gl_in hi hL (k := 1) (by omega) rfl) dL_law_460 ?_
  refine gl_aload_n (i := 0) dL_law_461 rfl rfl ?_
  refine gl_iload_n (i := 3) dL_law_462 rfl rfl ?_
  refine gl_iconst (v := 2) dL_law_463 (by decide) ?_
  refine gl_iadd dL_law_464 ?_
  refine gl_sld (gl_in hi hL (k := 2) (by omega) rfl) dL_law_465 ?_
  refine gl_aload_n (i := 0) dL_law_466 rfl rfl ?_
  refine gl_iload_n (i := 3) dL_law_467 rfl rfl ?_
  refine gl_iconst (v := 3) dL_law_468 (by decide) ?_
  refine gl_iadd dL_law_469 ?_
  refine gl_sld (gl_in hi hL (k := 3) (by omega) rfl) dL_law_470 ?_
  refine gl_callC (As := [.int (xs (nI i + 1).toNatClampNeg), .int (xs (nI i + 2).toNatClampNeg), .int (xs (nI i + 3).toNatClampNeg)]) (rest := []) (gc_X5_hold (o_hold R)) mX5_hold lmL_60 rfl rfl ⟨Nat.le_of_ble_eq_true rfl, Nat.le_of_ble_eq_true rfl⟩ (Nat.le_of_ble_eq_true rfl) dL_law_471 (fun r1 h1 w1 => ?_)
  refine gl_aload_n (i := 2) dL_law_474 rfl rfl ?_
  refine gl_aload_n (i := 0) dL_law_475 rfl rfl ?_
  refine gl_iload_n (i := 3) dL_law_476 rfl rfl ?_
  refine gl_iconst (v := 1) dL_law_477 (by decide) ?_
  refine gl_iadd dL_law_478 ?_
  refine gl_sld (gl_in hi hL (k := 1) (by omega) rfl) dL_law_479 ?_
  refine gl_aload_n (i := 0) dL_law_480 rfl rfl ?_
  refine gl_iload_n (i := 3) dL_law_481 rfl rfl ?_
  refine gl_iconst (v := 2) dL_law_482 (by decide) ?_
  refine gl_iadd dL_law_483 ?_
  refine gl_sld (gl_in hi hL (k := 2) (by omega) rfl) dL_law_484 ?_
  refine gl_aload_n (i := 0) dL_law_485 rfl rfl ?_
  refine gl_iload_n (i := 3) dL_law_486 rfl rfl ?_
  refine gl_iconst (v := 3) dL_law_487 (by decide) ?_
  refine gl_iadd dL_law_488 ?_
  refine gl_sld (gl_in hi hL (k := 3) (by omega) rfl) dL_law_489 ?_
  refine gl_callM (As := [.int (xs (nI i + 1).toNatClampNeg), .int (xs (nI i + 2).toNatClampNeg), .int (xs (nI i + 3).toNatClampNeg)]) (rest := [.int r1]) (gc_X6_hold w1) mX6_hold lmL_64 rfl rfl ⟨Nat.le_of_ble_eq_true rfl, Nat.le_of_ble_eq_true rfl⟩ (Nat.le_of_ble_eq_true rfl) dL_law_490 (fun r2 h2 w2 => ?_)
  exact gl_icmp_eq (tgt := 1005) dL_law_493 (by decide) (fun _ => K h1 h2 w2.2) (fun c => absurd w2.1 c)
set_option maxRecDepth 100000 in
set_option maxHeartbeats 4000000 in
theorem gl_c12 (R : RR hC hM) (hi : i + 4 ≤ L) (hL : L ≤ 2048) (K : ∀ hC' hM', RR hC' hM' → gl_G l b L xs aC aM X hC' hM' 1005 (gl_ls b aC aM i) []) : gl_G l b L xs aC aM X hC hM 498 (gl_ls b aC aM i) [] := by
  refine gl_aload_n (i := 1) dL_law_498 rfl rfl ?_
  refine gl_aload_n (i := 0) dL_law_499 rfl rfl ?_
  refine gl_iload_n (i := 3) dL_law_500 rfl rfl ?_
  refine gl_iconst (v := 1) dL_law_501 (by decide) ?_
  refine gl_iadd dL_law_502 ?_
  refine gl_sld (gl_in hi hL (k := 1) (by omega) rfl) dL_law_503 ?_
  refine gl_aload_n (i := 0) dL_law_504 rfl rfl ?_
  refine gl_iload_n (i := 3) dL_law_505 rfl rfl ?_
  refine gl_iconst (v := 2) dL_law_506 (by decide) ?_
  refine gl_iadd dL_law_507 ?_
  refine gl_sld (gl_in hi hL (k := 2) (by omega) rfl) dL_law_508 ?_
  refine gl_callC (As := [.int (xs (nI i + 1).toNatClampNeg), .int (xs (nI i + 2).toNatClampNeg)]) (rest := []) (gc_X5_have (o_have R)) mX5_have lmL_65 rfl rfl ⟨Nat.le_of_ble_eq_true rfl, Nat.le_of_ble_eq_true rfl⟩ (Nat.le_of_ble_eq_true rfl) dL_law_509 (fun r1 h1 w1 => ?_)
  refine gl_aload_n (i := 2) dL_law_512 rfl rfl ?_
  refine gl_aload_n (i := 0) dL_law_513 rfl rfl ?_
  refine gl_iload_n (i := 3) dL_law_514 rfl rfl ?_
  refine gl_iconst (v := 1) dL_law_515 (by decide) ?_
  refine gl_iadd dL_law_516 ?_
  refine gl_sld (gl_in hi hL (k := 1) (by omega) rfl) dL_law_517 ?_
  refine gl_aload_n (i := 0) dL_law_518 rfl rfl ?_
  refine gl_iload_n (i := 3) dL_law_519 rfl rfl ?_
  refine gl_iconst (v := 2) dL_law_520 (by decide) ?_
  refine gl_iadd dL_law_521 ?_
  refine gl_sld (gl_in hi hL (k := 2) (by omega) rfl) dL_law_522 ?_
  refine gl_callM (As := [.int (xs (nI i + 1).toNatClampNeg), .int (xs (nI i + 2).toNatClampNeg)]) (rest := [.int r1]) (gc_X6_have w1) mX6_have lmL_68 rfl rfl ⟨Nat.le_of_ble_eq_true rfl, Nat.le_of_ble_eq_true rfl⟩ (Nat.le_of_ble_eq_true rfl) dL_law_523 (fun r2 h2 w2 => ?_)
  exact gl_icmp_eq (tgt := 1005) dL_law_526 (by decide) (fun _ => K h1 h2 w2.2) (fun c => absurd w2.1 c)
set_option maxRecDepth 100000 in
set_option maxHeartbeats 4000000 in
theorem gl_c13 (R : RR hC hM) (hi : i + 4 ≤ L) (hL : L ≤ 2048) (K : ∀ hC' hM', RR hC' hM' → gl_G l b L xs aC aM X hC' hM' 1005 (gl_ls b aC aM i) []) : gl_G l b L xs aC aM X hC hM 531 (gl_ls b aC aM i) [] := by
  refine gl_aload_n (i := 1) dL_law_531 rfl rfl ?_
  refine gl_aload_n (i := 0) dL_law_532 rfl rfl ?_
  refine gl_iload_n (i := 3) dL_law_533 rfl rfl ?_
  refine gl_iconst (v := 1) dL_law_534 (by decide) ?_
  refine gl_iadd dL_law_535 ?_
  refine gl_sld (gl_in hi hL (k := 1) (by omega) rfl) dL_law_536 ?_
  refine gl_aload_n (i := 0) dL_law_537 rfl rfl ?_
  refine gl_iload_n (i := 3) dL_law_538 rfl rfl ?_
  refine gl_iconst (v := 2) dL_law_539 (by decide) ?_
  refine gl_iadd dL_law_540 ?_
  refine gl_sld (gl_in hi hL (k := 2) (by omega) rfl) dL_law_541 ?_
  refine gl_callC (As := [.int (xs (nI i + 1).toNatClampNeg), .int (xs (nI i + 2).toNatClampNeg)]) (rest := []) (gc_X5_takes (o_takes R)) mX5_takes lmL_69 rfl rfl ⟨Nat.le_of_ble_eq_true rfl, Nat.le_of_ble_eq_true rfl⟩ (Nat.le_of_ble_eq_true rfl) dL_law_542 (fun r1 h1 w1 => ?_)
  refine gl_aload_n (i := 2) dL_law_545 rfl rfl ?_
  refine gl_aload_n (i := 0) dL_law_546 rfl rfl ?_
  refine gl_iload_n (i := 3) dL_law_547 rfl rfl ?_
  refine gl_iconst (v := 1) dL_law_548 (by decide) ?_
  refine gl_iadd dL_law_549 ?_
  refine gl_sld (gl_in hi hL (k := 1) (by omega) rfl) dL_law_550 ?_
  refine gl_aload_n (i := 0) dL_law_551 rfl rfl ?_
  refine gl_iload_n (i := 3) dL_law_552 rfl rfl ?_
  refine gl_iconst (v := 2) dL_law_553 (by decide) ?_
  refine gl_iadd dL_law_554 ?_
  refine gl_sld (gl_in hi hL (k := 2) (by omega) rfl) dL_law_555 ?_
  refine gl_callM (As := [.int (xs (nI i + 1).toNatClampNeg), .int (xs (nI i + 2).toNatClampNeg)]) (rest := [.int r1]) (gc_X6_takes_ w1) mX6_takes_ lmL_72 rfl rfl ⟨Nat.le_of_ble_eq_true rfl, Nat.le_of_ble_eq_true rfl⟩ (Nat.le_of_ble_eq_true rfl) dL_law_556 (fun r2 h2 w2 => ?_)
  exact gl_icmp_eq (tgt := 1005) dL_law_559 (by decide) (fun _ => K h1 h2 w2.2) (fun c => absurd w2.1 c)
set_option maxRecDepth 100000 in
set_option maxHeartbeats 4000000 in
theorem gl_c14 (R : RR hC hM) (hi : i + 4 ≤ L) (hL : L ≤ 2048) (K : ∀ hC' hM', RR hC' hM' → gl_G l b L xs aC aM X hC' hM' 1005 (gl_ls b aC aM i) []) : gl_G l b L xs aC aM X hC hM 564 (gl_ls b aC aM i) [] := by
  refine gl_aload_n (i := 1) dL_law_564 rfl rfl ?_
  refine gl_callC (As := []) (rest := []) (gc_X5_still (o_still R)) mX5_still lmL_73 rfl rfl ⟨Nat.le_of_ble_eq_true rfl, Nat.le_of_ble_eq_true rfl⟩ (Nat.le_of_ble_eq_true rfl) dL_law_565 (fun r1 h1 w1 => ?_)
  refine gl_aload_n (i := 2) dL_law_568 rfl rfl ?_
  refine gl_callM (As := []) (rest := [.int r1]) (gc_X6_still w1) mX6_still lmL_76 rfl rfl ⟨Nat.le_of_ble_eq_true rfl, Nat.le_of_ble_eq_true rfl⟩ (Nat.le_of_ble_eq_true rfl) dL_law_569 (fun r2 h2 w2 => ?_)
  exact gl_icmp_eq (tgt := 1005) dL_law_572 (by decide) (fun _ => K h1 h2 w2.2) (fun c => absurd w2.1 c)
set_option maxRecDepth 100000 in
set_option maxHeartbeats 4000000 in
theorem gl_c15 (R : RR hC hM) (hi : i + 4 ≤ L) (hL : L ≤ 2048) (K : ∀ hC' hM', RR hC' hM' → gl_G l b L xs aC aM X hC' hM' 1005 (gl_ls b aC aM i) []) : gl_G l b L xs aC aM X hC hM 577 (gl_ls b aC aM i) [] := by
  refine gl_aload_n (i := 1) dL_law_577 rfl rfl ?_
  refine gl_aload_n (i := 0) dL_law_578 rfl rfl ?_
  refine gl_iload_n (i := 3) dL_law_579 rfl rfl ?_
  refine gl_iconst (v := 1) dL_law_580 (by decide) ?_
  refine gl_iadd dL_law_581 ?_
  refine gl_sld (gl_in hi hL (k := 1) (by omega) rfl) dL_law_582 ?_
  refine gl_aload_n (i := 0) dL_law_583 rfl rfl ?_
  refine gl_iload_n (i := 3) dL_law_584 rfl rfl ?_
  refine gl_iconst (v := 2) dL_law_585 (by decide) ?_
  refine gl_iadd dL_law_586 ?_
  refine gl_sld (gl_in hi hL (k := 2) (by omega) rfl) dL_law_587 ?_
  refine gl_aload_n (i := 0) dL_law_588 rfl rfl ?_
  refine gl_iload_n (i := 3) dL_law_589 rfl rfl ?_
  refine gl_iconst (v := 3) dL_law_590 (by decide) ?_
  refine gl_iadd dL_law_591 ?_
  refine gl_sld (gl_in hi hL (k := 3) (by omega) rfl) dL_law_592 ?_
  refine gl_callC (As := [.int (xs (nI i + 1).toNatClampNeg), .int (xs (nI i + 2).toNatClampNeg), .int (xs (nI i + 3).toNatClampNeg)]) (rest := []) (gc_X5_most (o_most R)) mX5_most lmL_77 rfl rfl ⟨Nat.le_of_ble_eq_true rfl, Nat.le_of_ble_eq_true rfl⟩ (Nat.le_of_ble_eq_true rfl) dL_law_593 (fun r1 h1 w1 => ?_)
  refine gl_aload_n (i := 2) dL_law_596 rfl rfl ?_
  refine gl_aload_n (i := 0) dL_law_597 rfl rfl ?_
  refine gl_iload_n (i := 3) dL_law_598 rfl rfl ?_
  refine gl_iconst (v := 1) dL_law_599 (by decide) ?_
  refine gl_iadd dL_law_600 ?_
  refine gl_sld (gl_in hi hL (k := 1) (by omega) rfl) dL_law_601 ?_
  refine gl_aload_n (i := 0) dL_law_602 rfl rfl ?_
  refine gl_iload_n (i := 3) dL_law_603 rfl rfl ?_
  refine gl_iconst (v := 2) dL_law_604 (by decide) ?_
  refine gl_iadd dL_law_605 ?_
  refine gl_sld (gl_in hi hL (k := 2) (by omega) rfl) dL_law_606 ?_
  refine gl_aload_n (i := 0) dL_law_607 rfl rfl ?_
  refine gl_iload_n (i := 3) dL_law_608 rfl rfl ?_
  refine gl_iconst (v := 3) dL_law_609 (by decide) ?_
  refine gl_iadd dL_law_610 ?_
  refine gl_sld (gl_in hi hL (k := 3) (by omega) rfl) dL_law_611 ?_
  refine gl_callM (As := [.int (xs (nI i + 1).toNatClampNeg), .int (xs (nI i + 2).toNatClampNeg), .int (xs (nI i + 3).toNatClampNeg)]) (rest := [.int r1]) (gc_X6_most w1) mX6_most lmL_80 rfl rfl ⟨Nat.le_of_ble_eq_true rfl, Nat.le_of_ble_eq_true rfl⟩ (Nat.le_of_ble_eq_true rfl) dL_law_612 (fun r2 h2 w2 => ?_)
  exact gl_icmp_eq (tgt := 1005) dL_law_615 (by decide) (fun _ => K h1 h2 w2.2) (fun c => absurd w2.1 c)
set_option maxRecDepth 100000 in
set_option maxHeartbeats 4000000 in
theorem gl_c16 (R : RR hC hM) (hi : i + 4 ≤ L) (hL : L ≤ 2048) (K : ∀ hC' hM', RR hC' hM' → gl_G l b L xs aC aM X hC' hM' 1005 (gl_ls b aC aM i) []) : gl_G l b L xs aC aM X hC hM 620 (gl_ls b aC aM i) [] := by
  refine gl_aload_n (i := 1) dL_law_620 rfl rfl ?_
  refine gl_aload_n (i := 0) dL_law_621 rfl rfl ?_
  refine gl_iload_n (i := 3) dL_law_622 rfl rfl ?_
  refine gl_iconst (v := 1) dL_law_623 (by decide) ?_
  refine gl_iadd dL_law_624 ?_
  refine gl_sld (gl_in hi hL (k := 1) (by omega) rfl) dL_law_625 ?_
  refine gl_callC (As := [.int (xs (nI i + 1).toNatClampNeg)]) (rest := []) (gc_X5_lasts (o_lasts R)) mX5_lasts lmL_81 rfl rfl ⟨Nat.le_of_ble_eq_true rfl, Nat.le_of_ble_eq_true rfl⟩ (Nat.le_of_ble_eq_true rfl) dL_law_626 (fun r1 h1 w1 => ?_)
  refine gl_aload_n (i := 2) dL_law_629 rfl rfl ?_
  refine gl_aload_n (i := 0) dL_law_630 rfl rfl ?_
  refine gl_iload_n (i := 3) dL_law_631 rfl rfl ?_
  refine gl_iconst (v := 1) dL_law_632 (by decide) ?_
  refine gl_iadd dL_law_633 ?_
  refine gl_sld (gl_in hi hL (k := 1) (by omega) rfl) dL_law_634 ?_
  refine gl_callM (As := [.int (xs (nI i + 1).toNatClampNeg)]) (rest := [.int r1]) (gc_X6_lasts w1) mX6_lasts lmL_84 rfl rfl ⟨Nat.le_of_ble_eq_true rfl, Nat.le_of_ble_eq_true rfl⟩ (Nat.le_of_ble_eq_true rfl) dL_law_635 (fun r2 h2 w2 => ?_)
  exact gl_icmp_eq (tgt := 1005) dL_law_638 (by decide) (fun _ => K h1 h2 w2.2) (fun c => absurd w2.1 c)
set_option maxRecDepth 100000 in
set_option maxHeartbeats 4000000 in
theorem gl_c17 (R : RR hC hM) (hi : i + 4 ≤ L) (hL : L ≤ 2048) (K : ∀ hC' hM', RR hC' hM' → gl_G l b L xs aC aM X hC' hM' 1005 (gl_ls b aC aM i) []) : gl_G l b L xs aC aM X hC hM 643 (gl_ls b aC aM i) [] := by
  refine gl_aload_n (i := 1) dL_law_643 rfl rfl ?_
  refine gl_aload_n (i := 0) dL_law_644 rfl rfl ?_
  refine gl_iload_n (i := 3) dL_law_645 rfl rfl ?_
  refine gl_iconst (v := 1) dL_law_646 (by decide) ?_
  refine gl_iadd dL_law_647 ?_
  refine gl_sld (gl_in hi hL (k := 1) (by omega) rfl) dL_law_648 ?_
  refine gl_aload_n (i := 0) dL_law_649 rfl rfl ?_
  refine gl_iload_n (i := 3) dL_law_650 rfl rfl ?_
  refine gl_iconst (v := 2) dL_law_651 (by decide) ?_
  refine gl_iadd dL_law_652 ?_
  refine gl_sld (gl_in hi hL (k := 2) (by omega) rfl) dL_law_653 ?_
  refine gl_callC (As := [.int (xs (nI i + 1).toNatClampNeg), .int (xs (nI i + 2).toNatClampNeg)]) (rest := []) (gc_X5_from (o_from R)) mX5_from lmL_85 rfl rfl ⟨Nat.le_of_ble_eq_true rfl, Nat.le_of_ble_eq_true rfl⟩ (Nat.le_of_ble_eq_true rfl) dL_law_654 (fun r1 h1 w1 => ?_)
  refine gl_aload_n (i := 2) dL_law_657 rfl rfl ?_
  refine gl_aload_n (i := 0) dL_law_658 rfl rfl ?_
  refine gl_iload_n (i := 3) dL_law_659 rfl rfl ?_
  refine gl_iconst (v := 1) dL_law_660 (by decide) ?_
  refine gl_iadd dL_law_661 ?_
  refine gl_sld (gl_in hi hL (k := 1) (by omega) rfl) dL_law_662 ?_
  refine gl_aload_n (i := 0) dL_law_663 rfl rfl ?_
  refine gl_iload_n (i := 3) dL_law_664 rfl rfl ?_
  refine gl_iconst (v := 2) dL_law_665 (by decide) ?_
  refine gl_iadd dL_law_666 ?_
  refine gl_sld (gl_in hi hL (k := 2) (by omega) rfl) dL_law_667 ?_
  refine gl_callM (As := [.int (xs (nI i + 1).toNatClampNeg), .int (xs (nI i + 2).toNatClampNeg)]) (rest := [.int r1]) (gc_X6_from w1) mX6_from lmL_88 rfl rfl ⟨Nat.le_of_ble_eq_true rfl, Nat.le_of_ble_eq_true rfl⟩ (Nat.le_of_ble_eq_true rfl) dL_law_668 (fun r2 h2 w2 => ?_)
  exact gl_icmp_eq (tgt := 1005) dL_law_671 (by decide) (fun _ => K h1 h2 w2.2) (fun c => absurd w2.1 c)
set_option maxRecDepth 100000 in
set_option maxHeartbeats 4000000 in
theorem gl_c18 (R : RR hC hM) (hi : i + 4 ≤ L) (hL : L ≤ 2048) (K : ∀ hC' hM', RR hC' hM' → gl_G l b L xs aC aM X hC' hM' 1005 (gl_ls b aC aM i) []) : gl_G l b L xs aC aM X hC hM 676 (gl_ls b aC aM i) [] := by
  refine gl_aload_n (i := 1) dL_law_676 rfl rfl ?_
  refine gl_aload_n (i := 0) dL_law_677 rfl rfl ?_
  refine gl_iload_n (i := 3) dL_law_678 rfl rfl ?_
  refine gl_iconst (v := 1) dL_law_679 (by decide) ?_
  refine gl_iadd dL_law_680 ?_
  refine gl_sld (gl_in hi hL (k := 1) (by omega) rfl) dL_law_681 ?_
  refine gl_aload_n (i := 0) dL_law_682 rfl rfl ?_
  refine gl_iload_n (i := 3) dL_law_683 rfl rfl ?_
  refine gl_iconst (v := 2) dL_law_684 (by decide) ?_
  refine gl_iadd dL_law_685 ?_
  refine gl_sld (gl_in hi hL (k := 2) (by omega) rfl) dL_law_686 ?_
  refine gl_callC (As := [.int (xs (nI i + 1).toNatClampNeg), .int (xs (nI i + 2).toNatClampNeg)]) (rest := []) (gc_X5_first (o_first R)) mX5_first lmL_89 rfl rfl ⟨Nat.le_of_ble_eq_true rfl, Nat.le_of_ble_eq_true rfl⟩ (Nat.le_of_ble_eq_true rfl) dL_law_687 (fun r1 h1 w1 => ?_)
  refine gl_aload_n (i := 2) dL_law_690 rfl rfl ?_
  refine gl_aload_n (i := 0) dL_law_691 rfl rfl ?_
  refine gl_iload_n (i := 3) dL_law_692 rfl rfl ?_
  refine gl_iconst (v := 1) dL_law_693 (by decide) ?_
  refine gl_iadd dL_law_694 ?_
  refine gl_sld (gl_in hi hL (k := 1) (by omega) rfl) dL_law_695 ?_
  refine gl_aload_n (i := 0) dL_law_696 rfl rfl ?_
  refine gl_iload_n (i := 3) dL_law_697 rfl rfl ?_
  refine gl_iconst (v := 2) dL_law_698 (by decide) ?_
  refine gl_iadd dL_law_699 ?_
  refine gl_sld (gl_in hi hL (k := 2) (by omega) rfl) dL_law_700 ?_
  refine gl_callM (As := [.int (xs (nI i + 1).toNatClampNeg), .int (xs (nI i + 2).toNatClampNeg)]) (rest := [.int r1]) (gc_X6_first w1) mX6_first lmL_92 rfl rfl ⟨Nat.le_of_ble_eq_true rfl, Nat.le_of_ble_eq_true rfl⟩ (Nat.le_of_ble_eq_true rfl) dL_law_701 (fun r2 h2 w2 => ?_)
  exact gl_icmp_eq (tgt := 1005) dL_law_704 (by decide) (fun _ => K h1 h2 w2.2) (fun c => absurd w2.1 c)
set_option maxRecDepth 100000 in
set_option maxHeartbeats 4000000 in
theorem gl_c19 (R : RR hC hM) (hi : i + 4 ≤ L) (hL : L ≤ 2048) (K : ∀ hC' hM', RR hC' hM' → gl_G l b L xs aC aM X hC' hM' 1005 (gl_ls b aC aM i) []) : gl_G l b L xs aC aM X hC hM 709 (gl_ls b aC aM i) [] := by
  refine gl_aload_n (i := 1) dL_law_709 rfl rfl ?_
  refine gl_aload_n (i := 0) dL_law_710 rfl rfl ?_
  refine gl_iload_n (i := 3) dL_law_711 rfl rfl ?_
  refine gl_iconst (v := 1) dL_law_712 (by decide) ?_
  refine gl_iadd dL_law_713 ?_
  refine gl_sld (gl_in hi hL (k := 1) (by omega) rfl) dL_law_714 ?_
  refine gl_aload_n (i := 0) dL_law_715 rfl rfl ?_
  refine gl_iload_n (i := 3) dL_law_716 rfl rfl ?_
  refine gl_iconst (v := 2) dL_law_717 (by decide) ?_
  refine gl_iadd dL_law_718 ?_
  refine gl_sld (gl_in hi hL (k := 2) (by omega) rfl) dL_law_719 ?_
  refine gl_callC (As := [.int (xs (nI i + 1).toNatClampNeg), .int (xs (nI i + 2).toNatClampNeg)]) (rest := []) (gc_X5_rid (o_rid R)) mX5_rid lmL_93 rfl rfl ⟨Nat.le_of_ble_eq_true rfl, Nat.le_of_ble_eq_true rfl⟩ (Nat.le_of_ble_eq_true rfl) dL_law_720 (fun r1 h1 w1 => ?_)
  refine gl_aload_n (i := 2) dL_law_723 rfl rfl ?_
  refine gl_aload_n (i := 0) dL_law_724 rfl rfl ?_
  refine gl_iload_n (i := 3) dL_law_725 rfl rfl ?_
  refine gl_iconst (v := 1) dL_law_726 (by decide) ?_
  refine gl_iadd dL_law_727 ?_
  refine gl_sld (gl_in hi hL (k := 1) (by omega) rfl) dL_law_728 ?_
  refine gl_aload_n (i := 0) dL_law_729 rfl rfl ?_
  refine gl_iload_n (i := 3) dL_law_730 rfl rfl ?_
  refine gl_iconst (v := 2) dL_law_731 (by decide) ?_
  refine gl_iadd dL_law_732 ?_
  refine gl_sld (gl_in hi hL (k := 2) (by omega) rfl) dL_law_733 ?_
  refine gl_callM (As := [.int (xs (nI i + 1).toNatClampNeg), .int (xs (nI i + 2).toNatClampNeg)]) (rest := [.int r1]) (gc_X6_rid w1) mX6_rid lmL_96 rfl rfl ⟨Nat.le_of_ble_eq_true rfl, Nat.le_of_ble_eq_true rfl⟩ (Nat.le_of_ble_eq_true rfl) dL_law_734 (fun r2 h2 w2 => ?_)
  exact gl_icmp_eq (tgt := 1005) dL_law_737 (by decide) (fun _ => K h1 h2 w2.2) (fun c => absurd w2.1 c)
set_option maxRecDepth 100000 in
set_option maxHeartbeats 4000000 in
theorem gl_c20 (R : RR hC hM) (hi : i + 4 ≤ L) (hL : L ≤ 2048) (K : ∀ hC' hM', RR hC' hM' → gl_G l b L xs aC aM X hC' hM' 1005 (gl_ls b aC aM i) []) : gl_G l b L xs aC aM X hC hM 742 (gl_ls b aC aM i) [] := by
  refine gl_aload_n (i := 1) dL_law_742 rfl rfl ?_
  refine gl_aload_n (i := 0) dL_law_743 rfl rfl ?_
  refine gl_iload_n (i := 3) dL_law_744 rfl rfl ?_
  refine gl_iconst (v := 1) dL_law_745 (by decide) ?_
  refine gl_iadd dL_law_746 ?_
  refine gl_sld (gl_in hi hL (k := 1) (by omega) rfl) dL_law_747 ?_
  refine gl_callC (As := [.int (xs (nI i + 1).toNatClampNeg)]) (rest := []) (gc_X5_instead (o_instead R)) mX5_instead lmL_97 rfl rfl ⟨Nat.le_of_ble_eq_true rfl, Nat.le_of_ble_eq_true rfl⟩ (Nat.le_of_ble_eq_true rfl) dL_law_748 (fun r1 h1 w1 => ?_)
  refine gl_aload_n (i := 2) dL_law_751 rfl rfl ?_
  refine gl_aload_n (i := 0) dL_law_752 rfl rfl ?_
  refine gl_iload_n (i := 3) dL_law_753 rfl rfl ?_
  refine gl_iconst (v := 1) dL_law_754 (by decide) ?_
  refine gl_iadd dL_law_755 ?_
  refine gl_sld (gl_in hi hL (k := 1) (by omega) rfl) dL_law_756 ?_
  refine gl_callM (As := [.int (xs (nI i + 1).toNatClampNeg)]) (rest := [.int r1]) (gc_X6_instead w1) mX6_instead lmL_100 rfl rfl ⟨Nat.le_of_ble_eq_true rfl, Nat.le_of_ble_eq_true rfl⟩ (Nat.le_of_ble_eq_true rfl) dL_law_757 (fun r2 h2 w2 => ?_)
  exact gl_icmp_eq (tgt := 1005) dL_law_760 (by decide) (fun _ => K h1 h2 w2.2) (fun c => absurd w2.1 c)
set_option maxRecDepth 100000 in
set_option maxHeartbeats 4000000 in
theorem gl_c21 (R : RR hC hM) (hi : i + 4 ≤ L) (hL : L ≤ 2048) (K : ∀ hC' hM', RR hC' hM' → gl_G l b L xs aC aM X hC' hM' 1005 (gl_ls b aC aM i) []) : gl_G l b L xs aC aM X hC hM 765 (gl_ls b aC aM i) [] := by
  refine gl_aload_n (i := 1) dL_law_765 rfl rfl ?_
  refine gl_aload_n (i := 0) dL_law_766 rfl rfl ?_
  refine gl_iload_n (i := 3) dL_law_767 rfl rfl ?_
  refine gl_iconst (v := 1) dL_law_768 (by decide) ?_
  refine gl_iadd dL_law_769 ?_
  refine gl_sld (gl_in hi hL (k := 1) (by omega) rfl) dL_law_770 ?_
  refine gl_callC (As := [.int (xs (nI i + 1).toNatClampNeg)]) (rest := []) (gc_X5_shut (o_shut R)) mX5_shut lmL_101 rfl rfl ⟨Nat.le_of_ble_eq_true rfl, Nat.le_of_ble_eq_true rfl⟩ (Nat.le_of_ble_eq_true rfl) dL_law_771 (fun r1 h1 w1 => ?_)
  refine gl_aload_n (i := 2) dL_law_774 rfl rfl ?_
  refine gl_aload_n (i := 0) dL_law_775 rfl rfl ?_
  refine gl_iload_n (i := 3) dL_law_776 rfl rfl ?_
  refine gl_iconst (v := 1) dL_law_777 (by decide) ?_
  refine gl_iadd dL_law_778 ?_
  refine gl_sld (gl_in hi hL (k := 1) (by omega) rfl) dL_law_779 ?_
  refine gl_callM (As := [.int (xs (nI i + 1).toNatClampNeg)]) (rest := [.int r1]) (gc_X6_shut w1) mX6_shut lmL_104 rfl rfl ⟨Nat.le_of_ble_eq_true rfl, Nat.le_of_ble_eq_true rfl⟩ (Nat.le_of_ble_eq_true rfl) dL_law_780 (fun r2 h2 w2 => ?_)
  exact gl_icmp_eq (tgt := 1005) dL_law_783 (by decide) (fun _ => K h1 h2 w2.2) (fun c => absurd w2.1 c)
set_option maxRecDepth 100000 in
set_option maxHeartbeats 4000000 in
theorem gl_c22 (R : RR hC hM) (hi : i + 4 ≤ L) (hL : L ≤ 2048) (K : ∀ hC' hM', RR hC' hM' → gl_G l b L xs aC aM X hC' hM' 1005 (gl_ls b aC aM i) []) : gl_G l b L xs aC aM X hC hM 788 (gl_ls b aC aM i) [] := by
  refine gl_aload_n (i := 1) dL_law_788 rfl rfl ?_
  refine gl_aload_n (i := 0) dL_law_789 rfl rfl ?_
  refine gl_iload_n (i := 3) dL_law_790 rfl rfl ?_
  refine gl_iconst (v := 1) dL_law_791 (by decide) ?_
  refine gl_iadd dL_law_792 ?_
  refine gl_sld (gl_in hi hL (k := 1) (by omega) rfl) dL_law_793 ?_
  refine gl_callC (As := [.int (xs (nI i + 1).toNatClampNeg)]) (rest := []) (gc_X5_seats (o_seats R)) mX5_seats lmL_105 rfl rfl ⟨Nat.le_of_ble_eq_true rfl, Nat.le_of_ble_eq_true rfl⟩ (Nat.le_of_ble_eq_true rfl) dL_law_794 (fun r1 h1 w1 => ?_)
  refine gl_aload_n (i := 2) dL_law_797 rfl rfl ?_
  refine gl_aload_n (i := 0) dL_law_798 rfl rfl ?_
  refine gl_iload_n (i := 3) dL_law_799 rfl rfl ?_
  refine gl_iconst (v := 1) dL_law_800 (by decide) ?_
  refine gl_iadd dL_law_801 ?_
  refine gl_sld (gl_in hi hL (k := 1) (by omega) rfl) dL_law_802 ?_
  refine gl_callM (As := [.int (xs (nI i + 1).toNatClampNeg)]) (rest := [.int r1]) (gc_X6_seats w1) mX6_seats lmL_108 rfl rfl ⟨Nat.le_of_ble_eq_true rfl, Nat.le_of_ble_eq_true rfl⟩ (Nat.le_of_ble_eq_true rfl) dL_law_803 (fun r2 h2 w2 => ?_)
  exact gl_icmp_eq (tgt := 1005) dL_law_806 (by decide) (fun _ => K h1 h2 w2.2) (fun c => absurd w2.1 c)
set_option maxRecDepth 100000 in
set_option maxHeartbeats 4000000 in
theorem gl_c23 (R : RR hC hM) (hi : i + 4 ≤ L) (hL : L ≤ 2048) (K : ∀ hC' hM', RR hC' hM' → gl_G l b L xs aC aM X hC' hM' 1005 (gl_ls b aC aM i) []) : gl_G l b L xs aC aM X hC hM 811 (gl_ls b aC aM i) [] := by
  refine gl_aload_n (i := 1) dL_law_811 rfl rfl ?_
  refine gl_aload_n (i := 0) dL_law_812 rfl rfl ?_
  refine gl_iload_n (i := 3) dL_law_813 rfl rfl ?_
  refine gl_iconst (v := 1) dL_law_814 (by decide) ?_
  refine gl_iadd dL_law_815 ?_
  refine gl_sld (gl_in hi hL (k := 1) (by omega) rfl) dL_law_816 ?_
  refine gl_aload_n (i := 0) dL_law_817 rfl rfl ?_
  refine gl_iload_n (i := 3) dL_law_818 rfl rfl ?_
  refine gl_iconst (v := 2) dL_law_819 (by decide) ?_
  refine gl_iadd dL_law_820 ?_
  refine gl_sld (gl_in hi hL (k := 2) (by omega) rfl) dL_law_821 ?_
  refine gl_aload_n (i := 0) dL_law_822 rfl rfl ?_
  refine gl_iload_n (i := 3) dL_law_823 rfl rfl ?_
  refine gl_iconst (v := 3) dL_law_824 (by decide) ?_
  refine gl_iadd dL_law_825 ?_
  refine gl_sld (gl_in hi hL (k := 3) (by omega) rfl) dL_law_826 ?_
  refine gl_callC (As := [.int (xs (nI i + 1).toNatClampNeg), .int (xs (nI i + 2).toNatClampNeg), .int (xs (nI i + 3).toNatClampNeg)]) (rest := []) (gc_X5_write (o_write R)) mX5_write lmL_109 rfl rfl ⟨Nat.le_of_ble_eq_true rfl, Nat.le_of_ble_eq_true rfl⟩ (Nat.le_of_ble_eq_true rfl) dL_law_827 (fun r1 h1 w1 => ?_)
  refine gl_aload_n (i := 2) dL_law_830 rfl rfl ?_
  refine gl_aload_n (i := 0) dL_law_831 rfl rfl ?_
  refine gl_iload_n (i := 3) dL_law_832 rfl rfl ?_
  refine gl_iconst (v := 1) dL_law_833 (by decide) ?_
  refine gl_iadd dL_law_834 ?_
  refine gl_sld (gl_in hi hL (k := 1) (by omega) rfl) dL_law_835 ?_
  refine gl_aload_n (i := 0) dL_law_836 rfl rfl ?_
  refine gl_iload_n (i := 3) dL_law_837 rfl rfl ?_
  refine gl_iconst (v := 2) dL_law_838 (by decide) ?_
  refine gl_iadd dL_law_839 ?_
  refine gl_sld (gl_in hi hL (k := 2) (by omega) rfl) dL_law_840 ?_
  refine gl_aload_n (i := 0) dL_law_841 rfl rfl ?_
  refine gl_iload_n (i := 3) dL_law_842 rfl rfl ?_
  refine gl_iconst (v := 3) dL_law_843 (by decide) ?_
  refine gl_iadd dL_law_844 ?_
  refine gl_sld (gl_in hi hL (k := 3) (by omega) rfl) dL_law_845 ?_
  refine gl_callM (As := [.int (xs (nI i + 1).toNatClampNeg), .int (xs (nI i + 2).toNatClampNeg), .int (xs (nI i + 3).toNatClampNeg)]) (rest := [.int r1]) (gc_X6_write w1) mX6_write lmL_112 rfl rfl ⟨Nat.le_of_ble_eq_true rfl, Nat.le_of_ble_eq_true rfl⟩ (Nat.le_of_ble_eq_true rfl) dL_law_846 (fun r2 h2 w2 => ?_)
  exact gl_icmp_eq (tgt := 1005) dL_law_849 (by decide) (fun _ => K h1 h2 w2.2) (fun c => absurd w2.1 c)
set_option maxRecDepth 100000 in
set_option maxHeartbeats 4000000 in
theorem gl_c24 (R : RR hC hM) (hi : i + 4 ≤ L) (hL : L ≤ 2048) (K : ∀ hC' hM', RR hC' hM' → gl_G l b L xs aC aM X hC' hM' 1005 (gl_ls b aC aM i) []) : gl_G l b L xs aC aM X hC hM 854 (gl_ls b aC aM i) [] := by
  refine gl_aload_n (i := 1) dL_law_854 rfl rfl ?_
  refine gl_aload_n (i := 0) dL_law_855 rfl rfl ?_
  refine gl_iload_n (i := 3) dL_law_856 rfl rfl ?_
  refine gl_iconst (v := 1) dL_law_857 (by decide) ?_
  refine gl_iadd dL_law_858 ?_
  refine gl_sld (gl_in hi hL (k := 1) (by omega) rfl) dL_law_859 ?_
  refine gl_callC (As := [.int (xs (nI i + 1).toNatClampNeg)]) (rest := []) (gc_X5_row (o_row R)) mX5_row lmL_113 rfl rfl ⟨Nat.le_of_ble_eq_true rfl, Nat.le_of_ble_eq_true rfl⟩ (Nat.le_of_ble_eq_true rfl) dL_law_860 (fun r1 h1 w1 => ?_)
  refine gl_aload_n (i := 2) dL_law_863 rfl rfl ?_
  refine gl_aload_n (i := 0) dL_law_864 rfl rfl ?_
  refine gl_iload_n (i := 3) dL_law_865 rfl rfl ?_
  refine gl_iconst (v := 1) dL_law_866 (by decide) ?_
  refine gl_iadd dL_law_867 ?_
  refine gl_sld (gl_in hi hL (k := 1) (by omega) rfl) dL_law_868 ?_
  refine gl_callM (As := [.int (xs (nI i + 1).toNatClampNeg)]) (rest := [.int r1]) (gc_X6_row w1) mX6_row lmL_116 rfl rfl ⟨Nat.le_of_ble_eq_true rfl, Nat.le_of_ble_eq_true rfl⟩ (Nat.le_of_ble_eq_true rfl) dL_law_869 (fun r2 h2 w2 => ?_)
  exact gl_icmp_eq (tgt := 1005) dL_law_872 (by decide) (fun _ => K h1 h2 w2.2) (fun c => absurd w2.1 c)
set_option maxRecDepth 100000 in
set_option maxHeartbeats 4000000 in
theorem gl_c25 (R : RR hC hM) (hi : i + 4 ≤ L) (hL : L ≤ 2048) (K : ∀ hC' hM', RR hC' hM' → gl_G l b L xs aC aM X hC' hM' 1005 (gl_ls b aC aM i) []) : gl_G l b L xs aC aM X hC hM 877 (gl_ls b aC aM i) [] := by
  refine gl_aload_n (i := 1) dL_law_877 rfl rfl ?_
  refine gl_aload_n (i := 0) dL_law_878 rfl rfl ?_
  refine gl_iload_n (i := 3) dL_law_879 rfl rfl ?_
  refine gl_iconst (v := 1) dL_law_880 (by decide) ?_
  refine gl_iadd dL_law_881 ?_
  refine gl_sld (gl_in hi hL (k := 1) (by omega) rfl) dL_law_882 ?_
  refine gl_aload_n (i := 0) dL_law_883 rfl rfl ?_
  refine gl_iload_n (i := 3) dL_law_884 rfl rfl ?_
  refine gl_iconst (v := 2) dL_law_885 (by decide) ?_
  refine gl_iadd dL_law_886 ?_
  refine gl_sld (gl_in hi hL (k := 2) (by omega) rfl) dL_law_887 ?_
  refine gl_callC (As := [.int (xs (nI i + 1).toNatClampNeg), .int (xs (nI i + 2).toNatClampNeg)]) (rest := []) (gc_X5_otherwise (o_otherwise R)) mX5_otherwise lmL_117 rfl rfl ⟨Nat.le_of_ble_eq_true rfl, Nat.le_of_ble_eq_true rfl⟩ (Nat.le_of_ble_eq_true rfl) dL_law_888 (fun r1 h1 w1 => ?_)
  refine gl_aload_n (i := 2) dL_law_891 rfl rfl ?_
  refine gl_aload_n (i := 0) dL_law_892 rfl rfl ?_
  refine gl_iload_n (i := 3) dL_law_893 rfl rfl ?_
  refine gl_iconst (v := 1) dL_law_894 (by decide) ?_
  refine gl_iadd dL_law_895 ?_
  refine gl_sld (gl_in hi hL (k := 1) (by omega) rfl) dL_law_896 ?_
  refine gl_aload_n (i := 0) dL_law_897 rfl rfl ?_
  refine gl_iload_n (i := 3) dL_law_898 rfl rfl ?_
  refine gl_iconst (v := 2) dL_law_899 (by decide) ?_
  refine gl_iadd dL_law_900 ?_
  refine gl_sld (gl_in hi hL (k := 2) (by omega) rfl) dL_law_901 ?_
  refine gl_callM (As := [.int (xs (nI i + 1).toNatClampNeg), .int (xs (nI i + 2).toNatClampNeg)]) (rest := [.int r1]) (gc_X6_otherwise w1) mX6_otherwise lmL_120 rfl rfl ⟨Nat.le_of_ble_eq_true rfl, Nat.le_of_ble_eq_true rfl⟩ (Nat.le_of_ble_eq_true rfl) dL_law_902 (fun r2 h2 w2 => ?_)
  exact gl_icmp_eq (tgt := 1005) dL_law_905 (by decide) (fun _ => K h1 h2 w2.2) (fun c => absurd w2.1 c)
set_option maxRecDepth 100000 in
set_option maxHeartbeats 4000000 in
theorem gl_c26 (R : RR hC hM) (hi : i + 4 ≤ L) (hL : L ≤ 2048) (K : ∀ hC' hM', RR hC' hM' → gl_G l b L xs aC aM X hC' hM' 1005 (gl_ls b aC aM i) []) : gl_G l b L xs aC aM X hC hM 910 (gl_ls b aC aM i) [] := by
  refine gl_aload_n (i := 1) dL_law_910 rfl rfl ?_
  refine gl_callC (As := []) (rest := []) (gc_X5_judge (o_judge R)) mX5_judge lmL_121 rfl rfl ⟨Nat.le_of_ble_eq_true rfl, Nat.le_of_ble_eq_true rfl⟩ (Nat.le_of_ble_eq_true rfl) dL_law_911 (fun r1 h1 w1 => ?_)
  refine gl_aload_n (i := 2) dL_law_914 rfl rfl ?_
  refine gl_callM (As := []) (rest := [.int r1]) (gc_X6_judge w1) mX6_judge lmL_124 rfl rfl ⟨Nat.le_of_ble_eq_true rfl, Nat.le_of_ble_eq_true rfl⟩ (Nat.le_of_ble_eq_true rfl) dL_law_915 (fun r2 h2 w2 => ?_)
  exact gl_icmp_eq (tgt := 1005) dL_law_918 (by decide) (fun _ => K h1 h2 w2.2) (fun c => absurd w2.1 c)
set_option maxRecDepth 100000 in
set_option maxHeartbeats 4000000 in
theorem gl_c27 (R : RR hC hM) (hi : i + 4 ≤ L) (hL : L ≤ 2048) (K : ∀ hC' hM', RR hC' hM' → gl_G l b L xs aC aM X hC' hM' 1005 (gl_ls b aC aM i) []) : gl_G l b L xs aC aM X hC hM 923 (gl_ls b aC aM i) [] := by
  refine gl_aload_n (i := 1) dL_law_923 rfl rfl ?_
  refine gl_aload_n (i := 0) dL_law_924 rfl rfl ?_
  refine gl_iload_n (i := 3) dL_law_925 rfl rfl ?_
  refine gl_iconst (v := 1) dL_law_926 (by decide) ?_
  refine gl_iadd dL_law_927 ?_
  refine gl_sld (gl_in hi hL (k := 1) (by omega) rfl) dL_law_928 ?_
  refine gl_aload_n (i := 0) dL_law_929 rfl rfl ?_
  refine gl_iload_n (i := 3) dL_law_930 rfl rfl ?_
  refine gl_iconst (v := 2) dL_law_931 (by decide) ?_
  refine gl_iadd dL_law_932 ?_
  refine gl_sld (gl_in hi hL (k := 2) (by omega) rfl) dL_law_933 ?_
  refine gl_callC (As := [.int (xs (nI i + 1).toNatClampNeg), .int (xs (nI i + 2).toNatClampNeg)]) (rest := []) (gc_X5_seeds (o_seeds R)) mX5_seeds lmL_125 rfl rfl ⟨Nat.le_of_ble_eq_true rfl, Nat.le_of_ble_eq_true rfl⟩ (Nat.le_of_ble_eq_true rfl) dL_law_934 (fun r1 h1 w1 => ?_)
  refine gl_aload_n (i := 2) dL_law_937 rfl rfl ?_
  refine gl_aload_n (i := 0) dL_law_938 rfl rfl ?_
  refine gl_iload_n (i := 3) dL_law_939 rfl rfl ?_
  refine gl_iconst (v := 1) dL_law_940 (by decide) ?_
  refine gl_iadd dL_law_941 ?_
  refine gl_sld (gl_in hi hL (k := 1) (by omega) rfl) dL_law_942 ?_
  refine gl_aload_n (i := 0) dL_law_943 rfl rfl ?_
  refine gl_iload_n (i := 3) dL_law_944 rfl rfl ?_
  refine gl_iconst (v := 2) dL_law_945 (by decide) ?_
  refine gl_iadd dL_law_946 ?_
  refine gl_sld (gl_in hi hL (k := 2) (by omega) rfl) dL_law_947 ?_
  refine gl_callM (As := [.int (xs (nI i + 1).toNatClampNeg), .int (xs (nI i + 2).toNatClampNeg)]) (rest := [.int r1]) (gc_X6_seeds w1) mX6_seeds lmL_128 rfl rfl ⟨Nat.le_of_ble_eq_true rfl, Nat.le_of_ble_eq_true rfl⟩ (Nat.le_of_ble_eq_true rfl) dL_law_948 (fun r2 h2 w2 => ?_)
  exact gl_icmp_eq (tgt := 1005) dL_law_951 (by decide) (fun _ => K h1 h2 w2.2) (fun c => absurd w2.1 c)
set_option maxRecDepth 100000 in
set_option maxHeartbeats 4000000 in
theorem gl_c28 (R : RR hC hM) (hi : i + 4 ≤ L) (hL : L ≤ 2048) (K : ∀ hC' hM', RR hC' hM' → gl_G l b L xs aC aM X hC' hM' 1005 (gl_ls b aC aM i) []) : gl_G l b L xs aC aM X hC hM 956 (gl_ls b aC aM i) [] := by
  refine gl_aload_n (i := 1) dL_law_956 rfl rfl ?_
  refine gl_callC (As := []) (rest := []) (gc_X5_image (o_image R)) mX5_image lmL_129 rfl rfl ⟨Nat.le_of_ble_eq_true rfl, Nat.le_of_ble_eq_true rfl⟩ (Nat.le_of_ble_eq_true rfl) dL_law_957 (fun r1 h1 w1 => ?_)
  refine gl_aload_n (i := 2) dL_law_960 rfl rfl ?_
  refine gl_callM (As := []) (rest := [.int r1]) (gc_X6_image w1) mX6_image lmL_132 rfl rfl ⟨Nat.le_of_ble_eq_true rfl, Nat.le_of_ble_eq_true rfl⟩ (Nat.le_of_ble_eq_true rfl) dL_law_961 (fun r2 h2 w2 => ?_)
  exact gl_icmp_eq (tgt := 1005) dL_law_964 (by decide) (fun _ => K h1 h2 w2.2) (fun c => absurd w2.1 c)
set_option maxRecDepth 100000 in
set_option maxHeartbeats 4000000 in
theorem gl_c29 (R : RR hC hM) (hi : i + 4 ≤ L) (hL : L ≤ 2048) (K : ∀ hC' hM', RR hC' hM' → gl_G l b L xs aC aM X hC' hM' 1005 (gl_ls b aC aM i) []) : gl_G l b L xs aC aM X hC hM 969 (gl_ls b aC aM i) [] := by
  refine gl_aload_n (i := 1) dL_law_969 rfl rfl ?_
  refine gl_callC (As := []) (rest := []) (gc_X5_on (o_on R)) mX5_on lmL_133 rfl rfl ⟨Nat.le_of_ble_eq_true rfl, Nat.le_of_ble_eq_true rfl⟩ (Nat.le_of_ble_eq_true rfl) dL_law_970 (fun r1 h1 w1 => ?_)
  refine gl_aload_n (i := 2) dL_law_973 rfl rfl ?_
  refine gl_callM (As := []) (rest := [.int r1]) (gc_X6_on w1) mX6_on lmL_136 rfl rfl ⟨Nat.le_of_ble_eq_true rfl, Nat.le_of_ble_eq_true rfl⟩ (Nat.le_of_ble_eq_true rfl) dL_law_974 (fun r2 h2 w2 => ?_)
  exact gl_icmp_eq (tgt := 1005) dL_law_977 (by decide) (fun _ => K h1 h2 w2.2) (fun c => absurd w2.1 c)
set_option maxRecDepth 100000 in
set_option maxHeartbeats 4000000 in
theorem gl_c30 (R : RR hC hM) (hi : i + 4 ≤ L) (hL : L ≤ 2048) (K : ∀ hC' hM', RR hC' hM' → gl_G l b L xs aC aM X hC' hM' 1005 (gl_ls b aC aM i) []) : gl_G l b L xs aC aM X hC hM 982 (gl_ls b aC aM i) [] := by
  refine gl_aload_n (i := 1) dL_law_982 rfl rfl ?_
  refine gl_aload_n (i := 0) dL_law_983 rfl rfl ?_
  refine gl_iload_n (i := 3) dL_law_984 rfl rfl ?_
  refine gl_iconst (v := 1) dL_law_985 (by decide) ?_
  refine gl_iadd dL_law_986 ?_
  refine gl_sld (gl_in hi hL (k := 1) (by omega) rfl) dL_law_987 ?_
  refine gl_callC (As := [.int (xs (nI i + 1).toNatClampNeg)]) (rest := []) (gc_X5_count (o_count R)) mX5_count lmL_137 rfl rfl ⟨Nat.le_of_ble_eq_true rfl, Nat.le_of_ble_eq_true rfl⟩ (Nat.le_of_ble_eq_true rfl) dL_law_988 (fun r1 h1 w1 => ?_)
  refine gl_aload_n (i := 2) dL_law_991 rfl rfl ?_
  refine gl_aload_n (i := 0) dL_law_992 rfl rfl ?_
  refine gl_iload_n (i := 3) dL_law_993 rfl rfl ?_
  refine gl_iconst (v := 1) dL_law_994 (by decide) ?_
  refine gl_iadd dL_law_995 ?_
  refine gl_sld (gl_in hi hL (k := 1) (by omega) rfl) dL_law_996 ?_
  refine gl_callM (As := [.int (xs (nI i + 1).toNatClampNeg)]) (rest := [.int r1]) (gc_X6_count w1) mX6_count lmL_140 rfl rfl ⟨Nat.le_of_ble_eq_true rfl, Nat.le_of_ble_eq_true rfl⟩ (Nat.le_of_ble_eq_true rfl) dL_law_997 (fun r2 h2 w2 => ?_)
  exact gl_icmp_eq (tgt := 1005) dL_law_1000 (by decide) (fun _ => K h1 h2 w2.2) (fun c => absurd w2.1 c)
set_option maxRecDepth 100000 in
set_option maxHeartbeats 4000000 in
theorem gl_sw (R : RR hC hM) (hi : i + 4 ≤ L) (hL : L ≤ 2048) (K : ∀ hC' hM', RR hC' hM' → gl_G l b L xs aC aM X hC' hM' 1005 (gl_ls b aC aM i) []) {x : Int32} {j : Nat} (hj : j < 32) (e : x = nI j) : gl_G l b L xs aC aM X hC hM 32 (gl_ls b aC aM i) [.int x] := by
  match j, hj, e with
  | 0, _, e => exact gl_tin (k := nI 0) (off := 140) (tgt := 172) dL_law_32 e (by decide) (by decide) rfl (by decide) (gl_c0 R hi hL K)
  | 1, _, e => exact gl_tin (k := nI 1) (off := 163) (tgt := 195) dL_law_32 e (by decide) (by decide) rfl (by decide) (gl_c1 R hi hL K)
  | 2, _, e => exact gl_tin (k := nI 2) (off := 176) (tgt := 208) dL_law_32 e (by decide) (by decide) rfl (by decide) (gl_c2 R hi hL K)
  | 3, _, e => exact gl_tin (k := nI 3) (off := 209) (tgt := 241) dL_law_32 e (by decide) (by decide) rfl (by decide) (gl_c3 R hi hL K)
  | 4, _, e => exact gl_tin (k := nI 4) (off := 242) (tgt := 274) dL_law_32 e (by decide) (by decide) rfl (by decide) (gl_c4 R hi hL K)
  | 5, _, e => exact gl_tin (k := nI 5) (off := 265) (tgt := 297) dL_law_32 e (by decide) (by decide) rfl (by decide) (gl_c5 R hi hL K)
  | 6, _, e => exact gl_tin (k := nI 6) (off := 288) (tgt := 320) dL_law_32 e (by decide) (by decide) rfl (by decide) (gl_c6 R hi hL K)
  | 7, _, e => exact gl_tin (k := nI 7) (off := 321) (tgt := 353) dL_law_32 e (by decide) (by decide) rfl (by decide) (gl_c7 R hi hL K)
  | 8, _, e => exact gl_tin (k := nI 8) (off := 354) (tgt := 386) dL_law_32 e (by decide) (by decide) rfl (by decide) (gl_c8 R hi hL K)
  | 9, _, e => exact gl_tin (k := nI 9) (off := 387) (tgt := 419) dL_law_32 e (by decide) (by decide) rfl (by decide) (gl_c9 R hi hL K)
  | 10, _, e => exact gl_tin (k := nI 10) (off := 410) (tgt := 442) dL_law_32 e (by decide) (by decide) rfl (by decide) (gl_c10 R hi hL K)
  | 11, _, e => exact gl_tin (k := nI 11) (off := 423) (tgt := 455) dL_law_32 e (by decide) (by decide) rfl (by decide) (gl_c11 R hi hL K)
  | 12, _, e => exact gl_tin (k := nI 12) (off := 466) (tgt := 498) dL_law_32 e (by decide) (by decide) rfl (by decide) (gl_c12 R hi hL K)
  | 13, _, e => exact gl_tin (k := nI 13) (off := 499) (tgt := 531) dL_law_32 e (by decide) (by decide) rfl (by decide) (gl_c13 R hi hL K)
  | 14, _, e => exact gl_tin (k := nI 14) (off := 532) (tgt := 564) dL_law_32 e (by decide) (by decide) rfl (by decide) (gl_c14 R hi hL K)
  | 15, _, e => exact gl_tin (k := nI 15) (off := 545) (tgt := 577) dL_law_32 e (by decide) (by decide) rfl (by decide) (gl_c15 R hi hL K)
  | 16, _, e => exact gl_tin (k := nI 16) (off := 588) (tgt := 620) dL_law_32 e (by decide) (by decide) rfl (by decide) (gl_c16 R hi hL K)
  | 17, _, e => exact gl_tin (k := nI 17) (off := 611) (tgt := 643) dL_law_32 e (by decide) (by decide) rfl (by decide) (gl_c17 R hi hL K)
  | 18, _, e => exact gl_tin (k := nI 18) (off := 644) (tgt := 676) dL_law_32 e (by decide) (by decide) rfl (by decide) (gl_c18 R hi hL K)
  | 19, _, e => exact gl_tin (k := nI 19) (off := 677) (tgt := 709) dL_law_32 e (by decide) (by decide) rfl (by decide) (gl_c19 R hi hL K)
  | 20, _, e => exact gl_tin (k := nI 20) (off := 710) (tgt := 742) dL_law_32 e (by decide) (by decide) rfl (by decide) (gl_c20 R hi hL K)
  | 21, _, e => exact gl_tin (k := nI 21) (off := 733) (tgt := 765) dL_law_32 e (by decide) (by decide) rfl (by decide) (gl_c21 R hi hL K)
  | 22, _, e => exact gl_tin (k := nI 22) (off := 756) (tgt := 788) dL_law_32 e (by decide) (by decide) rfl (by decide) (gl_c22 R hi hL K)
  | 23, _, e => exact gl_tin (k := nI 23) (off := 779) (tgt := 811) dL_law_32 e (by decide) (by decide) rfl (by decide) (gl_c23 R hi hL K)
  | 24, _, e => exact gl_tin (k := nI 24) (off := 822) (tgt := 854) dL_law_32 e (by decide) (by decide) rfl (by decide) (gl_c24 R hi hL K)
  | 25, _, e => exact gl_tin (k := nI 25) (off := 845) (tgt := 877) dL_law_32 e (by decide) (by decide) rfl (by decide) (gl_c25 R hi hL K)
  | 26, _, e => exact gl_tin (k := nI 26) (off := 878) (tgt := 910) dL_law_32 e (by decide) (by decide) rfl (by decide) (gl_c26 R hi hL K)
  | 27, _, e => exact gl_tin (k := nI 27) (off := 891) (tgt := 923) dL_law_32 e (by decide) (by decide) rfl (by decide) (gl_c27 R hi hL K)
  | 28, _, e => exact gl_tin (k := nI 28) (off := 924) (tgt := 956) dL_law_32 e (by decide) (by decide) rfl (by decide) (gl_c28 R hi hL K)
  | 29, _, e => exact gl_tin (k := nI 29) (off := 937) (tgt := 969) dL_law_32 e (by decide) (by decide) rfl (by decide) (gl_c29 R hi hL K)
  | 30, _, e => exact gl_tin (k := nI 30) (off := 950) (tgt := 982) dL_law_32 e (by decide) (by decide) rfl (by decide) (gl_c30 R hi hL K)
  | 31, _, e => exact gl_tout (tgt := 1005) dL_law_32 (by rw [e]; decide) (by decide) (K hC hM R)
  | j + 32, hj, _ => omega
/-- THE LAW'S LOOP -/
theorem gl_loop (hL : L ≤ 2048) : ∀ (n i : Nat) (hC hM : gw_H), i ≤ L + 3 → L + 4 ≤ i + n → RR hC hM → gl_G l b L xs aC aM X hC hM 18 (gl_ls b aC aM i) [] := by
  intro n
  induction n with
  | zero => intro i hC hM h1 h2; omega
  | succ n ih =>
    intro i hC hM h1 h2 R
    refine gl_iload_n (i := 3) dL_law_18 rfl rfl ?_
    refine gl_aload_n (i := 0) dL_law_19 rfl rfl ?_
    refine gl_slen dL_law_20 ?_
    refine gl_iconst (v := 4) dL_law_21 (by decide) ?_
    refine gl_isub dL_law_22 ?_
    have e4 : (Int32.ofNat L - 4).toInt = (L : Int) - 4 := pk_sub_toInt (a := L) (b := 4) (by omega) (by omega)
    refine gl_icmp_gt (tgt := 1011) dL_law_23 (by decide) (fun _ => ?_) (fun c => ?_)
    · refine gl_iconst (v := 1) dL_law_1011 (by decide) ?_
      exact gl_end dL_law_1012
    · have hi : i + 4 ≤ L := by
        rw [Int32.lt_iff_toInt_lt, e4, nI_toInt (by omega)] at c
        omega
      refine gl_aload_n (i := 0) dL_law_26 rfl rfl ?_
      refine gl_iload_n (i := 3) dL_law_27 rfl rfl ?_
      refine gl_sld (vp_in_nI (by omega) (by omega)) dL_law_28 ?_
      refine gl_bipush (v := 31) dL_law_29 (by decide) ?_
      refine gl_iand dL_law_31 ?_
      obtain ⟨j, hj, e⟩ := pk_andE (xs (nI i).toNatClampNeg) (m := 31) 5 (by decide)
      refine gl_sw R hi hL (fun hC' hM' R' => ?_) hj e
      refine gl_iinc (i := 3) (v := nI (i + 4)) (ls' := gl_ls b aC aM (i + 4)) dL_law_1005 rfl (nI_add i 4) (by omega) rfl ?_
      refine gl_goto (tgt := 18) dL_law_1008 (by decide) ?_
      exact ih (i + 4) hC' hM' (by omega) (by omega) R'
end GLC
