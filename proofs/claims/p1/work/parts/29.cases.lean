theorem l_cmp0 {a b : Int64} (h : a = b) : lg_cmp a b = 0 := by
  subst h
  simp [lg_cmp]
section LCS
variable {X : XT} {p : Program} {l : Launch} {e : Env} {s : State} {m : MethodId} {below : List Frame} {meth : Method} {c : Code} {cells slots : Nat} {Q : State → Prop} {b N : Nat} {xs : Nat → Int32} {i : Int32}
set_option maxRecDepth 20000 in
set_option maxHeartbeats 4000000 in
theorem lc_0 (Z : LC X p s m meth c b N xs) (hi : 0 ≤ i.toInt ∧ i.toInt + 7 ≤ N) (hcl : cells ≤ room_1.cells) (hsl : slots ≤ room_1.slots) {g : Mem} (hI : Inv g) (hX0 : FX g) (hM0 : FM g) (hR0 : hs_Rq g) (kk : ∀ g2 : Mem, Wm X p l e room_1 s m #[Value.ref b] below meth c 4 cells slots Q g2 1295 (lvL X b i) []) : Wm X p l e room_1 s m #[Value.ref b] below meth c 4 cells slots Q g 176 (lvL X b i) [] := by
  refine m_aload_n Z.1 dL_law_176 1 rfl ?_
  refine l_arg Z hi (1 : Int32) dL_law_177 dL_law_178 dL_law_179 dL_law_180 dL_law_181 (by decide) (by decide) ?_
  refine m_invV Z.1 cal_X8_clock sh_0 rfl (c_X8_clock l Z.1.2.2.2.2.2.2.1 g (ar xs i (1 : Int32)) hI) lk_L_13 im_X8_clock se_X8_clock (by decide) rfl rfl (Nat.le_of_ble_eq_true rfl) dL_law_182 ⟨hcl, hsl⟩ (rI fun r1 g1 h1 => ?_)
  obtain ⟨hI1, hK1, p1⟩ := h1
  have hM1 : FM g1 := fun k i hk => by rw [hK1 k (by omega)]; exact hM0 k i hk
  have hR1 : hs_Rq g1 := fun t ht => by rw [hK1 35 (by decide)]; exact hR0 t ht
  refine m_aload_n Z.1 dL_law_185 2 rfl ?_
  refine l_arg Z hi (1 : Int32) dL_law_186 dL_law_187 dL_law_188 dL_law_189 dL_law_190 (by decide) (by decide) ?_
  refine m_invV Z.1 cal_X9_clock sh_34 rfl (c_X9_clock l Z.1.2.2.2.2.2.2.1 g1 (ar xs i (1 : Int32)) hI1) lk_L_17 im_X9_clock se_X9_clock (by decide) rfl rfl (Nat.le_of_ble_eq_true rfl) dL_law_191 ⟨hcl, hsl⟩ (rI fun r2 g2 h2 => ?_)
  obtain ⟨hI2, hK2, p2⟩ := h2
  rw [hX0 0 9 (by decide)] at p1
  rw [hM1 34 6 (by decide)] at p2
  have x3 : r1 = r2 := (clk_fun p1 p2).1
  refine m_icmp_eq Z.1 1295 dL_law_194 (by decide) (fun _ => ?_) (fun h => absurd x3 h)
  exact kk g2
set_option maxRecDepth 20000 in
set_option maxHeartbeats 4000000 in
theorem lc_1 (Z : LC X p s m meth c b N xs) (hi : 0 ≤ i.toInt ∧ i.toInt + 7 ≤ N) (hcl : cells ≤ room_1.cells) (hsl : slots ≤ room_1.slots) {g : Mem} (hI : Inv g) (hX0 : FX g) (hM0 : FM g) (hR0 : hs_Rq g) (kk : ∀ g2 : Mem, Wm X p l e room_1 s m #[Value.ref b] below meth c 4 cells slots Q g2 1295 (lvL X b i) []) : Wm X p l e room_1 s m #[Value.ref b] below meth c 4 cells slots Q g 199 (lvL X b i) [] := by
  refine m_aload_n Z.1 dL_law_199 1 rfl ?_
  refine l_arg Z hi (1 : Int32) dL_law_200 dL_law_201 dL_law_202 dL_law_203 dL_law_204 (by decide) (by decide) ?_
  refine l_arg Z hi (2 : Int32) dL_law_205 dL_law_206 dL_law_207 dL_law_208 dL_law_209 (by decide) (by decide) ?_
  refine l_arg Z hi (3 : Int32) dL_law_210 dL_law_211 dL_law_212 dL_law_213 dL_law_214 (by decide) (by decide) ?_
  refine m_invV Z.1 cal_X8_request sh_0 rfl (c_X8_request_f l Z.1.2.2.2.2.2.2.1 g (ar xs i (1 : Int32)) (ar xs i (2 : Int32)) (ar xs i (3 : Int32)) hI hX0) lk_L_18 im_X8_request se_X8_request (by decide) rfl rfl (Nat.le_of_ble_eq_true rfl) dL_law_215 ⟨hcl, hsl⟩ (rI fun r1 g1 h1 => ?_)
  obtain ⟨hI1, hK1, p1⟩ := h1
  have hM1 : FM g1 := hM0.of hK1 (by decide)
  have hR1 : hs_Rq g1 := fun t ht => by rw [hK1.1 35 (by decide)]; exact hR0 t ht
  refine m_aload_n Z.1 dL_law_218 2 rfl ?_
  refine l_arg Z hi (1 : Int32) dL_law_219 dL_law_220 dL_law_221 dL_law_222 dL_law_223 (by decide) (by decide) ?_
  refine l_arg Z hi (2 : Int32) dL_law_224 dL_law_225 dL_law_226 dL_law_227 dL_law_228 (by decide) (by decide) ?_
  refine l_arg Z hi (3 : Int32) dL_law_229 dL_law_230 dL_law_231 dL_law_232 dL_law_233 (by decide) (by decide) ?_
  refine m_invV Z.1 cal_X9_request sh_34 rfl (c_X9_request_f l Z.1.2.2.2.2.2.2.1 g1 (ar xs i (1 : Int32)) (ar xs i (2 : Int32)) (ar xs i (3 : Int32)) hI1 hM1) lk_L_22 im_X9_request se_X9_request (by decide) rfl rfl (Nat.le_of_ble_eq_true rfl) dL_law_234 ⟨hcl, hsl⟩ (rI fun r2 g2 h2 => ?_)
  obtain ⟨hI2, hK2, p2⟩ := h2
  have x3 : r1 = r2 := Int32.toInt_inj.mp (by omega)
  refine m_icmp_eq Z.1 1295 dL_law_237 (by decide) (fun _ => ?_) (fun h => absurd x3 h)
  exact kk g2
set_option maxRecDepth 20000 in
set_option maxHeartbeats 4000000 in
theorem lc_2 (Z : LC X p s m meth c b N xs) (hi : 0 ≤ i.toInt ∧ i.toInt + 7 ≤ N) (hcl : cells ≤ room_1.cells) (hsl : slots ≤ room_1.slots) {g : Mem} (hI : Inv g) (hX0 : FX g) (hM0 : FM g) (hR0 : hs_Rq g) (kk : ∀ g2 : Mem, Wm X p l e room_1 s m #[Value.ref b] below meth c 4 cells slots Q g2 1295 (lvL X b i) []) : Wm X p l e room_1 s m #[Value.ref b] below meth c 4 cells slots Q g 242 (lvL X b i) [] := by
  refine m_aload_n Z.1 dL_law_242 1 rfl ?_
  refine l_arg Z hi (1 : Int32) dL_law_243 dL_law_244 dL_law_245 dL_law_246 dL_law_247 (by decide) (by decide) ?_
  refine l_arg Z hi (2 : Int32) dL_law_248 dL_law_249 dL_law_250 dL_law_251 dL_law_252 (by decide) (by decide) ?_
  refine l_arg Z hi (3 : Int32) dL_law_253 dL_law_254 dL_law_255 dL_law_256 dL_law_257 (by decide) (by decide) ?_
  refine m_invV Z.1 cal_X8_give sh_0 rfl (c_X8_give_f l Z.1.2.2.2.2.2.2.1 g (ar xs i (1 : Int32)) (ar xs i (2 : Int32)) (ar xs i (3 : Int32)) hI hX0) lk_L_23 im_X8_give se_X8_give (by decide) rfl rfl (Nat.le_of_ble_eq_true rfl) dL_law_258 ⟨hcl, hsl⟩ (rI fun r1 g1 h1 => ?_)
  obtain ⟨hI1, hK1, p1⟩ := h1
  have hM1 : FM g1 := hM0.of hK1 (by decide)
  have hR1 : hs_Rq g1 := fun t ht => by rw [hK1.1 35 (by decide)]; exact hR0 t ht
  refine m_aload_n Z.1 dL_law_261 2 rfl ?_
  refine l_arg Z hi (1 : Int32) dL_law_262 dL_law_263 dL_law_264 dL_law_265 dL_law_266 (by decide) (by decide) ?_
  refine l_arg Z hi (2 : Int32) dL_law_267 dL_law_268 dL_law_269 dL_law_270 dL_law_271 (by decide) (by decide) ?_
  refine l_arg Z hi (3 : Int32) dL_law_272 dL_law_273 dL_law_274 dL_law_275 dL_law_276 (by decide) (by decide) ?_
  refine m_invV Z.1 cal_X9_give sh_34 rfl (c_X9_give_f l Z.1.2.2.2.2.2.2.1 g1 (ar xs i (1 : Int32)) (ar xs i (2 : Int32)) (ar xs i (3 : Int32)) hI1 hM1) lk_L_26 im_X9_give se_X9_give (by decide) rfl rfl (Nat.le_of_ble_eq_true rfl) dL_law_277 ⟨hcl, hsl⟩ (rI fun r2 g2 h2 => ?_)
  obtain ⟨hI2, hK2, p2⟩ := h2
  have x3 : r1 = r2 := Int32.toInt_inj.mp (by omega)
  refine m_icmp_eq Z.1 1295 dL_law_280 (by decide) (fun _ => ?_) (fun h => absurd x3 h)
  exact kk g2
set_option maxRecDepth 20000 in
set_option maxHeartbeats 4000000 in
theorem lc_3 (Z : LC X p s m meth c b N xs) (hi : 0 ≤ i.toInt ∧ i.toInt + 7 ≤ N) (hcl : cells ≤ room_1.cells) (hsl : slots ≤ room_1.slots) {g : Mem} (hI : Inv g) (hX0 : FX g) (hM0 : FM g) (hR0 : hs_Rq g) (kk : ∀ g2 : Mem, Wm X p l e room_1 s m #[Value.ref b] below meth c 4 cells slots Q g2 1295 (lvL X b i) []) : Wm X p l e room_1 s m #[Value.ref b] below meth c 4 cells slots Q g 285 (lvL X b i) [] := by
  refine m_aload_n Z.1 dL_law_285 1 rfl ?_
  refine l_arg Z hi (1 : Int32) dL_law_286 dL_law_287 dL_law_288 dL_law_289 dL_law_290 (by decide) (by decide) ?_
  refine l_arg Z hi (2 : Int32) dL_law_291 dL_law_292 dL_law_293 dL_law_294 dL_law_295 (by decide) (by decide) ?_
  refine l_arg Z hi (3 : Int32) dL_law_296 dL_law_297 dL_law_298 dL_law_299 dL_law_300 (by decide) (by decide) ?_
  refine m_invV Z.1 cal_X8_take sh_0 rfl (c_X8_take_f l Z.1.2.2.2.2.2.2.1 g (ar xs i (1 : Int32)) (ar xs i (2 : Int32)) (ar xs i (3 : Int32)) hI hX0) lk_L_27 im_X8_take se_X8_take (by decide) rfl rfl (Nat.le_of_ble_eq_true rfl) dL_law_301 ⟨hcl, hsl⟩ (rI fun r1 g1 h1 => ?_)
  obtain ⟨hI1, hK1, p1⟩ := h1
  have hM1 : FM g1 := hM0.of hK1 (by decide)
  have hR1 : hs_Rq g1 := fun t ht => by rw [hK1.1 35 (by decide)]; exact hR0 t ht
  refine m_aload_n Z.1 dL_law_304 2 rfl ?_
  refine l_arg Z hi (1 : Int32) dL_law_305 dL_law_306 dL_law_307 dL_law_308 dL_law_309 (by decide) (by decide) ?_
  refine l_arg Z hi (2 : Int32) dL_law_310 dL_law_311 dL_law_312 dL_law_313 dL_law_314 (by decide) (by decide) ?_
  refine l_arg Z hi (3 : Int32) dL_law_315 dL_law_316 dL_law_317 dL_law_318 dL_law_319 (by decide) (by decide) ?_
  refine m_invV Z.1 cal_X9_take sh_34 rfl (c_X9_take_f l Z.1.2.2.2.2.2.2.1 g1 (ar xs i (1 : Int32)) (ar xs i (2 : Int32)) (ar xs i (3 : Int32)) hI1 hM1) lk_L_30 im_X9_take se_X9_take (by decide) rfl rfl (Nat.le_of_ble_eq_true rfl) dL_law_320 ⟨hcl, hsl⟩ (rI fun r2 g2 h2 => ?_)
  obtain ⟨hI2, hK2, p2⟩ := h2
  have x3 : r1 = r2 := Int32.toInt_inj.mp (by omega)
  refine m_icmp_eq Z.1 1295 dL_law_323 (by decide) (fun _ => ?_) (fun h => absurd x3 h)
  exact kk g2
set_option maxRecDepth 20000 in
set_option maxHeartbeats 4000000 in
theorem lc_4 (Z : LC X p s m meth c b N xs) (hi : 0 ≤ i.toInt ∧ i.toInt + 7 ≤ N) (hcl : cells ≤ room_1.cells) (hsl : slots ≤ room_1.slots) {g : Mem} (hI : Inv g) (hX0 : FX g) (hM0 : FM g) (hR0 : hs_Rq g) (kk : ∀ g2 : Mem, Wm X p l e room_1 s m #[Value.ref b] below meth c 4 cells slots Q g2 1295 (lvL X b i) []) : Wm X p l e room_1 s m #[Value.ref b] below meth c 4 cells slots Q g 328 (lvL X b i) [] := by
  refine m_aload_n Z.1 dL_law_328 1 rfl ?_
  refine l_arg Z hi (1 : Int32) dL_law_329 dL_law_330 dL_law_331 dL_law_332 dL_law_333 (by decide) (by decide) ?_
  refine l_arg Z hi (2 : Int32) dL_law_334 dL_law_335 dL_law_336 dL_law_337 dL_law_338 (by decide) (by decide) ?_
  refine l_arg Z hi (3 : Int32) dL_law_339 dL_law_340 dL_law_341 dL_law_342 dL_law_343 (by decide) (by decide) ?_
  refine m_invV Z.1 cal_X8_subject sh_0 rfl (c_X8_subject_f l Z.1.2.2.2.2.2.2.1 g (ar xs i (1 : Int32)) (ar xs i (2 : Int32)) (ar xs i (3 : Int32)) hI hX0) lk_L_31 im_X8_subject se_X8_subject (by decide) rfl rfl (Nat.le_of_ble_eq_true rfl) dL_law_344 ⟨hcl, hsl⟩ (rI fun r1 g1 h1 => ?_)
  obtain ⟨hI1, hK1, p1⟩ := h1
  have hM1 : FM g1 := hM0.of hK1 (by decide)
  have hR1 : hs_Rq g1 := fun t ht => by rw [hK1.1 35 (by decide)]; exact hR0 t ht
  refine m_aload_n Z.1 dL_law_347 2 rfl ?_
  refine l_arg Z hi (1 : Int32) dL_law_348 dL_law_349 dL_law_350 dL_law_351 dL_law_352 (by decide) (by decide) ?_
  refine l_arg Z hi (2 : Int32) dL_law_353 dL_law_354 dL_law_355 dL_law_356 dL_law_357 (by decide) (by decide) ?_
  refine l_arg Z hi (3 : Int32) dL_law_358 dL_law_359 dL_law_360 dL_law_361 dL_law_362 (by decide) (by decide) ?_
  refine m_invV Z.1 cal_X9_subject sh_34 rfl (c_X9_subject_f l Z.1.2.2.2.2.2.2.1 g1 (ar xs i (1 : Int32)) (ar xs i (2 : Int32)) (ar xs i (3 : Int32)) hI1 hM1) lk_L_34 im_X9_subject se_X9_subject (by decide) rfl rfl (Nat.le_of_ble_eq_true rfl) dL_law_363 ⟨hcl, hsl⟩ (rI fun r2 g2 h2 => ?_)
  obtain ⟨hI2, hK2, p2⟩ := h2
  have x3 : r1 = r2 := Int32.toInt_inj.mp (by omega)
  refine m_icmp_eq Z.1 1295 dL_law_366 (by decide) (fun _ => ?_) (fun h => absurd x3 h)
  exact kk g2
set_option maxRecDepth 20000 in
set_option maxHeartbeats 4000000 in
theorem lc_5 (Z : LC X p s m meth c b N xs) (hi : 0 ≤ i.toInt ∧ i.toInt + 7 ≤ N) (hcl : cells ≤ room_1.cells) (hsl : slots ≤ room_1.slots) {g : Mem} (hI : Inv g) (hX0 : FX g) (hM0 : FM g) (hR0 : hs_Rq g) (kk : ∀ g2 : Mem, Wm X p l e room_1 s m #[Value.ref b] below meth c 4 cells slots Q g2 1295 (lvL X b i) []) : Wm X p l e room_1 s m #[Value.ref b] below meth c 4 cells slots Q g 371 (lvL X b i) [] := by
  refine m_aload_n Z.1 dL_law_371 1 rfl ?_
  refine l_arg Z hi (1 : Int32) dL_law_372 dL_law_373 dL_law_374 dL_law_375 dL_law_376 (by decide) (by decide) ?_
  refine l_arg Z hi (2 : Int32) dL_law_377 dL_law_378 dL_law_379 dL_law_380 dL_law_381 (by decide) (by decide) ?_
  refine l_arg Z hi (3 : Int32) dL_law_382 dL_law_383 dL_law_384 dL_law_385 dL_law_386 (by decide) (by decide) ?_
  refine m_invV Z.1 cal_X8_object sh_0 rfl (c_X8_object_f l Z.1.2.2.2.2.2.2.1 g (ar xs i (1 : Int32)) (ar xs i (2 : Int32)) (ar xs i (3 : Int32)) hI hX0) lk_L_35 im_X8_object se_X8_object (by decide) rfl rfl (Nat.le_of_ble_eq_true rfl) dL_law_387 ⟨hcl, hsl⟩ (rI fun r1 g1 h1 => ?_)
  obtain ⟨hI1, hK1, p1⟩ := h1
  have hM1 : FM g1 := hM0.of hK1 (by decide)
  have hR1 : hs_Rq g1 := fun t ht => by rw [hK1.1 35 (by decide)]; exact hR0 t ht
  refine m_aload_n Z.1 dL_law_390 2 rfl ?_
  refine l_arg Z hi (1 : Int32) dL_law_391 dL_law_392 dL_law_393 dL_law_394 dL_law_395 (by decide) (by decide) ?_
  refine l_arg Z hi (2 : Int32) dL_law_396 dL_law_397 dL_law_398 dL_law_399 dL_law_400 (by decide) (by decide) ?_
  refine l_arg Z hi (3 : Int32) dL_law_401 dL_law_402 dL_law_403 dL_law_404 dL_law_405 (by decide) (by decide) ?_
  refine m_invV Z.1 cal_X9_object sh_34 rfl (c_X9_object_f l Z.1.2.2.2.2.2.2.1 g1 (ar xs i (1 : Int32)) (ar xs i (2 : Int32)) (ar xs i (3 : Int32)) hI1 hM1) lk_L_38 im_X9_object se_X9_object (by decide) rfl rfl (Nat.le_of_ble_eq_true rfl) dL_law_406 ⟨hcl, hsl⟩ (rI fun r2 g2 h2 => ?_)
  obtain ⟨hI2, hK2, p2⟩ := h2
  have x3 : r1 = r2 := Int32.toInt_inj.mp (by omega)
  refine m_icmp_eq Z.1 1295 dL_law_409 (by decide) (fun _ => ?_) (fun h => absurd x3 h)
  exact kk g2
set_option maxRecDepth 20000 in
set_option maxHeartbeats 4000000 in
theorem lc_6 (Z : LC X p s m meth c b N xs) (hi : 0 ≤ i.toInt ∧ i.toInt + 7 ≤ N) (hcl : cells ≤ room_1.cells) (hsl : slots ≤ room_1.slots) {g : Mem} (hI : Inv g) (hX0 : FX g) (hM0 : FM g) (hR0 : hs_Rq g) (kk : ∀ g2 : Mem, Wm X p l e room_1 s m #[Value.ref b] below meth c 4 cells slots Q g2 1295 (lvL X b i) []) : Wm X p l e room_1 s m #[Value.ref b] below meth c 4 cells slots Q g 414 (lvL X b i) [] := by
  refine m_aload_n Z.1 dL_law_414 1 rfl ?_
  refine l_arg Z hi (1 : Int32) dL_law_415 dL_law_416 dL_law_417 dL_law_418 dL_law_419 (by decide) (by decide) ?_
  refine m_invV Z.1 cal_X8_unlock sh_0 rfl (c_X8_unlock_f l Z.1.2.2.2.2.2.2.1 g (ar xs i (1 : Int32)) hI hX0) lk_L_39 im_X8_unlock se_X8_unlock (by decide) rfl rfl (Nat.le_of_ble_eq_true rfl) dL_law_420 ⟨hcl, hsl⟩ (rI fun r1 g1 h1 => ?_)
  obtain ⟨hI1, hK1, p1⟩ := h1
  have hM1 : FM g1 := hM0.of hK1 (by decide)
  have hR1 : hs_Rq g1 := fun t ht => by rw [hK1.1 35 (by decide)]; exact hR0 t ht
  refine m_aload_n Z.1 dL_law_423 2 rfl ?_
  refine l_arg Z hi (1 : Int32) dL_law_424 dL_law_425 dL_law_426 dL_law_427 dL_law_428 (by decide) (by decide) ?_
  refine m_invV Z.1 cal_X9_unlock sh_34 rfl (c_X9_unlock_f l Z.1.2.2.2.2.2.2.1 g1 (ar xs i (1 : Int32)) hI1 hM1) lk_L_42 im_X9_unlock se_X9_unlock (by decide) rfl rfl (Nat.le_of_ble_eq_true rfl) dL_law_429 ⟨hcl, hsl⟩ (rI fun r2 g2 h2 => ?_)
  obtain ⟨hI2, hK2, p2⟩ := h2
  have x3 : r1 = r2 := Int32.toInt_inj.mp (by omega)
  refine m_icmp_eq Z.1 1295 dL_law_432 (by decide) (fun _ => ?_) (fun h => absurd x3 h)
  exact kk g2
set_option maxRecDepth 20000 in
set_option maxHeartbeats 4000000 in
theorem lc_7 (Z : LC X p s m meth c b N xs) (hi : 0 ≤ i.toInt ∧ i.toInt + 7 ≤ N) (hcl : cells ≤ room_1.cells) (hsl : slots ≤ room_1.slots) {g : Mem} (hI : Inv g) (hX0 : FX g) (hM0 : FM g) (hR0 : hs_Rq g) (kk : ∀ g2 : Mem, Wm X p l e room_1 s m #[Value.ref b] below meth c 4 cells slots Q g2 1295 (lvL X b i) []) : Wm X p l e room_1 s m #[Value.ref b] below meth c 4 cells slots Q g 437 (lvL X b i) [] := by
  refine m_aload_n Z.1 dL_law_437 1 rfl ?_
  refine l_arg Z hi (1 : Int32) dL_law_438 dL_law_439 dL_law_440 dL_law_441 dL_law_442 (by decide) (by decide) ?_
  refine l_arg Z hi (2 : Int32) dL_law_443 dL_law_444 dL_law_445 dL_law_446 dL_law_447 (by decide) (by decide) ?_
  refine m_invV Z.1 cal_X8_subjectAt sh_0 rfl (c_X8_subjectAt_f l Z.1.2.2.2.2.2.2.1 g (ar xs i (1 : Int32)) (ar xs i (2 : Int32)) hI hX0) lk_L_43 im_X8_subjectAt se_X8_subjectAt (by decide) rfl rfl (Nat.le_of_ble_eq_true rfl) dL_law_448 ⟨hcl, hsl⟩ (rI fun r1 g1 h1 => ?_)
  obtain ⟨e1, p1⟩ := h1
  subst g1
  refine m_aload_n Z.1 dL_law_451 2 rfl ?_
  refine l_arg Z hi (1 : Int32) dL_law_452 dL_law_453 dL_law_454 dL_law_455 dL_law_456 (by decide) (by decide) ?_
  refine l_arg Z hi (2 : Int32) dL_law_457 dL_law_458 dL_law_459 dL_law_460 dL_law_461 (by decide) (by decide) ?_
  refine m_invV Z.1 cal_X9_subjectAt sh_34 rfl (c_X9_subjectAt_f l Z.1.2.2.2.2.2.2.1 g (ar xs i (1 : Int32)) (ar xs i (2 : Int32)) hI hM0) lk_L_47 im_X9_subjectAt se_X9_subjectAt (by decide) rfl rfl (Nat.le_of_ble_eq_true rfl) dL_law_462 ⟨hcl, hsl⟩ (rI fun r2 g2 h2 => ?_)
  obtain ⟨e2, p2⟩ := h2
  subst g2
  have x3 : r1 = r2 := Int32.toInt_inj.mp (by omega)
  refine m_icmp_eq Z.1 1295 dL_law_465 (by decide) (fun _ => ?_) (fun h => absurd x3 h)
  exact kk g
set_option maxRecDepth 20000 in
set_option maxHeartbeats 4000000 in
theorem lc_8 (Z : LC X p s m meth c b N xs) (hi : 0 ≤ i.toInt ∧ i.toInt + 7 ≤ N) (hcl : cells ≤ room_1.cells) (hsl : slots ≤ room_1.slots) {g : Mem} (hI : Inv g) (hX0 : FX g) (hM0 : FM g) (hR0 : hs_Rq g) (kk : ∀ g2 : Mem, Wm X p l e room_1 s m #[Value.ref b] below meth c 4 cells slots Q g2 1295 (lvL X b i) []) : Wm X p l e room_1 s m #[Value.ref b] below meth c 4 cells slots Q g 470 (lvL X b i) [] := by
  refine m_aload_n Z.1 dL_law_470 1 rfl ?_
  refine l_arg Z hi (1 : Int32) dL_law_471 dL_law_472 dL_law_473 dL_law_474 dL_law_475 (by decide) (by decide) ?_
  refine l_arg Z hi (2 : Int32) dL_law_476 dL_law_477 dL_law_478 dL_law_479 dL_law_480 (by decide) (by decide) ?_
  refine m_invV Z.1 cal_X8_objectAt sh_0 rfl (c_X8_objectAt_f l Z.1.2.2.2.2.2.2.1 g (ar xs i (1 : Int32)) (ar xs i (2 : Int32)) hI hX0) lk_L_48 im_X8_objectAt se_X8_objectAt (by decide) rfl rfl (Nat.le_of_ble_eq_true rfl) dL_law_481 ⟨hcl, hsl⟩ (rI fun r1 g1 h1 => ?_)
  obtain ⟨e1, p1⟩ := h1
  subst g1
  refine m_aload_n Z.1 dL_law_484 2 rfl ?_
  refine l_arg Z hi (1 : Int32) dL_law_485 dL_law_486 dL_law_487 dL_law_488 dL_law_489 (by decide) (by decide) ?_
  refine l_arg Z hi (2 : Int32) dL_law_490 dL_law_491 dL_law_492 dL_law_493 dL_law_494 (by decide) (by decide) ?_
  refine m_invV Z.1 cal_X9_objectAt sh_34 rfl (c_X9_objectAt_f l Z.1.2.2.2.2.2.2.1 g (ar xs i (1 : Int32)) (ar xs i (2 : Int32)) hI hM0) lk_L_51 im_X9_objectAt se_X9_objectAt (by decide) rfl rfl (Nat.le_of_ble_eq_true rfl) dL_law_495 ⟨hcl, hsl⟩ (rI fun r2 g2 h2 => ?_)
  obtain ⟨e2, p2⟩ := h2
  subst g2
  have x3 : r1 = r2 := Int32.toInt_inj.mp (by omega)
  refine m_icmp_eq Z.1 1295 dL_law_498 (by decide) (fun _ => ?_) (fun h => absurd x3 h)
  exact kk g
set_option maxRecDepth 20000 in
set_option maxHeartbeats 4000000 in
theorem lc_9 (Z : LC X p s m meth c b N xs) (hi : 0 ≤ i.toInt ∧ i.toInt + 7 ≤ N) (hcl : cells ≤ room_1.cells) (hsl : slots ≤ room_1.slots) {g : Mem} (hI : Inv g) (hX0 : FX g) (hM0 : FM g) (hR0 : hs_Rq g) (kk : ∀ g2 : Mem, Wm X p l e room_1 s m #[Value.ref b] below meth c 4 cells slots Q g2 1295 (lvL X b i) []) : Wm X p l e room_1 s m #[Value.ref b] below meth c 4 cells slots Q g 503 (lvL X b i) [] := by
  refine m_aload_n Z.1 dL_law_503 1 rfl ?_
  refine l_arg Z hi (1 : Int32) dL_law_504 dL_law_505 dL_law_506 dL_law_507 dL_law_508 (by decide) (by decide) ?_
  refine l_arg Z hi (2 : Int32) dL_law_509 dL_law_510 dL_law_511 dL_law_512 dL_law_513 (by decide) (by decide) ?_
  refine l_arg Z hi (3 : Int32) dL_law_514 dL_law_515 dL_law_516 dL_law_517 dL_law_518 (by decide) (by decide) ?_
  refine m_invV Z.1 cal_X8_given sh_0 rfl (c_X8_given_f l Z.1.2.2.2.2.2.2.1 g (ar xs i (1 : Int32)) (ar xs i (2 : Int32)) (ar xs i (3 : Int32)) hI hX0) lk_L_52 im_X8_given se_X8_given (by decide) rfl rfl (Nat.le_of_ble_eq_true rfl) dL_law_519 ⟨hcl, hsl⟩ (rI fun r1 g1 h1 => ?_)
  obtain ⟨e1, p1⟩ := h1
  subst g1
  refine m_aload_n Z.1 dL_law_522 2 rfl ?_
  refine l_arg Z hi (1 : Int32) dL_law_523 dL_law_524 dL_law_525 dL_law_526 dL_law_527 (by decide) (by decide) ?_
  refine l_arg Z hi (2 : Int32) dL_law_528 dL_law_529 dL_law_530 dL_law_531 dL_law_532 (by decide) (by decide) ?_
  refine l_arg Z hi (3 : Int32) dL_law_533 dL_law_534 dL_law_535 dL_law_536 dL_law_537 (by decide) (by decide) ?_
  refine m_invV Z.1 cal_X9_given sh_34 rfl (c_X9_given_f l Z.1.2.2.2.2.2.2.1 g (ar xs i (1 : Int32)) (ar xs i (2 : Int32)) (ar xs i (3 : Int32)) hI hM0) lk_L_55 im_X9_given se_X9_given (by decide) rfl rfl (Nat.le_of_ble_eq_true rfl) dL_law_538 ⟨hcl, hsl⟩ (rI fun r2 g2 h2 => ?_)
  obtain ⟨e2, p2⟩ := h2
  subst g2
  have x3 : r1 = r2 := Int32.toInt_inj.mp (by omega)
  refine m_icmp_eq Z.1 1295 dL_law_541 (by decide) (fun _ => ?_) (fun h => absurd x3 h)
  exact kk g
set_option maxRecDepth 20000 in
set_option maxHeartbeats 4000000 in
theorem lc_10 (Z : LC X p s m meth c b N xs) (hi : 0 ≤ i.toInt ∧ i.toInt + 7 ≤ N) (hcl : cells ≤ room_1.cells) (hsl : slots ≤ room_1.slots) {g : Mem} (hI : Inv g) (hX0 : FX g) (hM0 : FM g) (hR0 : hs_Rq g) (kk : ∀ g2 : Mem, Wm X p l e room_1 s m #[Value.ref b] below meth c 4 cells slots Q g2 1295 (lvL X b i) []) : Wm X p l e room_1 s m #[Value.ref b] below meth c 4 cells slots Q g 546 (lvL X b i) [] := by
  refine m_aload_n Z.1 dL_law_546 1 rfl ?_
  refine l_arg Z hi (1 : Int32) dL_law_547 dL_law_548 dL_law_549 dL_law_550 dL_law_551 (by decide) (by decide) ?_
  refine l_arg Z hi (2 : Int32) dL_law_552 dL_law_553 dL_law_554 dL_law_555 dL_law_556 (by decide) (by decide) ?_
  refine m_invV Z.1 cal_X8_entry sh_0 rfl (c_X8_entry_f l Z.1.2.2.2.2.2.2.1 g (ar xs i (1 : Int32)) (ar xs i (2 : Int32)) hI hX0) lk_L_56 im_X8_entry se_X8_entry (by decide) rfl rfl (Nat.le_of_ble_eq_true rfl) dL_law_557 ⟨hcl, hsl⟩ (rI fun r1 g1 h1 => ?_)
  obtain ⟨e1, p1⟩ := h1
  subst g1
  refine m_aload_n Z.1 dL_law_560 2 rfl ?_
  refine l_arg Z hi (1 : Int32) dL_law_561 dL_law_562 dL_law_563 dL_law_564 dL_law_565 (by decide) (by decide) ?_
  refine l_arg Z hi (2 : Int32) dL_law_566 dL_law_567 dL_law_568 dL_law_569 dL_law_570 (by decide) (by decide) ?_
  refine m_invV Z.1 cal_X9_entry sh_34 rfl (c_X9_entry_f l Z.1.2.2.2.2.2.2.1 g (ar xs i (1 : Int32)) (ar xs i (2 : Int32)) hI hM0) lk_L_59 im_X9_entry se_X9_entry (by decide) rfl rfl (Nat.le_of_ble_eq_true rfl) dL_law_571 ⟨hcl, hsl⟩ (rI fun r2 g2 h2 => ?_)
  obtain ⟨e2, p2⟩ := h2
  subst g2
  have x3 : r1 = r2 := Int32.toInt_inj.mp (by omega)
  refine m_icmp_eq Z.1 1295 dL_law_574 (by decide) (fun _ => ?_) (fun h => absurd x3 h)
  exact kk g
set_option maxRecDepth 20000 in
set_option maxHeartbeats 4000000 in
theorem lc_11 (Z : LC X p s m meth c b N xs) (hi : 0 ≤ i.toInt ∧ i.toInt + 7 ≤ N) (hcl : cells ≤ room_1.cells) (hsl : slots ≤ room_1.slots) {g : Mem} (hI : Inv g) (hX0 : FX g) (hM0 : FM g) (hR0 : hs_Rq g) (kk : ∀ g2 : Mem, Wm X p l e room_1 s m #[Value.ref b] below meth c 4 cells slots Q g2 1295 (lvL X b i) []) : Wm X p l e room_1 s m #[Value.ref b] below meth c 4 cells slots Q g 579 (lvL X b i) [] := by
  refine m_aload_n Z.1 dL_law_579 1 rfl ?_
  refine l_arg Z hi (1 : Int32) dL_law_580 dL_law_581 dL_law_582 dL_law_583 dL_law_584 (by decide) (by decide) ?_
  refine l_arg Z hi (2 : Int32) dL_law_585 dL_law_586 dL_law_587 dL_law_588 dL_law_589 (by decide) (by decide) ?_
  refine m_invV Z.1 cal_X8_chain sh_0 rfl (c_X8_chain_f l Z.1.2.2.2.2.2.2.1 g (ar xs i (1 : Int32)) (ar xs i (2 : Int32)) hI hX0) lk_L_60 im_X8_chain se_X8_chain (by decide) rfl rfl (Nat.le_of_ble_eq_true rfl) dL_law_590 ⟨hcl, hsl⟩ (rI fun r1 g1 h1 => ?_)
  obtain ⟨e1, p1⟩ := h1
  subst g1
  refine m_aload_n Z.1 dL_law_593 2 rfl ?_
  refine l_arg Z hi (1 : Int32) dL_law_594 dL_law_595 dL_law_596 dL_law_597 dL_law_598 (by decide) (by decide) ?_
  refine l_arg Z hi (2 : Int32) dL_law_599 dL_law_600 dL_law_601 dL_law_602 dL_law_603 (by decide) (by decide) ?_
  refine m_invV Z.1 cal_X9_chain sh_34 rfl (c_X9_chain_f l Z.1.2.2.2.2.2.2.1 g (ar xs i (1 : Int32)) (ar xs i (2 : Int32)) hI hM0) lk_L_63 im_X9_chain se_X9_chain (by decide) rfl rfl (Nat.le_of_ble_eq_true rfl) dL_law_604 ⟨hcl, hsl⟩ (rI fun r2 g2 h2 => ?_)
  obtain ⟨e2, p2⟩ := h2
  subst g2
  have x3 : r1 = r2 := Int32.toInt_inj.mp (by omega)
  refine m_icmp_eq Z.1 1295 dL_law_607 (by decide) (fun _ => ?_) (fun h => absurd x3 h)
  exact kk g
set_option maxRecDepth 20000 in
set_option maxHeartbeats 4000000 in
theorem lc_12 (Z : LC X p s m meth c b N xs) (hi : 0 ≤ i.toInt ∧ i.toInt + 7 ≤ N) (hcl : cells ≤ room_1.cells) (hsl : slots ≤ room_1.slots) {g : Mem} (hI : Inv g) (hX0 : FX g) (hM0 : FM g) (hR0 : hs_Rq g) (kk : ∀ g2 : Mem, Wm X p l e room_1 s m #[Value.ref b] below meth c 4 cells slots Q g2 1295 (lvL X b i) []) : Wm X p l e room_1 s m #[Value.ref b] below meth c 4 cells slots Q g 612 (lvL X b i) [] := by
  refine m_aload_n Z.1 dL_law_612 1 rfl ?_
  refine l_arg Z hi (1 : Int32) dL_law_613 dL_law_614 dL_law_615 dL_law_616 dL_law_617 (by decide) (by decide) ?_
  refine l_arg Z hi (2 : Int32) dL_law_618 dL_law_619 dL_law_620 dL_law_621 dL_law_622 (by decide) (by decide) ?_
  refine m_invV Z.1 cal_X8_root sh_0 rfl (c_X8_root_f l Z.1.2.2.2.2.2.2.1 g (ar xs i (1 : Int32)) (ar xs i (2 : Int32)) hI hX0) lk_L_64 im_X8_root se_X8_root (by decide) rfl rfl (Nat.le_of_ble_eq_true rfl) dL_law_623 ⟨hcl, hsl⟩ (rI fun r1 g1 h1 => ?_)
  obtain ⟨hI1, hK1, p1⟩ := h1
  have hM1 : FM g1 := hM0.of hK1 (by decide)
  have hR1 : hs_Rq g1 := fun t ht => by rw [hK1.1 35 (by decide)]; exact hR0 t ht
  refine m_aload_n Z.1 dL_law_626 2 rfl ?_
  refine l_arg Z hi (1 : Int32) dL_law_627 dL_law_628 dL_law_629 dL_law_630 dL_law_631 (by decide) (by decide) ?_
  refine l_arg Z hi (2 : Int32) dL_law_632 dL_law_633 dL_law_634 dL_law_635 dL_law_636 (by decide) (by decide) ?_
  refine m_invV Z.1 cal_X9_root sh_34 rfl (c_X9_root_f l Z.1.2.2.2.2.2.2.1 g1 (ar xs i (1 : Int32)) (ar xs i (2 : Int32)) hI1 hM1 hR1) lk_L_67 im_X9_root se_X9_root (by decide) rfl rfl (Nat.le_of_ble_eq_true rfl) dL_law_637 ⟨hcl, hsl⟩ (rI fun r2 g2 h2 => ?_)
  obtain ⟨hI2, hK2, p2⟩ := h2
  have x3 : r1 = r2 := by
    by_cases hn : (ar xs i (1 : Int32)).toInt = 0
    · exact hs_A_fun (p1.1 hn) (p2.1 hn)
    · exact Int32.toInt_inj.mp ((p1.2 hn).trans (p2.2 hn).symm)
  refine m_icmp_eq Z.1 1295 dL_law_640 (by decide) (fun _ => ?_) (fun h => absurd x3 h)
  exact kk g2
set_option maxRecDepth 20000 in
set_option maxHeartbeats 4000000 in
theorem lc_13 (Z : LC X p s m meth c b N xs) (hi : 0 ≤ i.toInt ∧ i.toInt + 7 ≤ N) (hcl : cells ≤ room_1.cells) (hsl : slots ≤ room_1.slots) {g : Mem} (hI : Inv g) (hX0 : FX g) (hM0 : FM g) (hR0 : hs_Rq g) (kk : ∀ g2 : Mem, Wm X p l e room_1 s m #[Value.ref b] below meth c 4 cells slots Q g2 1295 (lvL X b i) []) : Wm X p l e room_1 s m #[Value.ref b] below meth c 4 cells slots Q g 645 (lvL X b i) [] := by
  refine m_aload_n Z.1 dL_law_645 1 rfl ?_
  refine l_arg Z hi (1 : Int32) dL_law_646 dL_law_647 dL_law_648 dL_law_649 dL_law_650 (by decide) (by decide) ?_
  refine l_arg Z hi (2 : Int32) dL_law_651 dL_law_652 dL_law_653 dL_law_654 dL_law_655 (by decide) (by decide) ?_
  refine m_invV Z.1 cal_X8_path sh_0 rfl (c_X8_path_f l Z.1.2.2.2.2.2.2.1 g (ar xs i (1 : Int32)) (ar xs i (2 : Int32)) hI hX0) lk_L_68 im_X8_path se_X8_path (by decide) rfl rfl (Nat.le_of_ble_eq_true rfl) dL_law_656 ⟨hcl, hsl⟩ (rI fun r1 g1 h1 => ?_)
  obtain ⟨hI1, hK1, p1⟩ := h1
  have hM1 : FM g1 := hM0.of hK1 (by decide)
  have hR1 : hs_Rq g1 := fun t ht => by rw [hK1.1 35 (by decide)]; exact hR0 t ht
  refine m_aload_n Z.1 dL_law_659 2 rfl ?_
  refine l_arg Z hi (1 : Int32) dL_law_660 dL_law_661 dL_law_662 dL_law_663 dL_law_664 (by decide) (by decide) ?_
  refine l_arg Z hi (2 : Int32) dL_law_665 dL_law_666 dL_law_667 dL_law_668 dL_law_669 (by decide) (by decide) ?_
  refine m_invV Z.1 cal_X9_path sh_34 rfl (c_X9_path_f l Z.1.2.2.2.2.2.2.1 g1 (ar xs i (1 : Int32)) (ar xs i (2 : Int32)) hI1 hM1) lk_L_71 im_X9_path se_X9_path (by decide) rfl rfl (Nat.le_of_ble_eq_true rfl) dL_law_670 ⟨hcl, hsl⟩ (rI fun r2 g2 h2 => ?_)
  obtain ⟨hI2, hK2, p2⟩ := h2
  have x3 : r1 = r2 := Int32.toInt_inj.mp (by omega)
  refine m_icmp_eq Z.1 1295 dL_law_673 (by decide) (fun _ => ?_) (fun h => absurd x3 h)
  exact kk g2
set_option maxRecDepth 20000 in
set_option maxHeartbeats 4000000 in
theorem lc_14 (Z : LC X p s m meth c b N xs) (hi : 0 ≤ i.toInt ∧ i.toInt + 7 ≤ N) (hcl : cells ≤ room_1.cells) (hsl : slots ≤ room_1.slots) {g : Mem} (hI : Inv g) (hX0 : FX g) (hM0 : FM g) (hR0 : hs_Rq g) (kk : ∀ g2 : Mem, Wm X p l e room_1 s m #[Value.ref b] below meth c 4 cells slots Q g2 1295 (lvL X b i) []) : Wm X p l e room_1 s m #[Value.ref b] below meth c 4 cells slots Q g 678 (lvL X b i) [] := by
  refine m_aload_n Z.1 dL_law_678 1 rfl ?_
  refine l_arg Z hi (1 : Int32) dL_law_679 dL_law_680 dL_law_681 dL_law_682 dL_law_683 (by decide) (by decide) ?_
  refine l_arg Z hi (2 : Int32) dL_law_684 dL_law_685 dL_law_686 dL_law_687 dL_law_688 (by decide) (by decide) ?_
  refine m_invV Z.1 cal_X8_steps sh_0 rfl (c_X8_steps_f l Z.1.2.2.2.2.2.2.1 g (ar xs i (1 : Int32)) (ar xs i (2 : Int32)) hI hX0) lk_L_72 im_X8_steps se_X8_steps (by decide) rfl rfl (Nat.le_of_ble_eq_true rfl) dL_law_689 ⟨hcl, hsl⟩ (rI fun r1 g1 h1 => ?_)
  obtain ⟨hI1, hK1, p1⟩ := h1
  have hM1 : FM g1 := hM0.of hK1 (by decide)
  have hR1 : hs_Rq g1 := fun t ht => by rw [hK1.1 35 (by decide)]; exact hR0 t ht
  refine m_aload_n Z.1 dL_law_692 2 rfl ?_
  refine l_arg Z hi (1 : Int32) dL_law_693 dL_law_694 dL_law_695 dL_law_696 dL_law_697 (by decide) (by decide) ?_
  refine l_arg Z hi (2 : Int32) dL_law_698 dL_law_699 dL_law_700 dL_law_701 dL_law_702 (by decide) (by decide) ?_
  refine m_invV Z.1 cal_X9_steps sh_34 rfl (c_X9_steps_f l Z.1.2.2.2.2.2.2.1 g1 (ar xs i (1 : Int32)) (ar xs i (2 : Int32)) hI1 hM1) lk_L_75 im_X9_steps se_X9_steps (by decide) rfl rfl (Nat.le_of_ble_eq_true rfl) dL_law_703 ⟨hcl, hsl⟩ (rI fun r2 g2 h2 => ?_)
  obtain ⟨hI2, hK2, p2⟩ := h2
  have x3 : r1 = r2 := Int32.toInt_inj.mp (by omega)
  refine m_icmp_eq Z.1 1295 dL_law_706 (by decide) (fun _ => ?_) (fun h => absurd x3 h)
  exact kk g2
set_option maxRecDepth 20000 in
set_option maxHeartbeats 4000000 in
theorem lc_15 (Z : LC X p s m meth c b N xs) (hi : 0 ≤ i.toInt ∧ i.toInt + 7 ≤ N) (hcl : cells ≤ room_1.cells) (hsl : slots ≤ room_1.slots) {g : Mem} (hI : Inv g) (hX0 : FX g) (hM0 : FM g) (hR0 : hs_Rq g) (kk : ∀ g2 : Mem, Wm X p l e room_1 s m #[Value.ref b] below meth c 4 cells slots Q g2 1295 (lvL X b i) []) : Wm X p l e room_1 s m #[Value.ref b] below meth c 4 cells slots Q g 711 (lvL X b i) [] := by
  refine m_aload_n Z.1 dL_law_711 1 rfl ?_
  refine l_arg Z hi (1 : Int32) dL_law_712 dL_law_713 dL_law_714 dL_law_715 dL_law_716 (by decide) (by decide) ?_
  refine l_arg Z hi (2 : Int32) dL_law_717 dL_law_718 dL_law_719 dL_law_720 dL_law_721 (by decide) (by decide) ?_
  refine m_invV Z.1 cal_X8_proof sh_0 rfl (c_X8_proof_f l Z.1.2.2.2.2.2.2.1 g (ar xs i (1 : Int32)) (ar xs i (2 : Int32)) hI hX0) lk_L_76 im_X8_proof se_X8_proof (by decide) rfl rfl (Nat.le_of_ble_eq_true rfl) dL_law_722 ⟨hcl, hsl⟩ (rI fun r1 g1 h1 => ?_)
  obtain ⟨e1, p1⟩ := h1
  subst g1
  refine m_aload_n Z.1 dL_law_725 2 rfl ?_
  refine l_arg Z hi (1 : Int32) dL_law_726 dL_law_727 dL_law_728 dL_law_729 dL_law_730 (by decide) (by decide) ?_
  refine l_arg Z hi (2 : Int32) dL_law_731 dL_law_732 dL_law_733 dL_law_734 dL_law_735 (by decide) (by decide) ?_
  refine m_invV Z.1 cal_X9_proof sh_34 rfl (c_X9_proof_f l Z.1.2.2.2.2.2.2.1 g (ar xs i (1 : Int32)) (ar xs i (2 : Int32)) hI hM0) lk_L_79 im_X9_proof se_X9_proof (by decide) rfl rfl (Nat.le_of_ble_eq_true rfl) dL_law_736 ⟨hcl, hsl⟩ (rI fun r2 g2 h2 => ?_)
  obtain ⟨e2, p2⟩ := h2
  subst g2
  have x3 : r1 = r2 := Int32.toInt_inj.mp (by omega)
  refine m_icmp_eq Z.1 1295 dL_law_739 (by decide) (fun _ => ?_) (fun h => absurd x3 h)
  exact kk g
set_option maxRecDepth 20000 in
set_option maxHeartbeats 4000000 in
theorem lc_16 (Z : LC X p s m meth c b N xs) (hi : 0 ≤ i.toInt ∧ i.toInt + 7 ≤ N) (hcl : cells ≤ room_1.cells) (hsl : slots ≤ room_1.slots) {g : Mem} (hI : Inv g) (hX0 : FX g) (hM0 : FM g) (hR0 : hs_Rq g) (kk : ∀ g2 : Mem, Wm X p l e room_1 s m #[Value.ref b] below meth c 4 cells slots Q g2 1295 (lvL X b i) []) : Wm X p l e room_1 s m #[Value.ref b] below meth c 4 cells slots Q g 744 (lvL X b i) [] := by
  refine m_aload_n Z.1 dL_law_744 1 rfl ?_
  refine l_arg Z hi (1 : Int32) dL_law_745 dL_law_746 dL_law_747 dL_law_748 dL_law_749 (by decide) (by decide) ?_
  refine l_arg Z hi (2 : Int32) dL_law_750 dL_law_751 dL_law_752 dL_law_753 dL_law_754 (by decide) (by decide) ?_
  refine l_arg Z hi (3 : Int32) dL_law_755 dL_law_756 dL_law_757 dL_law_758 dL_law_759 (by decide) (by decide) ?_
  refine m_invV Z.1 cal_X8_spoilProof sh_0 rfl (c_X8_spoilProof_f l Z.1.2.2.2.2.2.2.1 g (ar xs i (1 : Int32)) (ar xs i (2 : Int32)) (ar xs i (3 : Int32)) hI hX0) lk_L_80 im_X8_spoilProof se_X8_spoilProof (by decide) rfl rfl (Nat.le_of_ble_eq_true rfl) dL_law_760 ⟨hcl, hsl⟩ (rI fun r1 g1 h1 => ?_)
  obtain ⟨hI1, hK1, p1⟩ := h1
  have hM1 : FM g1 := hM0.of hK1 (by decide)
  have hR1 : hs_Rq g1 := fun t ht => by rw [hK1.1 35 (by decide)]; exact hR0 t ht
  refine m_aload_n Z.1 dL_law_763 2 rfl ?_
  refine l_arg Z hi (1 : Int32) dL_law_764 dL_law_765 dL_law_766 dL_law_767 dL_law_768 (by decide) (by decide) ?_
  refine l_arg Z hi (2 : Int32) dL_law_769 dL_law_770 dL_law_771 dL_law_772 dL_law_773 (by decide) (by decide) ?_
  refine l_arg Z hi (3 : Int32) dL_law_774 dL_law_775 dL_law_776 dL_law_777 dL_law_778 (by decide) (by decide) ?_
  refine m_invV Z.1 cal_X9_spoilProof sh_34 rfl (c_X9_spoilProof_f l Z.1.2.2.2.2.2.2.1 g1 (ar xs i (1 : Int32)) (ar xs i (2 : Int32)) (ar xs i (3 : Int32)) hI1 hM1) lk_L_83 im_X9_spoilProof se_X9_spoilProof (by decide) rfl rfl (Nat.le_of_ble_eq_true rfl) dL_law_779 ⟨hcl, hsl⟩ (rI fun r2 g2 h2 => ?_)
  obtain ⟨hI2, hK2, p2⟩ := h2
  have x3 : r1 = r2 := Int32.toInt_inj.mp (by omega)
  refine m_icmp_eq Z.1 1295 dL_law_782 (by decide) (fun _ => ?_) (fun h => absurd x3 h)
  exact kk g2
set_option maxRecDepth 20000 in
set_option maxHeartbeats 4000000 in
theorem lc_17 (Z : LC X p s m meth c b N xs) (hi : 0 ≤ i.toInt ∧ i.toInt + 7 ≤ N) (hcl : cells ≤ room_1.cells) (hsl : slots ≤ room_1.slots) {g : Mem} (hI : Inv g) (hX0 : FX g) (hM0 : FM g) (hR0 : hs_Rq g) (kk : ∀ g2 : Mem, Wm X p l e room_1 s m #[Value.ref b] below meth c 4 cells slots Q g2 1295 (lvL X b i) []) : Wm X p l e room_1 s m #[Value.ref b] below meth c 4 cells slots Q g 787 (lvL X b i) [] := by
  refine m_aload_n Z.1 dL_law_787 1 rfl ?_
  refine l_arg Z hi (1 : Int32) dL_law_788 dL_law_789 dL_law_790 dL_law_791 dL_law_792 (by decide) (by decide) ?_
  refine m_invV Z.1 cal_X8_cutProof sh_0 rfl (c_X8_cutProof_f l Z.1.2.2.2.2.2.2.1 g (ar xs i (1 : Int32)) hI hX0) lk_L_84 im_X8_cutProof se_X8_cutProof (by decide) rfl rfl (Nat.le_of_ble_eq_true rfl) dL_law_793 ⟨hcl, hsl⟩ (rI fun r1 g1 h1 => ?_)
  obtain ⟨hI1, hK1, p1⟩ := h1
  have hM1 : FM g1 := hM0.of hK1 (by decide)
  have hR1 : hs_Rq g1 := fun t ht => by rw [hK1.1 35 (by decide)]; exact hR0 t ht
  refine m_aload_n Z.1 dL_law_796 2 rfl ?_
  refine l_arg Z hi (1 : Int32) dL_law_797 dL_law_798 dL_law_799 dL_law_800 dL_law_801 (by decide) (by decide) ?_
  refine m_invV Z.1 cal_X9_cutProof sh_34 rfl (c_X9_cutProof_f l Z.1.2.2.2.2.2.2.1 g1 (ar xs i (1 : Int32)) hI1 hM1) lk_L_87 im_X9_cutProof se_X9_cutProof (by decide) rfl rfl (Nat.le_of_ble_eq_true rfl) dL_law_802 ⟨hcl, hsl⟩ (rI fun r2 g2 h2 => ?_)
  obtain ⟨hI2, hK2, p2⟩ := h2
  have x3 : r1 = r2 := Int32.toInt_inj.mp (by omega)
  refine m_icmp_eq Z.1 1295 dL_law_805 (by decide) (fun _ => ?_) (fun h => absurd x3 h)
  exact kk g2
set_option maxRecDepth 20000 in
set_option maxHeartbeats 4000000 in
theorem lc_18 (Z : LC X p s m meth c b N xs) (hi : 0 ≤ i.toInt ∧ i.toInt + 7 ≤ N) (hcl : cells ≤ room_1.cells) (hsl : slots ≤ room_1.slots) {g : Mem} (hI : Inv g) (hX0 : FX g) (hM0 : FM g) (hR0 : hs_Rq g) (kk : ∀ g2 : Mem, Wm X p l e room_1 s m #[Value.ref b] below meth c 4 cells slots Q g2 1295 (lvL X b i) []) : Wm X p l e room_1 s m #[Value.ref b] below meth c 4 cells slots Q g 810 (lvL X b i) [] := by
  refine m_aload_n Z.1 dL_law_810 1 rfl ?_
  refine l_arg Z hi (1 : Int32) dL_law_811 dL_law_812 dL_law_813 dL_law_814 dL_law_815 (by decide) (by decide) ?_
  refine l_arg Z hi (2 : Int32) dL_law_816 dL_law_817 dL_law_818 dL_law_819 dL_law_820 (by decide) (by decide) ?_
  refine m_invV Z.1 cal_X8_keep sh_0 rfl (c_X8_keep_f l Z.1.2.2.2.2.2.2.1 g (ar xs i (1 : Int32)) (ar xs i (2 : Int32)) hI hX0) lk_L_88 im_X8_keep se_X8_keep (by decide) rfl rfl (Nat.le_of_ble_eq_true rfl) dL_law_821 ⟨hcl, hsl⟩ (rI fun r1 g1 h1 => ?_)
  obtain ⟨hI1, hK1, p1⟩ := h1
  have hM1 : FM g1 := hM0.of hK1 (by decide)
  have hR1 : hs_Rq g1 := fun t ht => by rw [hK1.1 35 (by decide)]; exact hR0 t ht
  refine m_aload_n Z.1 dL_law_824 2 rfl ?_
  refine l_arg Z hi (1 : Int32) dL_law_825 dL_law_826 dL_law_827 dL_law_828 dL_law_829 (by decide) (by decide) ?_
  refine l_arg Z hi (2 : Int32) dL_law_830 dL_law_831 dL_law_832 dL_law_833 dL_law_834 (by decide) (by decide) ?_
  refine m_invV Z.1 cal_X9_keep sh_34 rfl (c_X9_keep_f l Z.1.2.2.2.2.2.2.1 g1 (ar xs i (1 : Int32)) (ar xs i (2 : Int32)) hI1 hM1) lk_L_91 im_X9_keep se_X9_keep (by decide) rfl rfl (Nat.le_of_ble_eq_true rfl) dL_law_835 ⟨hcl, hsl⟩ (rI fun r2 g2 h2 => ?_)
  obtain ⟨hI2, hK2, p2⟩ := h2
  have x3 : r1 = r2 := Int32.toInt_inj.mp (by omega)
  refine m_icmp_eq Z.1 1295 dL_law_838 (by decide) (fun _ => ?_) (fun h => absurd x3 h)
  exact kk g2
set_option maxRecDepth 20000 in
set_option maxHeartbeats 4000000 in
theorem lc_19 (Z : LC X p s m meth c b N xs) (hi : 0 ≤ i.toInt ∧ i.toInt + 7 ≤ N) (hcl : cells ≤ room_1.cells) (hsl : slots ≤ room_1.slots) {g : Mem} (hI : Inv g) (hX0 : FX g) (hM0 : FM g) (hR0 : hs_Rq g) (kk : ∀ g2 : Mem, Wm X p l e room_1 s m #[Value.ref b] below meth c 4 cells slots Q g2 1295 (lvL X b i) []) : Wm X p l e room_1 s m #[Value.ref b] below meth c 4 cells slots Q g 843 (lvL X b i) [] := by
  refine m_aload_n Z.1 dL_law_843 1 rfl ?_
  refine l_arg Z hi (1 : Int32) dL_law_844 dL_law_845 dL_law_846 dL_law_847 dL_law_848 (by decide) (by decide) ?_
  refine l_arg Z hi (2 : Int32) dL_law_849 dL_law_850 dL_law_851 dL_law_852 dL_law_853 (by decide) (by decide) ?_
  refine m_invV Z.1 cal_X8_kept sh_0 rfl (c_X8_kept_f l Z.1.2.2.2.2.2.2.1 g (ar xs i (1 : Int32)) (ar xs i (2 : Int32)) hI hX0) lk_L_92 im_X8_kept se_X8_kept (by decide) rfl rfl (Nat.le_of_ble_eq_true rfl) dL_law_854 ⟨hcl, hsl⟩ (rI fun r1 g1 h1 => ?_)
  obtain ⟨e1, p1⟩ := h1
  subst g1
  refine m_aload_n Z.1 dL_law_857 2 rfl ?_
  refine l_arg Z hi (1 : Int32) dL_law_858 dL_law_859 dL_law_860 dL_law_861 dL_law_862 (by decide) (by decide) ?_
  refine l_arg Z hi (2 : Int32) dL_law_863 dL_law_864 dL_law_865 dL_law_866 dL_law_867 (by decide) (by decide) ?_
  refine m_invV Z.1 cal_X9_kept sh_34 rfl (c_X9_kept_f l Z.1.2.2.2.2.2.2.1 g (ar xs i (1 : Int32)) (ar xs i (2 : Int32)) hI hM0) lk_L_95 im_X9_kept se_X9_kept (by decide) rfl rfl (Nat.le_of_ble_eq_true rfl) dL_law_868 ⟨hcl, hsl⟩ (rI fun r2 g2 h2 => ?_)
  obtain ⟨e2, p2⟩ := h2
  subst g2
  have x3 : r1 = r2 := Int32.toInt_inj.mp (by omega)
  refine m_icmp_eq Z.1 1295 dL_law_871 (by decide) (fun _ => ?_) (fun h => absurd x3 h)
  exact kk g
set_option maxRecDepth 20000 in
set_option maxHeartbeats 4000000 in
theorem lc_20 (Z : LC X p s m meth c b N xs) (hi : 0 ≤ i.toInt ∧ i.toInt + 7 ≤ N) (hcl : cells ≤ room_1.cells) (hsl : slots ≤ room_1.slots) {g : Mem} (hI : Inv g) (hX0 : FX g) (hM0 : FM g) (hR0 : hs_Rq g) (kk : ∀ g2 : Mem, Wm X p l e room_1 s m #[Value.ref b] below meth c 4 cells slots Q g2 1295 (lvL X b i) []) : Wm X p l e room_1 s m #[Value.ref b] below meth c 4 cells slots Q g 876 (lvL X b i) [] := by
  refine m_aload_n Z.1 dL_law_876 1 rfl ?_
  refine l_arg Z hi (1 : Int32) dL_law_877 dL_law_878 dL_law_879 dL_law_880 dL_law_881 (by decide) (by decide) ?_
  refine l_arg Z hi (2 : Int32) dL_law_882 dL_law_883 dL_law_884 dL_law_885 dL_law_886 (by decide) (by decide) ?_
  refine l_arg Z hi (3 : Int32) dL_law_887 dL_law_888 dL_law_889 dL_law_890 dL_law_891 (by decide) (by decide) ?_
  refine m_invV Z.1 cal_X8_spoilKept sh_0 rfl (c_X8_spoilKept_f l Z.1.2.2.2.2.2.2.1 g (ar xs i (1 : Int32)) (ar xs i (2 : Int32)) (ar xs i (3 : Int32)) hI hX0) lk_L_96 im_X8_spoilKept se_X8_spoilKept (by decide) rfl rfl (Nat.le_of_ble_eq_true rfl) dL_law_892 ⟨hcl, hsl⟩ (rI fun r1 g1 h1 => ?_)
  obtain ⟨hI1, hK1, p1⟩ := h1
  have hM1 : FM g1 := hM0.of hK1 (by decide)
  have hR1 : hs_Rq g1 := fun t ht => by rw [hK1.1 35 (by decide)]; exact hR0 t ht
  refine m_aload_n Z.1 dL_law_895 2 rfl ?_
  refine l_arg Z hi (1 : Int32) dL_law_896 dL_law_897 dL_law_898 dL_law_899 dL_law_900 (by decide) (by decide) ?_
  refine l_arg Z hi (2 : Int32) dL_law_901 dL_law_902 dL_law_903 dL_law_904 dL_law_905 (by decide) (by decide) ?_
  refine l_arg Z hi (3 : Int32) dL_law_906 dL_law_907 dL_law_908 dL_law_909 dL_law_910 (by decide) (by decide) ?_
  refine m_invV Z.1 cal_X9_spoilKept sh_34 rfl (c_X9_spoilKept_f l Z.1.2.2.2.2.2.2.1 g1 (ar xs i (1 : Int32)) (ar xs i (2 : Int32)) (ar xs i (3 : Int32)) hI1 hM1) lk_L_99 im_X9_spoilKept se_X9_spoilKept (by decide) rfl rfl (Nat.le_of_ble_eq_true rfl) dL_law_911 ⟨hcl, hsl⟩ (rI fun r2 g2 h2 => ?_)
  obtain ⟨hI2, hK2, p2⟩ := h2
  have x3 : r1 = r2 := Int32.toInt_inj.mp (by omega)
  refine m_icmp_eq Z.1 1295 dL_law_914 (by decide) (fun _ => ?_) (fun h => absurd x3 h)
  exact kk g2
set_option maxRecDepth 20000 in
set_option maxHeartbeats 4000000 in
theorem lc_21 (Z : LC X p s m meth c b N xs) (hi : 0 ≤ i.toInt ∧ i.toInt + 7 ≤ N) (hcl : cells ≤ room_1.cells) (hsl : slots ≤ room_1.slots) {g : Mem} (hI : Inv g) (hX0 : FX g) (hM0 : FM g) (hR0 : hs_Rq g) (kk : ∀ g2 : Mem, Wm X p l e room_1 s m #[Value.ref b] below meth c 4 cells slots Q g2 1295 (lvL X b i) []) : Wm X p l e room_1 s m #[Value.ref b] below meth c 4 cells slots Q g 919 (lvL X b i) [] := by
  refine m_aload_n Z.1 dL_law_919 1 rfl ?_
  refine l_arg Z hi (1 : Int32) dL_law_920 dL_law_921 dL_law_922 dL_law_923 dL_law_924 (by decide) (by decide) ?_
  refine l_arg Z hi (2 : Int32) dL_law_925 dL_law_926 dL_law_927 dL_law_928 dL_law_929 (by decide) (by decide) ?_
  refine l_arg Z hi (3 : Int32) dL_law_930 dL_law_931 dL_law_932 dL_law_933 dL_law_934 (by decide) (by decide) ?_
  refine l_arg Z hi (4 : Int32) dL_law_935 dL_law_936 dL_law_937 dL_law_938 dL_law_939 (by decide) (by decide) ?_
  refine m_invV Z.1 cal_X8_judgePath sh_0 rfl (c_X8_judgePath_f l Z.1.2.2.2.2.2.2.1 g (ar xs i (1 : Int32)) (ar xs i (2 : Int32)) (ar xs i (3 : Int32)) (ar xs i (4 : Int32)) hI hX0) lk_L_100 im_X8_judgePath se_X8_judgePath (by decide) rfl rfl (Nat.le_of_ble_eq_true rfl) dL_law_940 ⟨hcl, hsl⟩ (rI fun r1 g1 h1 => ?_)
  obtain ⟨hI1, hK1, p1⟩ := h1
  have hM1 : FM g1 := hM0.of hK1 (by decide)
  have hR1 : hs_Rq g1 := fun t ht => by rw [hK1.1 35 (by decide)]; exact hR0 t ht
  refine m_aload_n Z.1 dL_law_943 2 rfl ?_
  refine l_arg Z hi (1 : Int32) dL_law_944 dL_law_945 dL_law_946 dL_law_947 dL_law_948 (by decide) (by decide) ?_
  refine l_arg Z hi (2 : Int32) dL_law_949 dL_law_950 dL_law_951 dL_law_952 dL_law_953 (by decide) (by decide) ?_
  refine l_arg Z hi (3 : Int32) dL_law_954 dL_law_955 dL_law_956 dL_law_957 dL_law_958 (by decide) (by decide) ?_
  refine l_arg Z hi (4 : Int32) dL_law_959 dL_law_960 dL_law_961 dL_law_962 dL_law_963 (by decide) (by decide) ?_
  refine m_invV Z.1 cal_X9_judgePath sh_34 rfl (c_X9_judgePath_f l Z.1.2.2.2.2.2.2.1 g1 (ar xs i (1 : Int32)) (ar xs i (2 : Int32)) (ar xs i (3 : Int32)) (ar xs i (4 : Int32)) hI1 hM1) lk_L_104 im_X9_judgePath se_X9_judgePath (by decide) rfl rfl (Nat.le_of_ble_eq_true rfl) dL_law_964 ⟨hcl, hsl⟩ (rI fun r2 g2 h2 => ?_)
  obtain ⟨hI2, hK2, p2⟩ := h2
  have x3 : r1 = r2 := Int32.toInt_inj.mp (by omega)
  refine m_icmp_eq Z.1 1295 dL_law_967 (by decide) (fun _ => ?_) (fun h => absurd x3 h)
  exact kk g2
set_option maxRecDepth 20000 in
set_option maxHeartbeats 4000000 in
theorem lc_22 (Z : LC X p s m meth c b N xs) (hi : 0 ≤ i.toInt ∧ i.toInt + 7 ≤ N) (hcl : cells ≤ room_1.cells) (hsl : slots ≤ room_1.slots) {g : Mem} (hI : Inv g) (hX0 : FX g) (hM0 : FM g) (hR0 : hs_Rq g) (kk : ∀ g2 : Mem, Wm X p l e room_1 s m #[Value.ref b] below meth c 4 cells slots Q g2 1295 (lvL X b i) []) : Wm X p l e room_1 s m #[Value.ref b] below meth c 4 cells slots Q g 972 (lvL X b i) [] := by
  refine m_aload_n Z.1 dL_law_972 1 rfl ?_
  refine l_arg Z hi (1 : Int32) dL_law_973 dL_law_974 dL_law_975 dL_law_976 dL_law_977 (by decide) (by decide) ?_
  refine l_arg Z hi (2 : Int32) dL_law_978 dL_law_979 dL_law_980 dL_law_981 dL_law_982 (by decide) (by decide) ?_
  refine l_arg Z hi (3 : Int32) dL_law_983 dL_law_984 dL_law_985 dL_law_986 dL_law_987 (by decide) (by decide) ?_
  refine l_arg Z hi (4 : Int32) dL_law_988 dL_law_989 dL_law_990 dL_law_991 dL_law_992 (by decide) (by decide) ?_
  refine m_invV Z.1 cal_X8_judgeSteps sh_0 rfl (c_X8_judgeSteps_f l Z.1.2.2.2.2.2.2.1 g (ar xs i (1 : Int32)) (ar xs i (2 : Int32)) (ar xs i (3 : Int32)) (ar xs i (4 : Int32)) hI hX0) lk_L_105 im_X8_judgeSteps se_X8_judgeSteps (by decide) rfl rfl (Nat.le_of_ble_eq_true rfl) dL_law_993 ⟨hcl, hsl⟩ (rI fun r1 g1 h1 => ?_)
  obtain ⟨hI1, hK1, p1⟩ := h1
  have hM1 : FM g1 := hM0.of hK1 (by decide)
  have hR1 : hs_Rq g1 := fun t ht => by rw [hK1.1 35 (by decide)]; exact hR0 t ht
  refine m_aload_n Z.1 dL_law_996 2 rfl ?_
  refine l_arg Z hi (1 : Int32) dL_law_997 dL_law_998 dL_law_999 dL_law_1000 dL_law_1001 (by decide) (by decide) ?_
  refine l_arg Z hi (2 : Int32) dL_law_1002 dL_law_1003 dL_law_1004 dL_law_1005 dL_law_1006 (by decide) (by decide) ?_
  refine l_arg Z hi (3 : Int32) dL_law_1007 dL_law_1008 dL_law_1009 dL_law_1010 dL_law_1011 (by decide) (by decide) ?_
  refine l_arg Z hi (4 : Int32) dL_law_1012 dL_law_1013 dL_law_1014 dL_law_1015 dL_law_1016 (by decide) (by decide) ?_
  refine m_invV Z.1 cal_X9_judgeSteps sh_34 rfl (c_X9_judgeSteps_f l Z.1.2.2.2.2.2.2.1 g1 (ar xs i (1 : Int32)) (ar xs i (2 : Int32)) (ar xs i (3 : Int32)) (ar xs i (4 : Int32)) hI1 hM1) lk_L_108 im_X9_judgeSteps se_X9_judgeSteps (by decide) rfl rfl (Nat.le_of_ble_eq_true rfl) dL_law_1017 ⟨hcl, hsl⟩ (rI fun r2 g2 h2 => ?_)
  obtain ⟨hI2, hK2, p2⟩ := h2
  have x3 : r1 = r2 := Int32.toInt_inj.mp (by omega)
  refine m_icmp_eq Z.1 1295 dL_law_1020 (by decide) (fun _ => ?_) (fun h => absurd x3 h)
  exact kk g2
set_option maxRecDepth 20000 in
set_option maxHeartbeats 4000000 in
theorem lc_23 (Z : LC X p s m meth c b N xs) (hi : 0 ≤ i.toInt ∧ i.toInt + 7 ≤ N) (hcl : cells ≤ room_1.cells) (hsl : slots ≤ room_1.slots) {g : Mem} (hI : Inv g) (hX0 : FX g) (hM0 : FM g) (hR0 : hs_Rq g) (kk : ∀ g2 : Mem, Wm X p l e room_1 s m #[Value.ref b] below meth c 4 cells slots Q g2 1295 (lvL X b i) []) : Wm X p l e room_1 s m #[Value.ref b] below meth c 4 cells slots Q g 1025 (lvL X b i) [] := by
  refine m_aload_n Z.1 dL_law_1025 1 rfl ?_
  refine m_invV Z.1 cal_X8_sync sh_0 rfl (c_X8_sync_f l Z.1.2.2.2.2.2.2.1 g hI hX0) lk_L_109 im_X8_sync se_X8_sync (by decide) rfl rfl (Nat.le_of_ble_eq_true rfl) dL_law_1026 ⟨hcl, hsl⟩ (rI fun r1 g1 h1 => ?_)
  obtain ⟨hI1, hK1, p1⟩ := h1
  have hM1 : FM g1 := hM0.of hK1 (by decide)
  have hR1 : hs_Rq g1 := fun t ht => by rw [hK1.1 35 (by decide)]; exact hR0 t ht
  refine m_aload_n Z.1 dL_law_1029 2 rfl ?_
  refine m_invV Z.1 cal_X9_sync sh_34 rfl (c_X9_sync_f l Z.1.2.2.2.2.2.2.1 g1 hI1 hM1) lk_L_113 im_X9_sync se_X9_sync (by decide) rfl rfl (Nat.le_of_ble_eq_true rfl) dL_law_1030 ⟨hcl, hsl⟩ (rI fun r2 g2 h2 => ?_)
  obtain ⟨hI2, hK2, p2⟩ := h2
  have x3 : r1 = r2 := Int32.toInt_inj.mp (by omega)
  refine m_icmp_eq Z.1 1295 dL_law_1033 (by decide) (fun _ => ?_) (fun h => absurd x3 h)
  exact kk g2
set_option maxRecDepth 20000 in
set_option maxHeartbeats 4000000 in
theorem lc_24 (Z : LC X p s m meth c b N xs) (hi : 0 ≤ i.toInt ∧ i.toInt + 7 ≤ N) (hcl : cells ≤ room_1.cells) (hsl : slots ≤ room_1.slots) {g : Mem} (hI : Inv g) (hX0 : FX g) (hM0 : FM g) (hR0 : hs_Rq g) (kk : ∀ g2 : Mem, Wm X p l e room_1 s m #[Value.ref b] below meth c 4 cells slots Q g2 1295 (lvL X b i) []) : Wm X p l e room_1 s m #[Value.ref b] below meth c 4 cells slots Q g 1038 (lvL X b i) [] := by
  refine m_aload_n Z.1 dL_law_1038 1 rfl ?_
  refine l_arg Z hi (1 : Int32) dL_law_1039 dL_law_1040 dL_law_1041 dL_law_1042 dL_law_1043 (by decide) (by decide) ?_
  refine m_invV Z.1 cal_X8_cut sh_0 rfl (c_X8_cut_f l Z.1.2.2.2.2.2.2.1 g (ar xs i (1 : Int32)) hI hX0) lk_L_114 im_X8_cut se_X8_cut (by decide) rfl rfl (Nat.le_of_ble_eq_true rfl) dL_law_1044 ⟨hcl, hsl⟩ (rI fun r1 g1 h1 => ?_)
  obtain ⟨hI1, hK1, p1⟩ := h1
  have hM1 : FM g1 := hM0.of hK1 (by decide)
  have hR1 : hs_Rq g1 := fun t ht => by rw [hK1.1 35 (by decide)]; exact hR0 t ht
  refine m_aload_n Z.1 dL_law_1047 2 rfl ?_
  refine l_arg Z hi (1 : Int32) dL_law_1048 dL_law_1049 dL_law_1050 dL_law_1051 dL_law_1052 (by decide) (by decide) ?_
  refine m_invV Z.1 cal_X9_cut sh_34 rfl (c_X9_cut_f l Z.1.2.2.2.2.2.2.1 g1 (ar xs i (1 : Int32)) hI1 hM1) lk_L_117 im_X9_cut se_X9_cut (by decide) rfl rfl (Nat.le_of_ble_eq_true rfl) dL_law_1053 ⟨hcl, hsl⟩ (rI fun r2 g2 h2 => ?_)
  obtain ⟨hI2, hK2, p2⟩ := h2
  have x3 : r1 = r2 := Int32.toInt_inj.mp (by omega)
  refine m_icmp_eq Z.1 1295 dL_law_1056 (by decide) (fun _ => ?_) (fun h => absurd x3 h)
  exact kk g2
set_option maxRecDepth 20000 in
set_option maxHeartbeats 4000000 in
theorem lc_25 (Z : LC X p s m meth c b N xs) (hi : 0 ≤ i.toInt ∧ i.toInt + 7 ≤ N) (hcl : cells ≤ room_1.cells) (hsl : slots ≤ room_1.slots) {g : Mem} (hI : Inv g) (hX0 : FX g) (hM0 : FM g) (hR0 : hs_Rq g) (kk : ∀ g2 : Mem, Wm X p l e room_1 s m #[Value.ref b] below meth c 4 cells slots Q g2 1295 (lvL X b i) []) : Wm X p l e room_1 s m #[Value.ref b] below meth c 4 cells slots Q g 1061 (lvL X b i) [] := by
  refine m_aload_n Z.1 dL_law_1061 1 rfl ?_
  refine m_invV Z.1 cal_X8_open sh_0 rfl (c_X8_open_f l Z.1.2.2.2.2.2.2.1 g hI hX0) lk_L_118 im_X8_open se_X8_open (by decide) rfl rfl (Nat.le_of_ble_eq_true rfl) dL_law_1062 ⟨hcl, hsl⟩ (rI fun r1 g1 h1 => ?_)
  obtain ⟨hI1, hK1, p1⟩ := h1
  have hM1 : FM g1 := hM0.of hK1 (by decide)
  have hR1 : hs_Rq g1 := fun t ht => by rw [hK1.1 35 (by decide)]; exact hR0 t ht
  refine m_aload_n Z.1 dL_law_1065 2 rfl ?_
  refine m_invV Z.1 cal_X9_open sh_34 rfl (c_X9_open_f l Z.1.2.2.2.2.2.2.1 g1 hI1 hM1) lk_L_121 im_X9_open se_X9_open (by decide) rfl rfl (Nat.le_of_ble_eq_true rfl) dL_law_1066 ⟨hcl, hsl⟩ (rI fun r2 g2 h2 => ?_)
  obtain ⟨hI2, hK2, p2⟩ := h2
  have x3 : r1 = r2 := Int32.toInt_inj.mp (by omega)
  refine m_icmp_eq Z.1 1295 dL_law_1069 (by decide) (fun _ => ?_) (fun h => absurd x3 h)
  exact kk g2
set_option maxRecDepth 20000 in
set_option maxHeartbeats 4000000 in
theorem lc_26 (Z : LC X p s m meth c b N xs) (hi : 0 ≤ i.toInt ∧ i.toInt + 7 ≤ N) (hcl : cells ≤ room_1.cells) (hsl : slots ≤ room_1.slots) {g : Mem} (hI : Inv g) (hX0 : FX g) (hM0 : FM g) (hR0 : hs_Rq g) (kk : ∀ g2 : Mem, Wm X p l e room_1 s m #[Value.ref b] below meth c 4 cells slots Q g2 1295 (lvL X b i) []) : Wm X p l e room_1 s m #[Value.ref b] below meth c 4 cells slots Q g 1074 (lvL X b i) [] := by
  refine m_aload_n Z.1 dL_law_1074 1 rfl ?_
  refine l_arg Z hi (1 : Int32) dL_law_1075 dL_law_1076 dL_law_1077 dL_law_1078 dL_law_1079 (by decide) (by decide) ?_
  refine m_invV Z.1 cal_X8_disk sh_0 rfl (c_X8_disk_f l Z.1.2.2.2.2.2.2.1 g (ar xs i (1 : Int32)) hI hX0) lk_L_122 im_X8_disk se_X8_disk (by decide) rfl rfl (Nat.le_of_ble_eq_true rfl) dL_law_1080 ⟨hcl, hsl⟩ (rI fun r1 g1 h1 => ?_)
  obtain ⟨e1, p1⟩ := h1
  subst g1
  refine m_aload_n Z.1 dL_law_1083 2 rfl ?_
  refine l_arg Z hi (1 : Int32) dL_law_1084 dL_law_1085 dL_law_1086 dL_law_1087 dL_law_1088 (by decide) (by decide) ?_
  refine m_invV Z.1 cal_X9_disk sh_34 rfl (c_X9_disk_f l Z.1.2.2.2.2.2.2.1 g (ar xs i (1 : Int32)) hI hM0) lk_L_125 im_X9_disk se_X9_disk (by decide) rfl rfl (Nat.le_of_ble_eq_true rfl) dL_law_1089 ⟨hcl, hsl⟩ (rI fun r2 g2 h2 => ?_)
  obtain ⟨e2, p2⟩ := h2
  subst g2
  have x3 : r1 = r2 := Int32.toInt_inj.mp (by omega)
  refine m_icmp_eq Z.1 1295 dL_law_1092 (by decide) (fun _ => ?_) (fun h => absurd x3 h)
  exact kk g
set_option maxRecDepth 20000 in
set_option maxHeartbeats 4000000 in
theorem lc_27 (Z : LC X p s m meth c b N xs) (hi : 0 ≤ i.toInt ∧ i.toInt + 7 ≤ N) (hcl : cells ≤ room_1.cells) (hsl : slots ≤ room_1.slots) {g : Mem} (hI : Inv g) (hX0 : FX g) (hM0 : FM g) (hR0 : hs_Rq g) (kk : ∀ g2 : Mem, Wm X p l e room_1 s m #[Value.ref b] below meth c 4 cells slots Q g2 1295 (lvL X b i) []) : Wm X p l e room_1 s m #[Value.ref b] below meth c 4 cells slots Q g 1097 (lvL X b i) [] := by
  refine m_aload_n Z.1 dL_law_1097 1 rfl ?_
  refine l_arg Z hi (1 : Int32) dL_law_1098 dL_law_1099 dL_law_1100 dL_law_1101 dL_law_1102 (by decide) (by decide) ?_
  refine l_arg Z hi (2 : Int32) dL_law_1103 dL_law_1104 dL_law_1105 dL_law_1106 dL_law_1107 (by decide) (by decide) ?_
  refine m_invV Z.1 cal_X8_spoil sh_0 rfl (c_X8_spoil_f l Z.1.2.2.2.2.2.2.1 g (ar xs i (1 : Int32)) (ar xs i (2 : Int32)) hI hX0) lk_L_126 im_X8_spoil se_X8_spoil (by decide) rfl rfl (Nat.le_of_ble_eq_true rfl) dL_law_1108 ⟨hcl, hsl⟩ (rI fun r1 g1 h1 => ?_)
  obtain ⟨hI1, hK1, p1⟩ := h1
  have hM1 : FM g1 := hM0.of hK1 (by decide)
  have hR1 : hs_Rq g1 := fun t ht => by rw [hK1.1 35 (by decide)]; exact hR0 t ht
  refine m_aload_n Z.1 dL_law_1111 2 rfl ?_
  refine l_arg Z hi (1 : Int32) dL_law_1112 dL_law_1113 dL_law_1114 dL_law_1115 dL_law_1116 (by decide) (by decide) ?_
  refine l_arg Z hi (2 : Int32) dL_law_1117 dL_law_1118 dL_law_1119 dL_law_1120 dL_law_1121 (by decide) (by decide) ?_
  refine m_invV Z.1 cal_X9_spoil sh_34 rfl (c_X9_spoil_f l Z.1.2.2.2.2.2.2.1 g1 (ar xs i (1 : Int32)) (ar xs i (2 : Int32)) hI1 hM1) lk_L_129 im_X9_spoil se_X9_spoil (by decide) rfl rfl (Nat.le_of_ble_eq_true rfl) dL_law_1122 ⟨hcl, hsl⟩ (rI fun r2 g2 h2 => ?_)
  obtain ⟨hI2, hK2, p2⟩ := h2
  have x3 : r1 = r2 := Int32.toInt_inj.mp (by omega)
  refine m_icmp_eq Z.1 1295 dL_law_1125 (by decide) (fun _ => ?_) (fun h => absurd x3 h)
  exact kk g2
set_option maxRecDepth 20000 in
set_option maxHeartbeats 4000000 in
theorem lc_28 (Z : LC X p s m meth c b N xs) (hi : 0 ≤ i.toInt ∧ i.toInt + 7 ≤ N) (hcl : cells ≤ room_1.cells) (hsl : slots ≤ room_1.slots) {g : Mem} (hI : Inv g) (hX0 : FX g) (hM0 : FM g) (hR0 : hs_Rq g) (kk : ∀ g2 : Mem, Wm X p l e room_1 s m #[Value.ref b] below meth c 4 cells slots Q g2 1295 (lvL X b i) []) : Wm X p l e room_1 s m #[Value.ref b] below meth c 4 cells slots Q g 1130 (lvL X b i) [] := by
  refine m_aload_n Z.1 dL_law_1130 1 rfl ?_
  refine m_invV Z.1 cal_X8_audit sh_0 rfl (c_X8_audit_f l Z.1.2.2.2.2.2.2.1 g hI hX0) lk_L_130 im_X8_audit se_X8_audit (by decide) rfl rfl (Nat.le_of_ble_eq_true rfl) dL_law_1131 ⟨hcl, hsl⟩ (rI fun r1 g1 h1 => ?_)
  obtain ⟨hI1, hK1, p1⟩ := h1
  have hM1 : FM g1 := hM0.of hK1 (by decide)
  have hR1 : hs_Rq g1 := fun t ht => by rw [hK1.1 35 (by decide)]; exact hR0 t ht
  refine m_aload_n Z.1 dL_law_1134 2 rfl ?_
  refine m_invV Z.1 cal_X9_audit sh_34 rfl (c_X9_audit_f l Z.1.2.2.2.2.2.2.1 g1 hI1 hM1) lk_L_133 im_X9_audit se_X9_audit (by decide) rfl rfl (Nat.le_of_ble_eq_true rfl) dL_law_1135 ⟨hcl, hsl⟩ (rI fun r2 g2 h2 => ?_)
  obtain ⟨hI2, hK2, p2⟩ := h2
  have x3 : r1 = r2 := Int32.toInt_inj.mp (by omega)
  refine m_icmp_eq Z.1 1295 dL_law_1138 (by decide) (fun _ => ?_) (fun h => absurd x3 h)
  exact kk g2
set_option maxRecDepth 20000 in
set_option maxHeartbeats 4000000 in
theorem lc_29 (Z : LC X p s m meth c b N xs) (hi : 0 ≤ i.toInt ∧ i.toInt + 7 ≤ N) (hcl : cells ≤ room_1.cells) (hsl : slots ≤ room_1.slots) {g : Mem} (hI : Inv g) (hX0 : FX g) (hM0 : FM g) (hR0 : hs_Rq g) (kk : ∀ g2 : Mem, Wm X p l e room_1 s m #[Value.ref b] below meth c 4 cells slots Q g2 1295 (lvL X b i) []) : Wm X p l e room_1 s m #[Value.ref b] below meth c 4 cells slots Q g 1143 (lvL X b i) [] := by
  refine m_aload_n Z.1 dL_law_1143 1 rfl ?_
  refine l_arg Z hi (1 : Int32) dL_law_1144 dL_law_1145 dL_law_1146 dL_law_1147 dL_law_1148 (by decide) (by decide) ?_
  refine m_i2l Z.1 dL_law_1149 ?_
  refine m_bipush Z.1 (32 : Int32) dL_law_1150 (by decide) ?_
  refine m_lshl Z.1 dL_law_1152 rfl ?_
  refine l_arg Z hi (2 : Int32) dL_law_1153 dL_law_1154 dL_law_1155 dL_law_1156 dL_law_1157 (by decide) (by decide) ?_
  refine m_i2l Z.1 dL_law_1158 ?_
  refine m_ldc2 Z.1 (4294967295) dL_law_1159 lk_L_134 ?_
  refine m_land Z.1 dL_law_1162 ?_
  refine m_lor Z.1 dL_law_1163 ?_
  refine m_nameJ (fun y1163 ey1163 => ?_)
  refine l_arg Z hi (3 : Int32) dL_law_1164 dL_law_1165 dL_law_1166 dL_law_1167 dL_law_1168 (by decide) (by decide) ?_
  refine m_i2l Z.1 dL_law_1169 ?_
  refine m_bipush Z.1 (32 : Int32) dL_law_1170 (by decide) ?_
  refine m_lshl Z.1 dL_law_1172 rfl ?_
  refine l_arg Z hi (4 : Int32) dL_law_1173 dL_law_1174 dL_law_1175 dL_law_1176 dL_law_1177 (by decide) (by decide) ?_
  refine m_i2l Z.1 dL_law_1178 ?_
  refine m_ldc2 Z.1 (4294967295) dL_law_1179 lk_L_134 ?_
  refine m_land Z.1 dL_law_1182 ?_
  refine m_lor Z.1 dL_law_1183 ?_
  refine m_nameJ (fun y1183 ey1183 => ?_)
  refine l_arg Z hi (5 : Int32) dL_law_1184 dL_law_1185 dL_law_1186 dL_law_1187 dL_law_1188 (by decide) (by decide) ?_
  refine l_argB Z hi (6 : Int32) dL_law_1189 dL_law_1190 dL_law_1191 dL_law_1193 dL_law_1194 (by decide) (by decide) ?_
  refine m_invV Z.1 cal_X8_hash sh_0 rfl (c_X8_hash_e l Z.1.2.2.2.2.2.2.1 g y1163 y1183 (ar xs i (5 : Int32)) (ar xs i (6 : Int32)) hI) lk_L_136 im_X8_hash se_X8_hash (by decide) rfl rfl (Nat.le_of_ble_eq_true rfl) dL_law_1195 ⟨hcl, hsl⟩ (rI fun r1 g1 h1 => ?_)
  obtain ⟨hI1, hK1, p1⟩ := h1
  have hM1 : FM g1 := hM0.of hK1 (by decide)
  have hR1 : hs_Rq g1 := fun t ht => by rw [hK1.1 35 (by decide)]; exact hR0 t ht
  refine m_aload_n Z.1 dL_law_1198 2 rfl ?_
  refine l_arg Z hi (1 : Int32) dL_law_1199 dL_law_1200 dL_law_1201 dL_law_1202 dL_law_1203 (by decide) (by decide) ?_
  refine m_i2l Z.1 dL_law_1204 ?_
  refine m_bipush Z.1 (32 : Int32) dL_law_1205 (by decide) ?_
  refine m_lshl Z.1 dL_law_1207 rfl ?_
  refine l_arg Z hi (2 : Int32) dL_law_1208 dL_law_1209 dL_law_1210 dL_law_1211 dL_law_1212 (by decide) (by decide) ?_
  refine m_i2l Z.1 dL_law_1213 ?_
  refine m_ldc2 Z.1 (4294967295) dL_law_1214 lk_L_134 ?_
  refine m_land Z.1 dL_law_1217 ?_
  refine m_lor Z.1 dL_law_1218 ?_
  refine m_nameJ (fun y1218 ey1218 => ?_)
  refine l_arg Z hi (3 : Int32) dL_law_1219 dL_law_1220 dL_law_1221 dL_law_1222 dL_law_1223 (by decide) (by decide) ?_
  refine m_i2l Z.1 dL_law_1224 ?_
  refine m_bipush Z.1 (32 : Int32) dL_law_1225 (by decide) ?_
  refine m_lshl Z.1 dL_law_1227 rfl ?_
  refine l_arg Z hi (4 : Int32) dL_law_1228 dL_law_1229 dL_law_1230 dL_law_1231 dL_law_1232 (by decide) (by decide) ?_
  refine m_i2l Z.1 dL_law_1233 ?_
  refine m_ldc2 Z.1 (4294967295) dL_law_1234 lk_L_134 ?_
  refine m_land Z.1 dL_law_1237 ?_
  refine m_lor Z.1 dL_law_1238 ?_
  refine m_nameJ (fun y1238 ey1238 => ?_)
  refine l_arg Z hi (5 : Int32) dL_law_1239 dL_law_1240 dL_law_1241 dL_law_1242 dL_law_1243 (by decide) (by decide) ?_
  refine l_argB Z hi (6 : Int32) dL_law_1244 dL_law_1245 dL_law_1246 dL_law_1248 dL_law_1249 (by decide) (by decide) ?_
  refine m_invV Z.1 cal_X9_hash sh_34 rfl (c_X9_hash_e l Z.1.2.2.2.2.2.2.1 g1 y1218 y1238 (ar xs i (5 : Int32)) (ar xs i (6 : Int32)) hI1 hR1) lk_L_140 im_X9_hash se_X9_hash (by decide) rfl rfl (Nat.le_of_ble_eq_true rfl) dL_law_1250 ⟨hcl, hsl⟩ (rI fun r2 g2 h2 => ?_)
  obtain ⟨hI2, hK2, p2⟩ := h2
  have qy1218 : y1218 = y1163 := ey1218.trans ey1163.symm
  have qy1238 : y1238 = y1183 := ey1238.trans ey1183.symm
  rw [qy1218, qy1238] at p2
  have x3 : r1 = r2 := hs_A_fun p1 p2
  refine m_icmp_eq Z.1 1295 dL_law_1253 (by decide) (fun _ => ?_) (fun h => absurd x3 h)
  exact kk g2
set_option maxRecDepth 20000 in
set_option maxHeartbeats 4000000 in
theorem lc_30 (Z : LC X p s m meth c b N xs) (hi : 0 ≤ i.toInt ∧ i.toInt + 7 ≤ N) (hcl : cells ≤ room_1.cells) (hsl : slots ≤ room_1.slots) {g : Mem} (hI : Inv g) (hX0 : FX g) (hM0 : FM g) (hR0 : hs_Rq g) (kk : ∀ g2 : Mem, Wm X p l e room_1 s m #[Value.ref b] below meth c 4 cells slots Q g2 1295 (lvL X b i) []) : Wm X p l e room_1 s m #[Value.ref b] below meth c 4 cells slots Q g 1258 (lvL X b i) [] := by
  refine m_aload_n Z.1 dL_law_1258 1 rfl ?_
  refine l_arg Z hi (1 : Int32) dL_law_1259 dL_law_1260 dL_law_1261 dL_law_1262 dL_law_1263 (by decide) (by decide) ?_
  refine m_invV Z.1 cal_X8_count sh_0 rfl (c_X8_count_f l Z.1.2.2.2.2.2.2.1 g (ar xs i (1 : Int32)) hI hX0) lk_L_141 im_X8_count se_X8_count (by decide) rfl rfl (Nat.le_of_ble_eq_true rfl) dL_law_1264 ⟨hcl, hsl⟩ (rI fun r1 g1 h1 => ?_)
  obtain ⟨e1, p1⟩ := h1
  subst g1
  refine m_aload_n Z.1 dL_law_1267 2 rfl ?_
  refine l_arg Z hi (1 : Int32) dL_law_1268 dL_law_1269 dL_law_1270 dL_law_1271 dL_law_1272 (by decide) (by decide) ?_
  refine m_invV Z.1 cal_X9_count sh_34 rfl (c_X9_count_f l Z.1.2.2.2.2.2.2.1 g (ar xs i (1 : Int32)) hI hM0) lk_L_144 im_X9_count se_X9_count (by decide) rfl rfl (Nat.le_of_ble_eq_true rfl) dL_law_1273 ⟨hcl, hsl⟩ (rI fun r2 g2 h2 => ?_)
  obtain ⟨e2, p2⟩ := h2
  subst g2
  have x3 : r1 = r2 := Int32.toInt_inj.mp (by omega)
  refine m_icmp_eq Z.1 1295 dL_law_1276 (by decide) (fun _ => ?_) (fun h => absurd x3 h)
  exact kk g
set_option maxRecDepth 20000 in
set_option maxHeartbeats 4000000 in
theorem lc_31 (Z : LC X p s m meth c b N xs) (hi : 0 ≤ i.toInt ∧ i.toInt + 7 ≤ N) (hcl : cells ≤ room_1.cells) (hsl : slots ≤ room_1.slots) {g : Mem} (hI : Inv g) (hX0 : FX g) (hM0 : FM g) (hR0 : hs_Rq g) (kk : ∀ g2 : Mem, Wm X p l e room_1 s m #[Value.ref b] below meth c 4 cells slots Q g2 1295 (lvL X b i) []) : Wm X p l e room_1 s m #[Value.ref b] below meth c 4 cells slots Q g 1281 (lvL X b i) [] := by
  refine m_aload_n Z.1 dL_law_1281 1 rfl ?_
  refine m_invV Z.1 cal_X8_digest sh_0 rfl (c_X8_digest_f l Z.1.2.2.2.2.2.2.1 g hI hX0) lk_L_145 im_X8_digest se_X8_digest (by decide) rfl rfl (Nat.le_of_ble_eq_true rfl) dL_law_1282 ⟨hcl, hsl⟩ (rJ fun r1 g1 h1 => ?_)
  obtain ⟨hI1, hK1, p1⟩ := h1
  have hM1 : FM g1 := hM0.of hK1 (by decide)
  have hR1 : hs_Rq g1 := fun t ht => by rw [hK1.1 35 (by decide)]; exact hR0 t ht
  refine m_aload_n Z.1 dL_law_1285 2 rfl ?_
  refine m_invV Z.1 cal_X9_digest sh_34 rfl (c_X9_digest_f l Z.1.2.2.2.2.2.2.1 g1 hI1 hM1) lk_L_149 im_X9_digest se_X9_digest (by decide) rfl rfl (Nat.le_of_ble_eq_true rfl) dL_law_1286 ⟨hcl, hsl⟩ (rJ fun r2 g2 h2 => ?_)
  obtain ⟨hI2, hK2, p2⟩ := h2
  refine m_lcmp Z.1 dL_law_1289 ?_
  have x3 : r1 = r2 := p1.trans p2.symm
  refine m_if_eq Z.1 1295 dL_law_1290 (by decide) (fun _ => ?_) (fun h => absurd (l_cmp0 x3) h)
  exact kk g2
end LCS
