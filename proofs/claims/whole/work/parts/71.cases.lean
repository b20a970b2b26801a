def bz (x : Int32) : Int32 := if x = 0 then 0 else 1
/-- a call of the class, then of the reference: both return, the answers are one, what is left is N -/
def StpC (N : Topo → IM → Nat → Nat → Prop) (Mx Mm : Mth) (as : List Value) (T : Topo) (I : IM) (c sl : Nat) : Prop :=
  ∃ (mc ms : Nat) (Q1 : Int32 → Topo → IM → Prop), Ct 20 Mx (.ref 0 :: as) T I mc ms (PI Q1) ∧ c + mc ≤ 600000 ∧ sl + ms ≤ 7302250 ∧ ∀ x T1 I1, Q1 x T1 I1 → Lay T1 ∧ ∃ (mc' ms' : Nat) (Q2 : Int32 → Topo → IM → Prop), Ct 20 Mm (.ref 79 :: as) T1 I1 mc' ms' (PI Q2) ∧ c + mc + mc' ≤ 600000 ∧ sl + ms + ms' ≤ 7302250 ∧ ∀ y T2 I2, Q2 y T2 I2 → x = y ∧ N T2 I2 (c + mc + mc') (sl + ms + ms')
section LAW
variable {p : Program} {l : Launch} {e : Env} {s : State} {m : MethodId} {below : List Frame} {meth : Method} {cd : Code} {b L : Nat} {xs : Nat → Int32} {G : va_G} {ab : Nat} {i : Int32} {pc c sl : Nat} {st : List Value} {T : Topo} {I : IM}
theorem Lw_topEq {x y : Int32} (h : x = y) (k : LJ p l e s m below meth cd b G i pc (.int y :: st) T I c sl) : LJ p l e s m below meth cd b G i pc (.int x :: st) T I c sl := h ▸ k
theorem Lw_bool {x : Int32} {o1 o2 : Int} {t1 t2 : Nat} (C0 : LC p s m meth cd b L xs G ab) (h0 : decode code pc = .ok (.ifCond .eq o1, 3)) (h1 : decode code (pc + 3) = .ok (.iconst 1, 1)) (h2 : decode code (pc + 3 + 1) = .ok (.goto o2, 3)) (h3 : decode code t1 = .ok (.iconst 0, 1)) (e1 : (pc : Int) + o1 = (t1 : Int)) (e2 : ((pc + 3 + 1 : Nat) : Int) + o2 = (t2 : Int)) (e3 : t1 + 1 = t2)
    (k : LJ p l e s m below meth cd b G i t2 (.int (bz x) :: st) T I c sl) : LJ p l e s m below meth cd b G i pc (.int x :: st) T I c sl := by
  refine Lw_if_eq C0 h0 e1 (fun hc => ?_) (fun hc => ?_)
  · refine Lw_iconst (v := 0) C0 h3 (by decide) ?_
    rw [e3]
    exact Lw_topEq (if_pos hc).symm k
  · refine Lw_iconst (v := 1) C0 h1 (by decide) ?_
    refine Lw_goto C0 h2 e2 ?_
    exact Lw_topEq (if_neg hc).symm k

set_option maxHeartbeats 4000000 in
set_option maxRecDepth 100000 in
theorem law_c0 {N : Topo → IM → Nat → Nat → Prop} (C0 : LC p s m meth cd b L xs G ab) (hT : Lay T) (hi : ∀ v : Int32, wi v 0 5 → vp_in (i + v) L) (hN : ∀ T2 I2 c2 s2, N T2 I2 c2 s2 → LJ p l e s m below meth cd b G i 1405 [] T2 I2 c2 s2) (h : StpC N mX11_node mX12_node [.int (xs (i + 1).toNatClampNeg)] T I c sl) : LJ p l e s m below meth cd b G i 188 [] T I c sl := by
  obtain ⟨mc, ms, Q1, hM, h1, h2, hk⟩ := h
  refine Lw_ald1 C0 hT dL_law_188 ?_
  refine Lw_sld (v := 1) C0 dL_law_189 dL_law_190 dL_law_191 dL_law_192 dL_law_193 (by decide) (hi 1 (by decide)) ?_
  refine Lw_call (k := 0) (as := [.int (xs (i + 1).toNatClampNeg)]) (rest := []) C0 dL_law_194 kX11_node vX11_node lL_13 (hT.k 0 rfl) rfl rfl rfl rfl rfl (by decide) hT h1 h2 hM (fun x T1 I1 hq => ?_)
  obtain ⟨hT, mc2, ms2, Q2, hM2, g1, g2, hk⟩ := hk x T1 I1 hq
  refine Lw_ald2 C0 hT dL_law_197 ?_
  refine Lw_sld (v := 1) C0 dL_law_198 dL_law_199 dL_law_200 dL_law_201 dL_law_202 (by decide) (hi 1 (by decide)) ?_
  refine Lw_call (k := 79) (as := [.int (xs (i + 1).toNatClampNeg)]) (rest := [.int x]) C0 dL_law_203 kX12_node vX12_node lL_17 (hT.k 79 rfl) rfl rfl rfl rfl rfl (by decide) hT g1 g2 hM2 (fun y T2 I2 hq => ?_)
  obtain ⟨he, hn⟩ := hk y T2 I2 hq
  exact Lw_cmp (tgt := 1405) C0 dL_law_206 (by decide) he (hN _ _ _ _ hn)

set_option maxHeartbeats 4000000 in
set_option maxRecDepth 100000 in
theorem law_c1 {N : Topo → IM → Nat → Nat → Prop} (C0 : LC p s m meth cd b L xs G ab) (hT : Lay T) (hi : ∀ v : Int32, wi v 0 5 → vp_in (i + v) L) (hN : ∀ T2 I2 c2 s2, N T2 I2 c2 s2 → LJ p l e s m below meth cd b G i 1405 [] T2 I2 c2 s2) (h : StpC N mX11_line mX12_line [.int (xs (i + 1).toNatClampNeg), .int (xs (i + 2).toNatClampNeg), .int (xs (i + 3).toNatClampNeg), .int (xs (i + 4).toNatClampNeg), .int (xs (i + 5).toNatClampNeg)] T I c sl) : LJ p l e s m below meth cd b G i 211 [] T I c sl := by
  obtain ⟨mc, ms, Q1, hM, h1, h2, hk⟩ := h
  refine Lw_ald1 C0 hT dL_law_211 ?_
  refine Lw_sld (v := 1) C0 dL_law_212 dL_law_213 dL_law_214 dL_law_215 dL_law_216 (by decide) (hi 1 (by decide)) ?_
  refine Lw_sld (v := 2) C0 dL_law_217 dL_law_218 dL_law_219 dL_law_220 dL_law_221 (by decide) (hi 2 (by decide)) ?_
  refine Lw_sld (v := 3) C0 dL_law_222 dL_law_223 dL_law_224 dL_law_225 dL_law_226 (by decide) (hi 3 (by decide)) ?_
  refine Lw_sld (v := 4) C0 dL_law_227 dL_law_228 dL_law_229 dL_law_230 dL_law_231 (by decide) (hi 4 (by decide)) ?_
  refine Lw_sld (v := 5) C0 dL_law_232 dL_law_233 dL_law_234 dL_law_235 dL_law_236 (by decide) (hi 5 (by decide)) ?_
  refine Lw_call (k := 0) (as := [.int (xs (i + 1).toNatClampNeg), .int (xs (i + 2).toNatClampNeg), .int (xs (i + 3).toNatClampNeg), .int (xs (i + 4).toNatClampNeg), .int (xs (i + 5).toNatClampNeg)]) (rest := []) C0 dL_law_237 kX11_line vX11_line lL_18 (hT.k 0 rfl) rfl rfl rfl rfl rfl (by decide) hT h1 h2 hM (fun x T1 I1 hq => ?_)
  obtain ⟨hT, mc2, ms2, Q2, hM2, g1, g2, hk⟩ := hk x T1 I1 hq
  refine Lw_ald2 C0 hT dL_law_240 ?_
  refine Lw_sld (v := 1) C0 dL_law_241 dL_law_242 dL_law_243 dL_law_244 dL_law_245 (by decide) (hi 1 (by decide)) ?_
  refine Lw_sld (v := 2) C0 dL_law_246 dL_law_247 dL_law_248 dL_law_249 dL_law_250 (by decide) (hi 2 (by decide)) ?_
  refine Lw_sld (v := 3) C0 dL_law_251 dL_law_252 dL_law_253 dL_law_254 dL_law_255 (by decide) (hi 3 (by decide)) ?_
  refine Lw_sld (v := 4) C0 dL_law_256 dL_law_257 dL_law_258 dL_law_259 dL_law_260 (by decide) (hi 4 (by decide)) ?_
  refine Lw_sld (v := 5) C0 dL_law_261 dL_law_262 dL_law_263 dL_law_264 dL_law_265 (by decide) (hi 5 (by decide)) ?_
  refine Lw_call (k := 79) (as := [.int (xs (i + 1).toNatClampNeg), .int (xs (i + 2).toNatClampNeg), .int (xs (i + 3).toNatClampNeg), .int (xs (i + 4).toNatClampNeg), .int (xs (i + 5).toNatClampNeg)]) (rest := [.int x]) C0 dL_law_266 kX12_line vX12_line lL_22 (hT.k 79 rfl) rfl rfl rfl rfl rfl (by decide) hT g1 g2 hM2 (fun y T2 I2 hq => ?_)
  obtain ⟨he, hn⟩ := hk y T2 I2 hq
  exact Lw_cmp (tgt := 1405) C0 dL_law_269 (by decide) he (hN _ _ _ _ hn)

set_option maxHeartbeats 4000000 in
set_option maxRecDepth 100000 in
theorem law_c2 {N : Topo → IM → Nat → Nat → Prop} (C0 : LC p s m meth cd b L xs G ab) (hT : Lay T) (hi : ∀ v : Int32, wi v 0 5 → vp_in (i + v) L) (hN : ∀ T2 I2 c2 s2, N T2 I2 c2 s2 → LJ p l e s m below meth cd b G i 1405 [] T2 I2 c2 s2) (h : StpC N mX11_up mX12_up [.int (xs (i + 1).toNatClampNeg), .int (bz (xs (i + 2).toNatClampNeg))] T I c sl) : LJ p l e s m below meth cd b G i 274 [] T I c sl := by
  obtain ⟨mc, ms, Q1, hM, h1, h2, hk⟩ := h
  refine Lw_ald1 C0 hT dL_law_274 ?_
  refine Lw_sld (v := 1) C0 dL_law_275 dL_law_276 dL_law_277 dL_law_278 dL_law_279 (by decide) (hi 1 (by decide)) ?_
  refine Lw_sld (v := 2) C0 dL_law_280 dL_law_281 dL_law_282 dL_law_283 dL_law_284 (by decide) (hi 2 (by decide)) ?_
  refine Lw_bool (t1 := 292) (t2 := 293) C0 dL_law_285 dL_law_288 dL_law_289 dL_law_292 (by decide) (by decide) rfl ?_
  refine Lw_call (k := 0) (as := [.int (xs (i + 1).toNatClampNeg), .int (bz (xs (i + 2).toNatClampNeg))]) (rest := []) C0 dL_law_293 kX11_up vX11_up lL_23 (hT.k 0 rfl) rfl rfl rfl rfl rfl (by decide) hT h1 h2 hM (fun x T1 I1 hq => ?_)
  obtain ⟨hT, mc2, ms2, Q2, hM2, g1, g2, hk⟩ := hk x T1 I1 hq
  refine Lw_ald2 C0 hT dL_law_296 ?_
  refine Lw_sld (v := 1) C0 dL_law_297 dL_law_298 dL_law_299 dL_law_300 dL_law_301 (by decide) (hi 1 (by decide)) ?_
  refine Lw_sld (v := 2) C0 dL_law_302 dL_law_303 dL_law_304 dL_law_305 dL_law_306 (by decide) (hi 2 (by decide)) ?_
  refine Lw_bool (t1 := 314) (t2 := 315) C0 dL_law_307 dL_law_310 dL_law_311 dL_law_314 (by decide) (by decide) rfl ?_
  refine Lw_call (k := 79) (as := [.int (xs (i + 1).toNatClampNeg), .int (bz (xs (i + 2).toNatClampNeg))]) (rest := [.int x]) C0 dL_law_315 kX12_up vX12_up lL_27 (hT.k 79 rfl) rfl rfl rfl rfl rfl (by decide) hT g1 g2 hM2 (fun y T2 I2 hq => ?_)
  obtain ⟨he, hn⟩ := hk y T2 I2 hq
  exact Lw_cmp (tgt := 1405) C0 dL_law_318 (by decide) he (hN _ _ _ _ hn)

set_option maxHeartbeats 4000000 in
set_option maxRecDepth 100000 in
theorem law_c3 {N : Topo → IM → Nat → Nat → Prop} (C0 : LC p s m meth cd b L xs G ab) (hT : Lay T) (hi : ∀ v : Int32, wi v 0 5 → vp_in (i + v) L) (hN : ∀ T2 I2 c2 s2, N T2 I2 c2 s2 → LJ p l e s m below meth cd b G i 1405 [] T2 I2 c2 s2) (h : StpC N mX11_ways mX12_ways [.int (xs (i + 1).toNatClampNeg), .int (xs (i + 2).toNatClampNeg)] T I c sl) : LJ p l e s m below meth cd b G i 323 [] T I c sl := by
  obtain ⟨mc, ms, Q1, hM, h1, h2, hk⟩ := h
  refine Lw_ald1 C0 hT dL_law_323 ?_
  refine Lw_sld (v := 1) C0 dL_law_324 dL_law_325 dL_law_326 dL_law_327 dL_law_328 (by decide) (hi 1 (by decide)) ?_
  refine Lw_sld (v := 2) C0 dL_law_329 dL_law_330 dL_law_331 dL_law_332 dL_law_333 (by decide) (hi 2 (by decide)) ?_
  refine Lw_call (k := 0) (as := [.int (xs (i + 1).toNatClampNeg), .int (xs (i + 2).toNatClampNeg)]) (rest := []) C0 dL_law_334 kX11_ways vX11_ways lL_28 (hT.k 0 rfl) rfl rfl rfl rfl rfl (by decide) hT h1 h2 hM (fun x T1 I1 hq => ?_)
  obtain ⟨hT, mc2, ms2, Q2, hM2, g1, g2, hk⟩ := hk x T1 I1 hq
  refine Lw_ald2 C0 hT dL_law_337 ?_
  refine Lw_sld (v := 1) C0 dL_law_338 dL_law_339 dL_law_340 dL_law_341 dL_law_342 (by decide) (hi 1 (by decide)) ?_
  refine Lw_sld (v := 2) C0 dL_law_343 dL_law_344 dL_law_345 dL_law_346 dL_law_347 (by decide) (hi 2 (by decide)) ?_
  refine Lw_call (k := 79) (as := [.int (xs (i + 1).toNatClampNeg), .int (xs (i + 2).toNatClampNeg)]) (rest := [.int x]) C0 dL_law_348 kX12_ways vX12_ways lL_32 (hT.k 79 rfl) rfl rfl rfl rfl rfl (by decide) hT g1 g2 hM2 (fun y T2 I2 hq => ?_)
  obtain ⟨he, hn⟩ := hk y T2 I2 hq
  exact Lw_cmp (tgt := 1405) C0 dL_law_351 (by decide) he (hN _ _ _ _ hn)

set_option maxHeartbeats 4000000 in
set_option maxRecDepth 100000 in
theorem law_c4 {N : Topo → IM → Nat → Nat → Prop} (C0 : LC p s m meth cd b L xs G ab) (hT : Lay T) (hi : ∀ v : Int32, wi v 0 5 → vp_in (i + v) L) (hN : ∀ T2 I2 c2 s2, N T2 I2 c2 s2 → LJ p l e s m below meth cd b G i 1405 [] T2 I2 c2 s2) (h : StpC N mX11_way mX12_way [.int (xs (i + 1).toNatClampNeg), .int (xs (i + 2).toNatClampNeg), .int (xs (i + 3).toNatClampNeg), .int (xs (i + 4).toNatClampNeg)] T I c sl) : LJ p l e s m below meth cd b G i 356 [] T I c sl := by
  obtain ⟨mc, ms, Q1, hM, h1, h2, hk⟩ := h
  refine Lw_ald1 C0 hT dL_law_356 ?_
  refine Lw_sld (v := 1) C0 dL_law_357 dL_law_358 dL_law_359 dL_law_360 dL_law_361 (by decide) (hi 1 (by decide)) ?_
  refine Lw_sld (v := 2) C0 dL_law_362 dL_law_363 dL_law_364 dL_law_365 dL_law_366 (by decide) (hi 2 (by decide)) ?_
  refine Lw_sld (v := 3) C0 dL_law_367 dL_law_368 dL_law_369 dL_law_370 dL_law_371 (by decide) (hi 3 (by decide)) ?_
  refine Lw_sld (v := 4) C0 dL_law_372 dL_law_373 dL_law_374 dL_law_375 dL_law_376 (by decide) (hi 4 (by decide)) ?_
  refine Lw_call (k := 0) (as := [.int (xs (i + 1).toNatClampNeg), .int (xs (i + 2).toNatClampNeg), .int (xs (i + 3).toNatClampNeg), .int (xs (i + 4).toNatClampNeg)]) (rest := []) C0 dL_law_377 kX11_way vX11_way lL_33 (hT.k 0 rfl) rfl rfl rfl rfl rfl (by decide) hT h1 h2 hM (fun x T1 I1 hq => ?_)
  obtain ⟨hT, mc2, ms2, Q2, hM2, g1, g2, hk⟩ := hk x T1 I1 hq
  refine Lw_ald2 C0 hT dL_law_380 ?_
  refine Lw_sld (v := 1) C0 dL_law_381 dL_law_382 dL_law_383 dL_law_384 dL_law_385 (by decide) (hi 1 (by decide)) ?_
  refine Lw_sld (v := 2) C0 dL_law_386 dL_law_387 dL_law_388 dL_law_389 dL_law_390 (by decide) (hi 2 (by decide)) ?_
  refine Lw_sld (v := 3) C0 dL_law_391 dL_law_392 dL_law_393 dL_law_394 dL_law_395 (by decide) (hi 3 (by decide)) ?_
  refine Lw_sld (v := 4) C0 dL_law_396 dL_law_397 dL_law_398 dL_law_399 dL_law_400 (by decide) (hi 4 (by decide)) ?_
  refine Lw_call (k := 79) (as := [.int (xs (i + 1).toNatClampNeg), .int (xs (i + 2).toNatClampNeg), .int (xs (i + 3).toNatClampNeg), .int (xs (i + 4).toNatClampNeg)]) (rest := [.int x]) C0 dL_law_401 kX12_way vX12_way lL_37 (hT.k 79 rfl) rfl rfl rfl rfl rfl (by decide) hT g1 g2 hM2 (fun y T2 I2 hq => ?_)
  obtain ⟨he, hn⟩ := hk y T2 I2 hq
  exact Lw_cmp (tgt := 1405) C0 dL_law_404 (by decide) he (hN _ _ _ _ hn)

set_option maxHeartbeats 4000000 in
set_option maxRecDepth 100000 in
theorem law_c5 {N : Topo → IM → Nat → Nat → Prop} (C0 : LC p s m meth cd b L xs G ab) (hT : Lay T) (hi : ∀ v : Int32, wi v 0 5 → vp_in (i + v) L) (hN : ∀ T2 I2 c2 s2, N T2 I2 c2 s2 → LJ p l e s m below meth cd b G i 1405 [] T2 I2 c2 s2) (h : StpC N mX11_flow mX12_flow [.int (xs (i + 1).toNatClampNeg), .int (xs (i + 2).toNatClampNeg), .int (xs (i + 3).toNatClampNeg)] T I c sl) : LJ p l e s m below meth cd b G i 409 [] T I c sl := by
  obtain ⟨mc, ms, Q1, hM, h1, h2, hk⟩ := h
  refine Lw_ald1 C0 hT dL_law_409 ?_
  refine Lw_sld (v := 1) C0 dL_law_410 dL_law_411 dL_law_412 dL_law_413 dL_law_414 (by decide) (hi 1 (by decide)) ?_
  refine Lw_sld (v := 2) C0 dL_law_415 dL_law_416 dL_law_417 dL_law_418 dL_law_419 (by decide) (hi 2 (by decide)) ?_
  refine Lw_sld (v := 3) C0 dL_law_420 dL_law_421 dL_law_422 dL_law_423 dL_law_424 (by decide) (hi 3 (by decide)) ?_
  refine Lw_call (k := 0) (as := [.int (xs (i + 1).toNatClampNeg), .int (xs (i + 2).toNatClampNeg), .int (xs (i + 3).toNatClampNeg)]) (rest := []) C0 dL_law_425 kX11_flow vX11_flow lL_38 (hT.k 0 rfl) rfl rfl rfl rfl rfl (by decide) hT h1 h2 hM (fun x T1 I1 hq => ?_)
  obtain ⟨hT, mc2, ms2, Q2, hM2, g1, g2, hk⟩ := hk x T1 I1 hq
  refine Lw_ald2 C0 hT dL_law_428 ?_
  refine Lw_sld (v := 1) C0 dL_law_429 dL_law_430 dL_law_431 dL_law_432 dL_law_433 (by decide) (hi 1 (by decide)) ?_
  refine Lw_sld (v := 2) C0 dL_law_434 dL_law_435 dL_law_436 dL_law_437 dL_law_438 (by decide) (hi 2 (by decide)) ?_
  refine Lw_sld (v := 3) C0 dL_law_439 dL_law_440 dL_law_441 dL_law_442 dL_law_443 (by decide) (hi 3 (by decide)) ?_
  refine Lw_call (k := 79) (as := [.int (xs (i + 1).toNatClampNeg), .int (xs (i + 2).toNatClampNeg), .int (xs (i + 3).toNatClampNeg)]) (rest := [.int x]) C0 dL_law_444 kX12_flow vX12_flow lL_42 (hT.k 79 rfl) rfl rfl rfl rfl rfl (by decide) hT g1 g2 hM2 (fun y T2 I2 hq => ?_)
  obtain ⟨he, hn⟩ := hk y T2 I2 hq
  exact Lw_cmp (tgt := 1405) C0 dL_law_447 (by decide) he (hN _ _ _ _ hn)

set_option maxHeartbeats 4000000 in
set_option maxRecDepth 100000 in
theorem law_c6 {N : Topo → IM → Nat → Nat → Prop} (C0 : LC p s m meth cd b L xs G ab) (hT : Lay T) (hi : ∀ v : Int32, wi v 0 5 → vp_in (i + v) L) (hN : ∀ T2 I2 c2 s2, N T2 I2 c2 s2 → LJ p l e s m below meth cd b G i 1405 [] T2 I2 c2 s2) (h : StpC N mX11_cut mX12_cut [.int (xs (i + 1).toNatClampNeg), .int (xs (i + 2).toNatClampNeg), .int (xs (i + 3).toNatClampNeg)] T I c sl) : LJ p l e s m below meth cd b G i 452 [] T I c sl := by
  obtain ⟨mc, ms, Q1, hM, h1, h2, hk⟩ := h
  refine Lw_ald1 C0 hT dL_law_452 ?_
  refine Lw_sld (v := 1) C0 dL_law_453 dL_law_454 dL_law_455 dL_law_456 dL_law_457 (by decide) (hi 1 (by decide)) ?_
  refine Lw_sld (v := 2) C0 dL_law_458 dL_law_459 dL_law_460 dL_law_461 dL_law_462 (by decide) (hi 2 (by decide)) ?_
  refine Lw_sld (v := 3) C0 dL_law_463 dL_law_464 dL_law_465 dL_law_466 dL_law_467 (by decide) (hi 3 (by decide)) ?_
  refine Lw_call (k := 0) (as := [.int (xs (i + 1).toNatClampNeg), .int (xs (i + 2).toNatClampNeg), .int (xs (i + 3).toNatClampNeg)]) (rest := []) C0 dL_law_468 kX11_cut vX11_cut lL_43 (hT.k 0 rfl) rfl rfl rfl rfl rfl (by decide) hT h1 h2 hM (fun x T1 I1 hq => ?_)
  obtain ⟨hT, mc2, ms2, Q2, hM2, g1, g2, hk⟩ := hk x T1 I1 hq
  refine Lw_ald2 C0 hT dL_law_471 ?_
  refine Lw_sld (v := 1) C0 dL_law_472 dL_law_473 dL_law_474 dL_law_475 dL_law_476 (by decide) (hi 1 (by decide)) ?_
  refine Lw_sld (v := 2) C0 dL_law_477 dL_law_478 dL_law_479 dL_law_480 dL_law_481 (by decide) (hi 2 (by decide)) ?_
  refine Lw_sld (v := 3) C0 dL_law_482 dL_law_483 dL_law_484 dL_law_485 dL_law_486 (by decide) (hi 3 (by decide)) ?_
  refine Lw_call (k := 79) (as := [.int (xs (i + 1).toNatClampNeg), .int (xs (i + 2).toNatClampNeg), .int (xs (i + 3).toNatClampNeg)]) (rest := [.int x]) C0 dL_law_487 kX12_cut vX12_cut lL_46 (hT.k 79 rfl) rfl rfl rfl rfl rfl (by decide) hT g1 g2 hM2 (fun y T2 I2 hq => ?_)
  obtain ⟨he, hn⟩ := hk y T2 I2 hq
  exact Lw_cmp (tgt := 1405) C0 dL_law_490 (by decide) he (hN _ _ _ _ hn)

set_option maxHeartbeats 4000000 in
set_option maxRecDepth 100000 in
theorem law_c7 {N : Topo → IM → Nat → Nat → Prop} (C0 : LC p s m meth cd b L xs G ab) (hT : Lay T) (hi : ∀ v : Int32, wi v 0 5 → vp_in (i + v) L) (hN : ∀ T2 I2 c2 s2, N T2 I2 c2 s2 → LJ p l e s m below meth cd b G i 1405 [] T2 I2 c2 s2) (h : StpC N mX11_slice mX12_slice [.int (xs (i + 1).toNatClampNeg), .int (xs (i + 2).toNatClampNeg), .int (xs (i + 3).toNatClampNeg), .int (xs (i + 4).toNatClampNeg), .int (xs (i + 5).toNatClampNeg)] T I c sl) : LJ p l e s m below meth cd b G i 495 [] T I c sl := by
  obtain ⟨mc, ms, Q1, hM, h1, h2, hk⟩ := h
  refine Lw_ald1 C0 hT dL_law_495 ?_
  refine Lw_sld (v := 1) C0 dL_law_496 dL_law_497 dL_law_498 dL_law_499 dL_law_500 (by decide) (hi 1 (by decide)) ?_
  refine Lw_sld (v := 2) C0 dL_law_501 dL_law_502 dL_law_503 dL_law_504 dL_law_505 (by decide) (hi 2 (by decide)) ?_
  refine Lw_sld (v := 3) C0 dL_law_506 dL_law_507 dL_law_508 dL_law_509 dL_law_510 (by decide) (hi 3 (by decide)) ?_
  refine Lw_sld (v := 4) C0 dL_law_511 dL_law_512 dL_law_513 dL_law_514 dL_law_515 (by decide) (hi 4 (by decide)) ?_
  refine Lw_sld (v := 5) C0 dL_law_516 dL_law_517 dL_law_518 dL_law_519 dL_law_520 (by decide) (hi 5 (by decide)) ?_
  refine Lw_call (k := 0) (as := [.int (xs (i + 1).toNatClampNeg), .int (xs (i + 2).toNatClampNeg), .int (xs (i + 3).toNatClampNeg), .int (xs (i + 4).toNatClampNeg), .int (xs (i + 5).toNatClampNeg)]) (rest := []) C0 dL_law_521 kX11_slice vX11_slice lL_47 (hT.k 0 rfl) rfl rfl rfl rfl rfl (by decide) hT h1 h2 hM (fun x T1 I1 hq => ?_)
  obtain ⟨hT, mc2, ms2, Q2, hM2, g1, g2, hk⟩ := hk x T1 I1 hq
  refine Lw_ald2 C0 hT dL_law_524 ?_
  refine Lw_sld (v := 1) C0 dL_law_525 dL_law_526 dL_law_527 dL_law_528 dL_law_529 (by decide) (hi 1 (by decide)) ?_
  refine Lw_sld (v := 2) C0 dL_law_530 dL_law_531 dL_law_532 dL_law_533 dL_law_534 (by decide) (hi 2 (by decide)) ?_
  refine Lw_sld (v := 3) C0 dL_law_535 dL_law_536 dL_law_537 dL_law_538 dL_law_539 (by decide) (hi 3 (by decide)) ?_
  refine Lw_sld (v := 4) C0 dL_law_540 dL_law_541 dL_law_542 dL_law_543 dL_law_544 (by decide) (hi 4 (by decide)) ?_
  refine Lw_sld (v := 5) C0 dL_law_545 dL_law_546 dL_law_547 dL_law_548 dL_law_549 (by decide) (hi 5 (by decide)) ?_
  refine Lw_call (k := 79) (as := [.int (xs (i + 1).toNatClampNeg), .int (xs (i + 2).toNatClampNeg), .int (xs (i + 3).toNatClampNeg), .int (xs (i + 4).toNatClampNeg), .int (xs (i + 5).toNatClampNeg)]) (rest := [.int x]) C0 dL_law_550 kX12_slice vX12_slice lL_50 (hT.k 79 rfl) rfl rfl rfl rfl rfl (by decide) hT g1 g2 hM2 (fun y T2 I2 hq => ?_)
  obtain ⟨he, hn⟩ := hk y T2 I2 hq
  exact Lw_cmp (tgt := 1405) C0 dL_law_553 (by decide) he (hN _ _ _ _ hn)

set_option maxHeartbeats 4000000 in
set_option maxRecDepth 100000 in
theorem law_c8 {N : Topo → IM → Nat → Nat → Prop} (C0 : LC p s m meth cd b L xs G ab) (hT : Lay T) (hi : ∀ v : Int32, wi v 0 5 → vp_in (i + v) L) (hN : ∀ T2 I2 c2 s2, N T2 I2 c2 s2 → LJ p l e s m below meth cd b G i 1405 [] T2 I2 c2 s2) (h : StpC N mX11_terms mX12_terms [.int (xs (i + 1).toNatClampNeg), .int (xs (i + 2).toNatClampNeg), .int (xs (i + 3).toNatClampNeg), .int (xs (i + 4).toNatClampNeg)] T I c sl) : LJ p l e s m below meth cd b G i 558 [] T I c sl := by
  obtain ⟨mc, ms, Q1, hM, h1, h2, hk⟩ := h
  refine Lw_ald1 C0 hT dL_law_558 ?_
  refine Lw_sld (v := 1) C0 dL_law_559 dL_law_560 dL_law_561 dL_law_562 dL_law_563 (by decide) (hi 1 (by decide)) ?_
  refine Lw_sld (v := 2) C0 dL_law_564 dL_law_565 dL_law_566 dL_law_567 dL_law_568 (by decide) (hi 2 (by decide)) ?_
  refine Lw_sld (v := 3) C0 dL_law_569 dL_law_570 dL_law_571 dL_law_572 dL_law_573 (by decide) (hi 3 (by decide)) ?_
  refine Lw_sld (v := 4) C0 dL_law_574 dL_law_575 dL_law_576 dL_law_577 dL_law_578 (by decide) (hi 4 (by decide)) ?_
  refine Lw_call (k := 0) (as := [.int (xs (i + 1).toNatClampNeg), .int (xs (i + 2).toNatClampNeg), .int (xs (i + 3).toNatClampNeg), .int (xs (i + 4).toNatClampNeg)]) (rest := []) C0 dL_law_579 kX11_terms vX11_terms lL_51 (hT.k 0 rfl) rfl rfl rfl rfl rfl (by decide) hT h1 h2 hM (fun x T1 I1 hq => ?_)
  obtain ⟨hT, mc2, ms2, Q2, hM2, g1, g2, hk⟩ := hk x T1 I1 hq
  refine Lw_ald2 C0 hT dL_law_582 ?_
  refine Lw_sld (v := 1) C0 dL_law_583 dL_law_584 dL_law_585 dL_law_586 dL_law_587 (by decide) (hi 1 (by decide)) ?_
  refine Lw_sld (v := 2) C0 dL_law_588 dL_law_589 dL_law_590 dL_law_591 dL_law_592 (by decide) (hi 2 (by decide)) ?_
  refine Lw_sld (v := 3) C0 dL_law_593 dL_law_594 dL_law_595 dL_law_596 dL_law_597 (by decide) (hi 3 (by decide)) ?_
  refine Lw_sld (v := 4) C0 dL_law_598 dL_law_599 dL_law_600 dL_law_601 dL_law_602 (by decide) (hi 4 (by decide)) ?_
  refine Lw_call (k := 79) (as := [.int (xs (i + 1).toNatClampNeg), .int (xs (i + 2).toNatClampNeg), .int (xs (i + 3).toNatClampNeg), .int (xs (i + 4).toNatClampNeg)]) (rest := [.int x]) C0 dL_law_603 kX12_terms vX12_terms lL_54 (hT.k 79 rfl) rfl rfl rfl rfl rfl (by decide) hT g1 g2 hM2 (fun y T2 I2 hq => ?_)
  obtain ⟨he, hn⟩ := hk y T2 I2 hq
  exact Lw_cmp (tgt := 1405) C0 dL_law_606 (by decide) he (hN _ _ _ _ hn)

set_option maxHeartbeats 4000000 in
set_option maxRecDepth 100000 in
theorem law_c9 {N : Topo → IM → Nat → Nat → Prop} (C0 : LC p s m meth cd b L xs G ab) (hT : Lay T) (hi : ∀ v : Int32, wi v 0 5 → vp_in (i + v) L) (hN : ∀ T2 I2 c2 s2, N T2 I2 c2 s2 → LJ p l e s m below meth cd b G i 1405 [] T2 I2 c2 s2) (h : StpC N mX11_span mX12_span [.int (xs (i + 1).toNatClampNeg), .int (xs (i + 2).toNatClampNeg), .int (xs (i + 3).toNatClampNeg), .int (xs (i + 4).toNatClampNeg)] T I c sl) : LJ p l e s m below meth cd b G i 611 [] T I c sl := by
  obtain ⟨mc, ms, Q1, hM, h1, h2, hk⟩ := h
  refine Lw_ald1 C0 hT dL_law_611 ?_
  refine Lw_sld (v := 1) C0 dL_law_612 dL_law_613 dL_law_614 dL_law_615 dL_law_616 (by decide) (hi 1 (by decide)) ?_
  refine Lw_sld (v := 2) C0 dL_law_617 dL_law_618 dL_law_619 dL_law_620 dL_law_621 (by decide) (hi 2 (by decide)) ?_
  refine Lw_sld (v := 3) C0 dL_law_622 dL_law_623 dL_law_624 dL_law_625 dL_law_626 (by decide) (hi 3 (by decide)) ?_
  refine Lw_sld (v := 4) C0 dL_law_627 dL_law_628 dL_law_629 dL_law_630 dL_law_631 (by decide) (hi 4 (by decide)) ?_
  refine Lw_call (k := 0) (as := [.int (xs (i + 1).toNatClampNeg), .int (xs (i + 2).toNatClampNeg), .int (xs (i + 3).toNatClampNeg), .int (xs (i + 4).toNatClampNeg)]) (rest := []) C0 dL_law_632 kX11_span vX11_span lL_55 (hT.k 0 rfl) rfl rfl rfl rfl rfl (by decide) hT h1 h2 hM (fun x T1 I1 hq => ?_)
  obtain ⟨hT, mc2, ms2, Q2, hM2, g1, g2, hk⟩ := hk x T1 I1 hq
  refine Lw_ald2 C0 hT dL_law_635 ?_
  refine Lw_sld (v := 1) C0 dL_law_636 dL_law_637 dL_law_638 dL_law_639 dL_law_640 (by decide) (hi 1 (by decide)) ?_
  refine Lw_sld (v := 2) C0 dL_law_641 dL_law_642 dL_law_643 dL_law_644 dL_law_645 (by decide) (hi 2 (by decide)) ?_
  refine Lw_sld (v := 3) C0 dL_law_646 dL_law_647 dL_law_648 dL_law_649 dL_law_650 (by decide) (hi 3 (by decide)) ?_
  refine Lw_sld (v := 4) C0 dL_law_651 dL_law_652 dL_law_653 dL_law_654 dL_law_655 (by decide) (hi 4 (by decide)) ?_
  refine Lw_call (k := 79) (as := [.int (xs (i + 1).toNatClampNeg), .int (xs (i + 2).toNatClampNeg), .int (xs (i + 3).toNatClampNeg), .int (xs (i + 4).toNatClampNeg)]) (rest := [.int x]) C0 dL_law_656 kX12_span vX12_span lL_58 (hT.k 79 rfl) rfl rfl rfl rfl rfl (by decide) hT g1 g2 hM2 (fun y T2 I2 hq => ?_)
  obtain ⟨he, hn⟩ := hk y T2 I2 hq
  exact Lw_cmp (tgt := 1405) C0 dL_law_659 (by decide) he (hN _ _ _ _ hn)

set_option maxHeartbeats 4000000 in
set_option maxRecDepth 100000 in
theorem law_c10 {N : Topo → IM → Nat → Nat → Prop} (C0 : LC p s m meth cd b L xs G ab) (hT : Lay T) (hi : ∀ v : Int32, wi v 0 5 → vp_in (i + v) L) (hN : ∀ T2 I2 c2 s2, N T2 I2 c2 s2 → LJ p l e s m below meth cd b G i 1405 [] T2 I2 c2 s2) (h : StpC N mX11_as mX12_as [.int (xs (i + 1).toNatClampNeg), .int (xs (i + 2).toNatClampNeg)] T I c sl) : LJ p l e s m below meth cd b G i 664 [] T I c sl := by
  obtain ⟨mc, ms, Q1, hM, h1, h2, hk⟩ := h
  refine Lw_ald1 C0 hT dL_law_664 ?_
  refine Lw_sld (v := 1) C0 dL_law_665 dL_law_666 dL_law_667 dL_law_668 dL_law_669 (by decide) (hi 1 (by decide)) ?_
  refine Lw_sld (v := 2) C0 dL_law_670 dL_law_671 dL_law_672 dL_law_673 dL_law_674 (by decide) (hi 2 (by decide)) ?_
  refine Lw_call (k := 0) (as := [.int (xs (i + 1).toNatClampNeg), .int (xs (i + 2).toNatClampNeg)]) (rest := []) C0 dL_law_675 kX11_as vX11_as lL_59 (hT.k 0 rfl) rfl rfl rfl rfl rfl (by decide) hT h1 h2 hM (fun x T1 I1 hq => ?_)
  obtain ⟨hT, mc2, ms2, Q2, hM2, g1, g2, hk⟩ := hk x T1 I1 hq
  refine Lw_ald2 C0 hT dL_law_678 ?_
  refine Lw_sld (v := 1) C0 dL_law_679 dL_law_680 dL_law_681 dL_law_682 dL_law_683 (by decide) (hi 1 (by decide)) ?_
  refine Lw_sld (v := 2) C0 dL_law_684 dL_law_685 dL_law_686 dL_law_687 dL_law_688 (by decide) (hi 2 (by decide)) ?_
  refine Lw_call (k := 79) (as := [.int (xs (i + 1).toNatClampNeg), .int (xs (i + 2).toNatClampNeg)]) (rest := [.int x]) C0 dL_law_689 kX12_as vX12_as lL_62 (hT.k 79 rfl) rfl rfl rfl rfl rfl (by decide) hT g1 g2 hM2 (fun y T2 I2 hq => ?_)
  obtain ⟨he, hn⟩ := hk y T2 I2 hq
  exact Lw_cmp (tgt := 1405) C0 dL_law_692 (by decide) he (hN _ _ _ _ hn)

set_option maxHeartbeats 4000000 in
set_option maxRecDepth 100000 in
theorem law_c11 {N : Topo → IM → Nat → Nat → Prop} (C0 : LC p s m meth cd b L xs G ab) (hT : Lay T) (hi : ∀ v : Int32, wi v 0 5 → vp_in (i + v) L) (hN : ∀ T2 I2 c2 s2, N T2 I2 c2 s2 → LJ p l e s m below meth cd b G i 1405 [] T2 I2 c2 s2) (h : StpC N mX11_of mX12_of [.int (xs (i + 1).toNatClampNeg), .int (xs (i + 2).toNatClampNeg)] T I c sl) : LJ p l e s m below meth cd b G i 697 [] T I c sl := by
  obtain ⟨mc, ms, Q1, hM, h1, h2, hk⟩ := h
  refine Lw_ald1 C0 hT dL_law_697 ?_
  refine Lw_sld (v := 1) C0 dL_law_698 dL_law_699 dL_law_700 dL_law_701 dL_law_702 (by decide) (hi 1 (by decide)) ?_
  refine Lw_sld (v := 2) C0 dL_law_703 dL_law_704 dL_law_705 dL_law_706 dL_law_707 (by decide) (hi 2 (by decide)) ?_
  refine Lw_call (k := 0) (as := [.int (xs (i + 1).toNatClampNeg), .int (xs (i + 2).toNatClampNeg)]) (rest := []) C0 dL_law_708 kX11_of vX11_of lL_63 (hT.k 0 rfl) rfl rfl rfl rfl rfl (by decide) hT h1 h2 hM (fun x T1 I1 hq => ?_)
  obtain ⟨hT, mc2, ms2, Q2, hM2, g1, g2, hk⟩ := hk x T1 I1 hq
  refine Lw_ald2 C0 hT dL_law_711 ?_
  refine Lw_sld (v := 1) C0 dL_law_712 dL_law_713 dL_law_714 dL_law_715 dL_law_716 (by decide) (hi 1 (by decide)) ?_
  refine Lw_sld (v := 2) C0 dL_law_717 dL_law_718 dL_law_719 dL_law_720 dL_law_721 (by decide) (hi 2 (by decide)) ?_
  refine Lw_call (k := 79) (as := [.int (xs (i + 1).toNatClampNeg), .int (xs (i + 2).toNatClampNeg)]) (rest := [.int x]) C0 dL_law_722 kX12_of vX12_of lL_66 (hT.k 79 rfl) rfl rfl rfl rfl rfl (by decide) hT g1 g2 hM2 (fun y T2 I2 hq => ?_)
  obtain ⟨he, hn⟩ := hk y T2 I2 hq
  exact Lw_cmp (tgt := 1405) C0 dL_law_725 (by decide) he (hN _ _ _ _ hn)

set_option maxHeartbeats 4000000 in
set_option maxRecDepth 100000 in
theorem law_c12 {N : Topo → IM → Nat → Nat → Prop} (C0 : LC p s m meth cd b L xs G ab) (hT : Lay T) (hi : ∀ v : Int32, wi v 0 5 → vp_in (i + v) L) (hN : ∀ T2 I2 c2 s2, N T2 I2 c2 s2 → LJ p l e s m below meth cd b G i 1405 [] T2 I2 c2 s2) (h : StpC N mX11_places mX12_places [.int (xs (i + 1).toNatClampNeg)] T I c sl) : LJ p l e s m below meth cd b G i 730 [] T I c sl := by
  obtain ⟨mc, ms, Q1, hM, h1, h2, hk⟩ := h
  refine Lw_ald1 C0 hT dL_law_730 ?_
  refine Lw_sld (v := 1) C0 dL_law_731 dL_law_732 dL_law_733 dL_law_734 dL_law_735 (by decide) (hi 1 (by decide)) ?_
  refine Lw_call (k := 0) (as := [.int (xs (i + 1).toNatClampNeg)]) (rest := []) C0 dL_law_736 kX11_places vX11_places lL_67 (hT.k 0 rfl) rfl rfl rfl rfl rfl (by decide) hT h1 h2 hM (fun x T1 I1 hq => ?_)
  obtain ⟨hT, mc2, ms2, Q2, hM2, g1, g2, hk⟩ := hk x T1 I1 hq
  refine Lw_ald2 C0 hT dL_law_739 ?_
  refine Lw_sld (v := 1) C0 dL_law_740 dL_law_741 dL_law_742 dL_law_743 dL_law_744 (by decide) (hi 1 (by decide)) ?_
  refine Lw_call (k := 79) (as := [.int (xs (i + 1).toNatClampNeg)]) (rest := [.int x]) C0 dL_law_745 kX12_places vX12_places lL_70 (hT.k 79 rfl) rfl rfl rfl rfl rfl (by decide) hT g1 g2 hM2 (fun y T2 I2 hq => ?_)
  obtain ⟨he, hn⟩ := hk y T2 I2 hq
  exact Lw_cmp (tgt := 1405) C0 dL_law_748 (by decide) he (hN _ _ _ _ hn)

set_option maxHeartbeats 4000000 in
set_option maxRecDepth 100000 in
theorem law_c13 {N : Topo → IM → Nat → Nat → Prop} (C0 : LC p s m meth cd b L xs G ab) (hT : Lay T) (hi : ∀ v : Int32, wi v 0 5 → vp_in (i + v) L) (hN : ∀ T2 I2 c2 s2, N T2 I2 c2 s2 → LJ p l e s m below meth cd b G i 1405 [] T2 I2 c2 s2) (h : StpC N mX11_letIn mX12_letIn [.int (xs (i + 1).toNatClampNeg)] T I c sl) : LJ p l e s m below meth cd b G i 753 [] T I c sl := by
  obtain ⟨mc, ms, Q1, hM, h1, h2, hk⟩ := h
  refine Lw_ald1 C0 hT dL_law_753 ?_
  refine Lw_sld (v := 1) C0 dL_law_754 dL_law_755 dL_law_756 dL_law_757 dL_law_758 (by decide) (hi 1 (by decide)) ?_
  refine Lw_call (k := 0) (as := [.int (xs (i + 1).toNatClampNeg)]) (rest := []) C0 dL_law_759 kX11_letIn vX11_letIn lL_71 (hT.k 0 rfl) rfl rfl rfl rfl rfl (by decide) hT h1 h2 hM (fun x T1 I1 hq => ?_)
  obtain ⟨hT, mc2, ms2, Q2, hM2, g1, g2, hk⟩ := hk x T1 I1 hq
  refine Lw_ald2 C0 hT dL_law_762 ?_
  refine Lw_sld (v := 1) C0 dL_law_763 dL_law_764 dL_law_765 dL_law_766 dL_law_767 (by decide) (hi 1 (by decide)) ?_
  refine Lw_call (k := 79) (as := [.int (xs (i + 1).toNatClampNeg)]) (rest := [.int x]) C0 dL_law_768 kX12_letIn vX12_letIn lL_74 (hT.k 79 rfl) rfl rfl rfl rfl rfl (by decide) hT g1 g2 hM2 (fun y T2 I2 hq => ?_)
  obtain ⟨he, hn⟩ := hk y T2 I2 hq
  exact Lw_cmp (tgt := 1405) C0 dL_law_771 (by decide) he (hN _ _ _ _ hn)

set_option maxHeartbeats 4000000 in
set_option maxRecDepth 100000 in
theorem law_c14 {N : Topo → IM → Nat → Nat → Prop} (C0 : LC p s m meth cd b L xs G ab) (hT : Lay T) (hi : ∀ v : Int32, wi v 0 5 → vp_in (i + v) L) (hN : ∀ T2 I2 c2 s2, N T2 I2 c2 s2 → LJ p l e s m below meth cd b G i 1405 [] T2 I2 c2 s2) (h : StpC N mX11_why mX12_why [.int (xs (i + 1).toNatClampNeg)] T I c sl) : LJ p l e s m below meth cd b G i 776 [] T I c sl := by
  obtain ⟨mc, ms, Q1, hM, h1, h2, hk⟩ := h
  refine Lw_ald1 C0 hT dL_law_776 ?_
  refine Lw_sld (v := 1) C0 dL_law_777 dL_law_778 dL_law_779 dL_law_780 dL_law_781 (by decide) (hi 1 (by decide)) ?_
  refine Lw_call (k := 0) (as := [.int (xs (i + 1).toNatClampNeg)]) (rest := []) C0 dL_law_782 kX11_why vX11_why lL_75 (hT.k 0 rfl) rfl rfl rfl rfl rfl (by decide) hT h1 h2 hM (fun x T1 I1 hq => ?_)
  obtain ⟨hT, mc2, ms2, Q2, hM2, g1, g2, hk⟩ := hk x T1 I1 hq
  refine Lw_ald2 C0 hT dL_law_785 ?_
  refine Lw_sld (v := 1) C0 dL_law_786 dL_law_787 dL_law_788 dL_law_789 dL_law_790 (by decide) (hi 1 (by decide)) ?_
  refine Lw_call (k := 79) (as := [.int (xs (i + 1).toNatClampNeg)]) (rest := [.int x]) C0 dL_law_791 kX12_why vX12_why lL_78 (hT.k 79 rfl) rfl rfl rfl rfl rfl (by decide) hT g1 g2 hM2 (fun y T2 I2 hq => ?_)
  obtain ⟨he, hn⟩ := hk y T2 I2 hq
  exact Lw_cmp (tgt := 1405) C0 dL_law_794 (by decide) he (hN _ _ _ _ hn)

set_option maxHeartbeats 4000000 in
set_option maxRecDepth 100000 in
theorem law_c15 {N : Topo → IM → Nat → Nat → Prop} (C0 : LC p s m meth cd b L xs G ab) (hT : Lay T) (hi : ∀ v : Int32, wi v 0 5 → vp_in (i + v) L) (hN : ∀ T2 I2 c2 s2, N T2 I2 c2 s2 → LJ p l e s m below meth cd b G i 1405 [] T2 I2 c2 s2) (h : StpC N mX11_out mX12_out [.int (xs (i + 1).toNatClampNeg)] T I c sl) : LJ p l e s m below meth cd b G i 799 [] T I c sl := by
  obtain ⟨mc, ms, Q1, hM, h1, h2, hk⟩ := h
  refine Lw_ald1 C0 hT dL_law_799 ?_
  refine Lw_sld (v := 1) C0 dL_law_800 dL_law_801 dL_law_802 dL_law_803 dL_law_804 (by decide) (hi 1 (by decide)) ?_
  refine Lw_call (k := 0) (as := [.int (xs (i + 1).toNatClampNeg)]) (rest := []) C0 dL_law_805 kX11_out vX11_out lL_79 (hT.k 0 rfl) rfl rfl rfl rfl rfl (by decide) hT h1 h2 hM (fun x T1 I1 hq => ?_)
  obtain ⟨hT, mc2, ms2, Q2, hM2, g1, g2, hk⟩ := hk x T1 I1 hq
  refine Lw_ald2 C0 hT dL_law_808 ?_
  refine Lw_sld (v := 1) C0 dL_law_809 dL_law_810 dL_law_811 dL_law_812 dL_law_813 (by decide) (hi 1 (by decide)) ?_
  refine Lw_call (k := 79) (as := [.int (xs (i + 1).toNatClampNeg)]) (rest := [.int x]) C0 dL_law_814 kX12_out vX12_out lL_82 (hT.k 79 rfl) rfl rfl rfl rfl rfl (by decide) hT g1 g2 hM2 (fun y T2 I2 hq => ?_)
  obtain ⟨he, hn⟩ := hk y T2 I2 hq
  exact Lw_cmp (tgt := 1405) C0 dL_law_817 (by decide) he (hN _ _ _ _ hn)

set_option maxHeartbeats 4000000 in
set_option maxRecDepth 100000 in
theorem law_c16 {N : Topo → IM → Nat → Nat → Prop} (C0 : LC p s m meth cd b L xs G ab) (hT : Lay T) (hi : ∀ v : Int32, wi v 0 5 → vp_in (i + v) L) (hN : ∀ T2 I2 c2 s2, N T2 I2 c2 s2 → LJ p l e s m below meth cd b G i 1405 [] T2 I2 c2 s2) (h : StpC N mX11_wayOf mX12_wayOf [.int (xs (i + 1).toNatClampNeg), .int (bz (xs (i + 2).toNatClampNeg)), .int (xs (i + 3).toNatClampNeg)] T I c sl) : LJ p l e s m below meth cd b G i 822 [] T I c sl := by
  obtain ⟨mc, ms, Q1, hM, h1, h2, hk⟩ := h
  refine Lw_ald1 C0 hT dL_law_822 ?_
  refine Lw_sld (v := 1) C0 dL_law_823 dL_law_824 dL_law_825 dL_law_826 dL_law_827 (by decide) (hi 1 (by decide)) ?_
  refine Lw_sld (v := 2) C0 dL_law_828 dL_law_829 dL_law_830 dL_law_831 dL_law_832 (by decide) (hi 2 (by decide)) ?_
  refine Lw_bool (t1 := 840) (t2 := 841) C0 dL_law_833 dL_law_836 dL_law_837 dL_law_840 (by decide) (by decide) rfl ?_
  refine Lw_sld (v := 3) C0 dL_law_841 dL_law_842 dL_law_843 dL_law_844 dL_law_845 (by decide) (hi 3 (by decide)) ?_
  refine Lw_call (k := 0) (as := [.int (xs (i + 1).toNatClampNeg), .int (bz (xs (i + 2).toNatClampNeg)), .int (xs (i + 3).toNatClampNeg)]) (rest := []) C0 dL_law_846 kX11_wayOf vX11_wayOf lL_83 (hT.k 0 rfl) rfl rfl rfl rfl rfl (by decide) hT h1 h2 hM (fun x T1 I1 hq => ?_)
  obtain ⟨hT, mc2, ms2, Q2, hM2, g1, g2, hk⟩ := hk x T1 I1 hq
  refine Lw_ald2 C0 hT dL_law_849 ?_
  refine Lw_sld (v := 1) C0 dL_law_850 dL_law_851 dL_law_852 dL_law_853 dL_law_854 (by decide) (hi 1 (by decide)) ?_
  refine Lw_sld (v := 2) C0 dL_law_855 dL_law_856 dL_law_857 dL_law_858 dL_law_859 (by decide) (hi 2 (by decide)) ?_
  refine Lw_bool (t1 := 867) (t2 := 868) C0 dL_law_860 dL_law_863 dL_law_864 dL_law_867 (by decide) (by decide) rfl ?_
  refine Lw_sld (v := 3) C0 dL_law_868 dL_law_869 dL_law_870 dL_law_871 dL_law_872 (by decide) (hi 3 (by decide)) ?_
  refine Lw_call (k := 79) (as := [.int (xs (i + 1).toNatClampNeg), .int (bz (xs (i + 2).toNatClampNeg)), .int (xs (i + 3).toNatClampNeg)]) (rest := [.int x]) C0 dL_law_873 kX12_wayOf vX12_wayOf lL_87 (hT.k 79 rfl) rfl rfl rfl rfl rfl (by decide) hT g1 g2 hM2 (fun y T2 I2 hq => ?_)
  obtain ⟨he, hn⟩ := hk y T2 I2 hq
  exact Lw_cmp (tgt := 1405) C0 dL_law_876 (by decide) he (hN _ _ _ _ hn)

set_option maxHeartbeats 4000000 in
set_option maxRecDepth 100000 in
theorem law_c17 {N : Topo → IM → Nat → Nat → Prop} (C0 : LC p s m meth cd b L xs G ab) (hT : Lay T) (hi : ∀ v : Int32, wi v 0 5 → vp_in (i + v) L) (hN : ∀ T2 I2 c2 s2, N T2 I2 c2 s2 → LJ p l e s m below meth cd b G i 1405 [] T2 I2 c2 s2) (h : StpC N mX11_host mX12_host [.int (xs (i + 1).toNatClampNeg)] T I c sl) : LJ p l e s m below meth cd b G i 881 [] T I c sl := by
  obtain ⟨mc, ms, Q1, hM, h1, h2, hk⟩ := h
  refine Lw_ald1 C0 hT dL_law_881 ?_
  refine Lw_sld (v := 1) C0 dL_law_882 dL_law_883 dL_law_884 dL_law_885 dL_law_886 (by decide) (hi 1 (by decide)) ?_
  refine Lw_call (k := 0) (as := [.int (xs (i + 1).toNatClampNeg)]) (rest := []) C0 dL_law_887 kX11_host vX11_host lL_88 (hT.k 0 rfl) rfl rfl rfl rfl rfl (by decide) hT h1 h2 hM (fun x T1 I1 hq => ?_)
  obtain ⟨hT, mc2, ms2, Q2, hM2, g1, g2, hk⟩ := hk x T1 I1 hq
  refine Lw_ald2 C0 hT dL_law_890 ?_
  refine Lw_sld (v := 1) C0 dL_law_891 dL_law_892 dL_law_893 dL_law_894 dL_law_895 (by decide) (hi 1 (by decide)) ?_
  refine Lw_call (k := 79) (as := [.int (xs (i + 1).toNatClampNeg)]) (rest := [.int x]) C0 dL_law_896 kX12_host vX12_host lL_91 (hT.k 79 rfl) rfl rfl rfl rfl rfl (by decide) hT g1 g2 hM2 (fun y T2 I2 hq => ?_)
  obtain ⟨he, hn⟩ := hk y T2 I2 hq
  exact Lw_cmp (tgt := 1405) C0 dL_law_899 (by decide) he (hN _ _ _ _ hn)

set_option maxHeartbeats 4000000 in
set_option maxRecDepth 100000 in
theorem law_c18 {N : Topo → IM → Nat → Nat → Prop} (C0 : LC p s m meth cd b L xs G ab) (hT : Lay T) (hi : ∀ v : Int32, wi v 0 5 → vp_in (i + v) L) (hN : ∀ T2 I2 c2 s2, N T2 I2 c2 s2 → LJ p l e s m below meth cd b G i 1405 [] T2 I2 c2 s2) (h : StpC N mX11_load mX12_load [.int (xs (i + 1).toNatClampNeg), .int (xs (i + 2).toNatClampNeg)] T I c sl) : LJ p l e s m below meth cd b G i 904 [] T I c sl := by
  obtain ⟨mc, ms, Q1, hM, h1, h2, hk⟩ := h
  refine Lw_ald1 C0 hT dL_law_904 ?_
  refine Lw_sld (v := 1) C0 dL_law_905 dL_law_906 dL_law_907 dL_law_908 dL_law_909 (by decide) (hi 1 (by decide)) ?_
  refine Lw_sld (v := 2) C0 dL_law_910 dL_law_911 dL_law_912 dL_law_913 dL_law_914 (by decide) (hi 2 (by decide)) ?_
  refine Lw_call (k := 0) (as := [.int (xs (i + 1).toNatClampNeg), .int (xs (i + 2).toNatClampNeg)]) (rest := []) C0 dL_law_915 kX11_load vX11_load lL_92 (hT.k 0 rfl) rfl rfl rfl rfl rfl (by decide) hT h1 h2 hM (fun x T1 I1 hq => ?_)
  obtain ⟨hT, mc2, ms2, Q2, hM2, g1, g2, hk⟩ := hk x T1 I1 hq
  refine Lw_ald2 C0 hT dL_law_918 ?_
  refine Lw_sld (v := 1) C0 dL_law_919 dL_law_920 dL_law_921 dL_law_922 dL_law_923 (by decide) (hi 1 (by decide)) ?_
  refine Lw_sld (v := 2) C0 dL_law_924 dL_law_925 dL_law_926 dL_law_927 dL_law_928 (by decide) (hi 2 (by decide)) ?_
  refine Lw_call (k := 79) (as := [.int (xs (i + 1).toNatClampNeg), .int (xs (i + 2).toNatClampNeg)]) (rest := [.int x]) C0 dL_law_929 kX12_load vX12_load lL_95 (hT.k 79 rfl) rfl rfl rfl rfl rfl (by decide) hT g1 g2 hM2 (fun y T2 I2 hq => ?_)
  obtain ⟨he, hn⟩ := hk y T2 I2 hq
  exact Lw_cmp (tgt := 1405) C0 dL_law_932 (by decide) he (hN _ _ _ _ hn)

set_option maxHeartbeats 4000000 in
set_option maxRecDepth 100000 in
theorem law_c19 {N : Topo → IM → Nat → Nat → Prop} (C0 : LC p s m meth cd b L xs G ab) (hT : Lay T) (hi : ∀ v : Int32, wi v 0 5 → vp_in (i + v) L) (hN : ∀ T2 I2 c2 s2, N T2 I2 c2 s2 → LJ p l e s m below meth cd b G i 1405 [] T2 I2 c2 s2) (h : StpC N mX11_fallRoom mX12_fallRoom [.int (xs (i + 1).toNatClampNeg), .int (xs (i + 2).toNatClampNeg)] T I c sl) : LJ p l e s m below meth cd b G i 937 [] T I c sl := by
  obtain ⟨mc, ms, Q1, hM, h1, h2, hk⟩ := h
  refine Lw_ald1 C0 hT dL_law_937 ?_
  refine Lw_sld (v := 1) C0 dL_law_938 dL_law_939 dL_law_940 dL_law_941 dL_law_942 (by decide) (hi 1 (by decide)) ?_
  refine Lw_sld (v := 2) C0 dL_law_943 dL_law_944 dL_law_945 dL_law_946 dL_law_947 (by decide) (hi 2 (by decide)) ?_
  refine Lw_call (k := 0) (as := [.int (xs (i + 1).toNatClampNeg), .int (xs (i + 2).toNatClampNeg)]) (rest := []) C0 dL_law_948 kX11_fallRoom vX11_fallRoom lL_96 (hT.k 0 rfl) rfl rfl rfl rfl rfl (by decide) hT h1 h2 hM (fun x T1 I1 hq => ?_)
  obtain ⟨hT, mc2, ms2, Q2, hM2, g1, g2, hk⟩ := hk x T1 I1 hq
  refine Lw_ald2 C0 hT dL_law_951 ?_
  refine Lw_sld (v := 1) C0 dL_law_952 dL_law_953 dL_law_954 dL_law_955 dL_law_956 (by decide) (hi 1 (by decide)) ?_
  refine Lw_sld (v := 2) C0 dL_law_957 dL_law_958 dL_law_959 dL_law_960 dL_law_961 (by decide) (hi 2 (by decide)) ?_
  refine Lw_call (k := 79) (as := [.int (xs (i + 1).toNatClampNeg), .int (xs (i + 2).toNatClampNeg)]) (rest := [.int x]) C0 dL_law_962 kX12_fallRoom vX12_fallRoom lL_99 (hT.k 79 rfl) rfl rfl rfl rfl rfl (by decide) hT g1 g2 hM2 (fun y T2 I2 hq => ?_)
  obtain ⟨he, hn⟩ := hk y T2 I2 hq
  exact Lw_cmp (tgt := 1405) C0 dL_law_965 (by decide) he (hN _ _ _ _ hn)

set_option maxHeartbeats 4000000 in
set_option maxRecDepth 100000 in
theorem law_c20 {N : Topo → IM → Nat → Nat → Prop} (C0 : LC p s m meth cd b L xs G ab) (hT : Lay T) (hi : ∀ v : Int32, wi v 0 5 → vp_in (i + v) L) (hN : ∀ T2 I2 c2 s2, N T2 I2 c2 s2 → LJ p l e s m below meth cd b G i 1405 [] T2 I2 c2 s2) (h : StpC N mX11_work mX12_work [.int (xs (i + 1).toNatClampNeg), .int (xs (i + 2).toNatClampNeg)] T I c sl) : LJ p l e s m below meth cd b G i 970 [] T I c sl := by
  obtain ⟨mc, ms, Q1, hM, h1, h2, hk⟩ := h
  refine Lw_ald1 C0 hT dL_law_970 ?_
  refine Lw_sld (v := 1) C0 dL_law_971 dL_law_972 dL_law_973 dL_law_974 dL_law_975 (by decide) (hi 1 (by decide)) ?_
  refine Lw_sld (v := 2) C0 dL_law_976 dL_law_977 dL_law_978 dL_law_979 dL_law_980 (by decide) (hi 2 (by decide)) ?_
  refine Lw_call (k := 0) (as := [.int (xs (i + 1).toNatClampNeg), .int (xs (i + 2).toNatClampNeg)]) (rest := []) C0 dL_law_981 kX11_work vX11_work lL_100 (hT.k 0 rfl) rfl rfl rfl rfl rfl (by decide) hT h1 h2 hM (fun x T1 I1 hq => ?_)
  obtain ⟨hT, mc2, ms2, Q2, hM2, g1, g2, hk⟩ := hk x T1 I1 hq
  refine Lw_ald2 C0 hT dL_law_984 ?_
  refine Lw_sld (v := 1) C0 dL_law_985 dL_law_986 dL_law_987 dL_law_988 dL_law_989 (by decide) (hi 1 (by decide)) ?_
  refine Lw_sld (v := 2) C0 dL_law_990 dL_law_991 dL_law_992 dL_law_993 dL_law_994 (by decide) (hi 2 (by decide)) ?_
  refine Lw_call (k := 79) (as := [.int (xs (i + 1).toNatClampNeg), .int (xs (i + 2).toNatClampNeg)]) (rest := [.int x]) C0 dL_law_995 kX12_work vX12_work lL_103 (hT.k 79 rfl) rfl rfl rfl rfl rfl (by decide) hT g1 g2 hM2 (fun y T2 I2 hq => ?_)
  obtain ⟨he, hn⟩ := hk y T2 I2 hq
  exact Lw_cmp (tgt := 1405) C0 dL_law_998 (by decide) he (hN _ _ _ _ hn)

set_option maxHeartbeats 4000000 in
set_option maxRecDepth 100000 in
theorem law_c21 {N : Topo → IM → Nat → Nat → Prop} (C0 : LC p s m meth cd b L xs G ab) (hT : Lay T) (hi : ∀ v : Int32, wi v 0 5 → vp_in (i + v) L) (hN : ∀ T2 I2 c2 s2, N T2 I2 c2 s2 → LJ p l e s m below meth cd b G i 1405 [] T2 I2 c2 s2) (h : StpC N mX11_spare mX12_spare [.int (xs (i + 1).toNatClampNeg)] T I c sl) : LJ p l e s m below meth cd b G i 1003 [] T I c sl := by
  obtain ⟨mc, ms, Q1, hM, h1, h2, hk⟩ := h
  refine Lw_ald1 C0 hT dL_law_1003 ?_
  refine Lw_sld (v := 1) C0 dL_law_1004 dL_law_1005 dL_law_1006 dL_law_1007 dL_law_1008 (by decide) (hi 1 (by decide)) ?_
  refine Lw_call (k := 0) (as := [.int (xs (i + 1).toNatClampNeg)]) (rest := []) C0 dL_law_1009 kX11_spare vX11_spare lL_104 (hT.k 0 rfl) rfl rfl rfl rfl rfl (by decide) hT h1 h2 hM (fun x T1 I1 hq => ?_)
  obtain ⟨hT, mc2, ms2, Q2, hM2, g1, g2, hk⟩ := hk x T1 I1 hq
  refine Lw_ald2 C0 hT dL_law_1012 ?_
  refine Lw_sld (v := 1) C0 dL_law_1013 dL_law_1014 dL_law_1015 dL_law_1016 dL_law_1017 (by decide) (hi 1 (by decide)) ?_
  refine Lw_call (k := 79) (as := [.int (xs (i + 1).toNatClampNeg)]) (rest := [.int x]) C0 dL_law_1018 kX12_spare vX12_spare lL_107 (hT.k 79 rfl) rfl rfl rfl rfl rfl (by decide) hT g1 g2 hM2 (fun y T2 I2 hq => ?_)
  obtain ⟨he, hn⟩ := hk y T2 I2 hq
  exact Lw_cmp (tgt := 1405) C0 dL_law_1021 (by decide) he (hN _ _ _ _ hn)

set_option maxHeartbeats 4000000 in
set_option maxRecDepth 100000 in
theorem law_c22 {N : Topo → IM → Nat → Nat → Prop} (C0 : LC p s m meth cd b L xs G ab) (hT : Lay T) (hi : ∀ v : Int32, wi v 0 5 → vp_in (i + v) L) (hN : ∀ T2 I2 c2 s2, N T2 I2 c2 s2 → LJ p l e s m below meth cd b G i 1405 [] T2 I2 c2 s2) (h : StpC N mX11_took mX12_took [.int (xs (i + 1).toNatClampNeg)] T I c sl) : LJ p l e s m below meth cd b G i 1026 [] T I c sl := by
  obtain ⟨mc, ms, Q1, hM, h1, h2, hk⟩ := h
  refine Lw_ald1 C0 hT dL_law_1026 ?_
  refine Lw_sld (v := 1) C0 dL_law_1027 dL_law_1028 dL_law_1029 dL_law_1030 dL_law_1031 (by decide) (hi 1 (by decide)) ?_
  refine Lw_call (k := 0) (as := [.int (xs (i + 1).toNatClampNeg)]) (rest := []) C0 dL_law_1032 kX11_took vX11_took lL_108 (hT.k 0 rfl) rfl rfl rfl rfl rfl (by decide) hT h1 h2 hM (fun x T1 I1 hq => ?_)
  obtain ⟨hT, mc2, ms2, Q2, hM2, g1, g2, hk⟩ := hk x T1 I1 hq
  refine Lw_ald2 C0 hT dL_law_1035 ?_
  refine Lw_sld (v := 1) C0 dL_law_1036 dL_law_1037 dL_law_1038 dL_law_1039 dL_law_1040 (by decide) (hi 1 (by decide)) ?_
  refine Lw_call (k := 79) (as := [.int (xs (i + 1).toNatClampNeg)]) (rest := [.int x]) C0 dL_law_1041 kX12_took vX12_took lL_111 (hT.k 79 rfl) rfl rfl rfl rfl rfl (by decide) hT g1 g2 hM2 (fun y T2 I2 hq => ?_)
  obtain ⟨he, hn⟩ := hk y T2 I2 hq
  exact Lw_cmp (tgt := 1405) C0 dL_law_1044 (by decide) he (hN _ _ _ _ hn)

set_option maxHeartbeats 4000000 in
set_option maxRecDepth 100000 in
theorem law_c23 {N : Topo → IM → Nat → Nat → Prop} (C0 : LC p s m meth cd b L xs G ab) (hT : Lay T) (hi : ∀ v : Int32, wi v 0 5 → vp_in (i + v) L) (hN : ∀ T2 I2 c2 s2, N T2 I2 c2 s2 → LJ p l e s m below meth cd b G i 1405 [] T2 I2 c2 s2) (h : StpC N mX11_lay mX12_lay [.int (xs (i + 1).toNatClampNeg)] T I c sl) : LJ p l e s m below meth cd b G i 1049 [] T I c sl := by
  obtain ⟨mc, ms, Q1, hM, h1, h2, hk⟩ := h
  refine Lw_ald1 C0 hT dL_law_1049 ?_
  refine Lw_sld (v := 1) C0 dL_law_1050 dL_law_1051 dL_law_1052 dL_law_1053 dL_law_1054 (by decide) (hi 1 (by decide)) ?_
  refine Lw_call (k := 0) (as := [.int (xs (i + 1).toNatClampNeg)]) (rest := []) C0 dL_law_1055 kX11_lay vX11_lay lL_112 (hT.k 0 rfl) rfl rfl rfl rfl rfl (by decide) hT h1 h2 hM (fun x T1 I1 hq => ?_)
  obtain ⟨hT, mc2, ms2, Q2, hM2, g1, g2, hk⟩ := hk x T1 I1 hq
  refine Lw_ald2 C0 hT dL_law_1058 ?_
  refine Lw_sld (v := 1) C0 dL_law_1059 dL_law_1060 dL_law_1061 dL_law_1062 dL_law_1063 (by decide) (hi 1 (by decide)) ?_
  refine Lw_call (k := 79) (as := [.int (xs (i + 1).toNatClampNeg)]) (rest := [.int x]) C0 dL_law_1064 kX12_lay vX12_lay lL_115 (hT.k 79 rfl) rfl rfl rfl rfl rfl (by decide) hT g1 g2 hM2 (fun y T2 I2 hq => ?_)
  obtain ⟨he, hn⟩ := hk y T2 I2 hq
  exact Lw_cmp (tgt := 1405) C0 dL_law_1067 (by decide) he (hN _ _ _ _ hn)

set_option maxHeartbeats 4000000 in
set_option maxRecDepth 100000 in
theorem law_c24 {N : Topo → IM → Nat → Nat → Prop} (C0 : LC p s m meth cd b L xs G ab) (hT : Lay T) (hi : ∀ v : Int32, wi v 0 5 → vp_in (i + v) L) (hN : ∀ T2 I2 c2 s2, N T2 I2 c2 s2 → LJ p l e s m below meth cd b G i 1405 [] T2 I2 c2 s2) (h : StpC N mX11_can mX12_can [.int (xs (i + 1).toNatClampNeg)] T I c sl) : LJ p l e s m below meth cd b G i 1072 [] T I c sl := by
  obtain ⟨mc, ms, Q1, hM, h1, h2, hk⟩ := h
  refine Lw_ald1 C0 hT dL_law_1072 ?_
  refine Lw_sld (v := 1) C0 dL_law_1073 dL_law_1074 dL_law_1075 dL_law_1076 dL_law_1077 (by decide) (hi 1 (by decide)) ?_
  refine Lw_call (k := 0) (as := [.int (xs (i + 1).toNatClampNeg)]) (rest := []) C0 dL_law_1078 kX11_can vX11_can lL_116 (hT.k 0 rfl) rfl rfl rfl rfl rfl (by decide) hT h1 h2 hM (fun x T1 I1 hq => ?_)
  obtain ⟨hT, mc2, ms2, Q2, hM2, g1, g2, hk⟩ := hk x T1 I1 hq
  refine Lw_ald2 C0 hT dL_law_1081 ?_
  refine Lw_sld (v := 1) C0 dL_law_1082 dL_law_1083 dL_law_1084 dL_law_1085 dL_law_1086 (by decide) (hi 1 (by decide)) ?_
  refine Lw_call (k := 79) (as := [.int (xs (i + 1).toNatClampNeg)]) (rest := [.int x]) C0 dL_law_1087 kX12_can vX12_can lL_119 (hT.k 79 rfl) rfl rfl rfl rfl rfl (by decide) hT g1 g2 hM2 (fun y T2 I2 hq => ?_)
  obtain ⟨he, hn⟩ := hk y T2 I2 hq
  exact Lw_cmp (tgt := 1405) C0 dL_law_1090 (by decide) he (hN _ _ _ _ hn)

set_option maxHeartbeats 4000000 in
set_option maxRecDepth 100000 in
theorem law_c25 {N : Topo → IM → Nat → Nat → Prop} (C0 : LC p s m meth cd b L xs G ab) (hT : Lay T) (hi : ∀ v : Int32, wi v 0 5 → vp_in (i + v) L) (hN : ∀ T2 I2 c2 s2, N T2 I2 c2 s2 → LJ p l e s m below meth cd b G i 1405 [] T2 I2 c2 s2) (h : StpC N mX11_best mX12_best [] T I c sl) : LJ p l e s m below meth cd b G i 1095 [] T I c sl := by
  obtain ⟨mc, ms, Q1, hM, h1, h2, hk⟩ := h
  refine Lw_ald1 C0 hT dL_law_1095 ?_
  refine Lw_call (k := 0) (as := []) (rest := []) C0 dL_law_1096 kX11_best vX11_best lL_120 (hT.k 0 rfl) rfl rfl rfl rfl rfl (by decide) hT h1 h2 hM (fun x T1 I1 hq => ?_)
  obtain ⟨hT, mc2, ms2, Q2, hM2, g1, g2, hk⟩ := hk x T1 I1 hq
  refine Lw_ald2 C0 hT dL_law_1099 ?_
  refine Lw_call (k := 79) (as := []) (rest := [.int x]) C0 dL_law_1100 kX12_best vX12_best lL_124 (hT.k 79 rfl) rfl rfl rfl rfl rfl (by decide) hT g1 g2 hM2 (fun y T2 I2 hq => ?_)
  obtain ⟨he, hn⟩ := hk y T2 I2 hq
  exact Lw_cmp (tgt := 1405) C0 dL_law_1103 (by decide) he (hN _ _ _ _ hn)

set_option maxHeartbeats 4000000 in
set_option maxRecDepth 100000 in
theorem law_c26 {N : Topo → IM → Nat → Nat → Prop} (C0 : LC p s m meth cd b L xs G ab) (hT : Lay T) (hi : ∀ v : Int32, wi v 0 5 → vp_in (i + v) L) (hN : ∀ T2 I2 c2 s2, N T2 I2 c2 s2 → LJ p l e s m below meth cd b G i 1405 [] T2 I2 c2 s2) (h : StpC N mX11_tries mX12_tries [] T I c sl) : LJ p l e s m below meth cd b G i 1108 [] T I c sl := by
  obtain ⟨mc, ms, Q1, hM, h1, h2, hk⟩ := h
  refine Lw_ald1 C0 hT dL_law_1108 ?_
  refine Lw_call (k := 0) (as := []) (rest := []) C0 dL_law_1109 kX11_tries vX11_tries lL_125 (hT.k 0 rfl) rfl rfl rfl rfl rfl (by decide) hT h1 h2 hM (fun x T1 I1 hq => ?_)
  obtain ⟨hT, mc2, ms2, Q2, hM2, g1, g2, hk⟩ := hk x T1 I1 hq
  refine Lw_ald2 C0 hT dL_law_1112 ?_
  refine Lw_call (k := 79) (as := []) (rest := [.int x]) C0 dL_law_1113 kX12_tries vX12_tries lL_128 (hT.k 79 rfl) rfl rfl rfl rfl rfl (by decide) hT g1 g2 hM2 (fun y T2 I2 hq => ?_)
  obtain ⟨he, hn⟩ := hk y T2 I2 hq
  exact Lw_cmp (tgt := 1405) C0 dL_law_1116 (by decide) he (hN _ _ _ _ hn)

set_option maxHeartbeats 4000000 in
set_option maxRecDepth 100000 in
theorem law_c27 {N : Topo → IM → Nat → Nat → Prop} (C0 : LC p s m meth cd b L xs G ab) (hT : Lay T) (hi : ∀ v : Int32, wi v 0 5 → vp_in (i + v) L) (hN : ∀ T2 I2 c2 s2, N T2 I2 c2 s2 → LJ p l e s m below meth cd b G i 1405 [] T2 I2 c2 s2) (h : StpC N mX11_offer mX12_offer [.int (xs (i + 1).toNatClampNeg), .int (xs (i + 2).toNatClampNeg)] T I c sl) : LJ p l e s m below meth cd b G i 1121 [] T I c sl := by
  obtain ⟨mc, ms, Q1, hM, h1, h2, hk⟩ := h
  refine Lw_ald1 C0 hT dL_law_1121 ?_
  refine Lw_sld (v := 1) C0 dL_law_1122 dL_law_1123 dL_law_1124 dL_law_1125 dL_law_1126 (by decide) (hi 1 (by decide)) ?_
  refine Lw_sld (v := 2) C0 dL_law_1127 dL_law_1128 dL_law_1129 dL_law_1130 dL_law_1131 (by decide) (hi 2 (by decide)) ?_
  refine Lw_call (k := 0) (as := [.int (xs (i + 1).toNatClampNeg), .int (xs (i + 2).toNatClampNeg)]) (rest := []) C0 dL_law_1132 kX11_offer vX11_offer lL_129 (hT.k 0 rfl) rfl rfl rfl rfl rfl (by decide) hT h1 h2 hM (fun x T1 I1 hq => ?_)
  obtain ⟨hT, mc2, ms2, Q2, hM2, g1, g2, hk⟩ := hk x T1 I1 hq
  refine Lw_ald2 C0 hT dL_law_1135 ?_
  refine Lw_sld (v := 1) C0 dL_law_1136 dL_law_1137 dL_law_1138 dL_law_1139 dL_law_1140 (by decide) (hi 1 (by decide)) ?_
  refine Lw_sld (v := 2) C0 dL_law_1141 dL_law_1142 dL_law_1143 dL_law_1144 dL_law_1145 (by decide) (hi 2 (by decide)) ?_
  refine Lw_call (k := 79) (as := [.int (xs (i + 1).toNatClampNeg), .int (xs (i + 2).toNatClampNeg)]) (rest := [.int x]) C0 dL_law_1146 kX12_offer vX12_offer lL_132 (hT.k 79 rfl) rfl rfl rfl rfl rfl (by decide) hT g1 g2 hM2 (fun y T2 I2 hq => ?_)
  obtain ⟨he, hn⟩ := hk y T2 I2 hq
  exact Lw_cmp (tgt := 1405) C0 dL_law_1149 (by decide) he (hN _ _ _ _ hn)

set_option maxHeartbeats 4000000 in
set_option maxRecDepth 100000 in
theorem law_c28 {N : Topo → IM → Nat → Nat → Prop} (C0 : LC p s m meth cd b L xs G ab) (hT : Lay T) (hi : ∀ v : Int32, wi v 0 5 → vp_in (i + v) L) (hN : ∀ T2 I2 c2 s2, N T2 I2 c2 s2 → LJ p l e s m below meth cd b G i 1405 [] T2 I2 c2 s2) (h : StpC N mX11_run mX12_run [.int (xs (i + 1).toNatClampNeg)] T I c sl) : LJ p l e s m below meth cd b G i 1154 [] T I c sl := by
  obtain ⟨mc, ms, Q1, hM, h1, h2, hk⟩ := h
  refine Lw_ald1 C0 hT dL_law_1154 ?_
  refine Lw_sld (v := 1) C0 dL_law_1155 dL_law_1156 dL_law_1157 dL_law_1158 dL_law_1159 (by decide) (hi 1 (by decide)) ?_
  refine Lw_call (k := 0) (as := [.int (xs (i + 1).toNatClampNeg)]) (rest := []) C0 dL_law_1160 kX11_run vX11_run lL_133 (hT.k 0 rfl) rfl rfl rfl rfl rfl (by decide) hT h1 h2 hM (fun x T1 I1 hq => ?_)
  obtain ⟨hT, mc2, ms2, Q2, hM2, g1, g2, hk⟩ := hk x T1 I1 hq
  refine Lw_ald2 C0 hT dL_law_1163 ?_
  refine Lw_sld (v := 1) C0 dL_law_1164 dL_law_1165 dL_law_1166 dL_law_1167 dL_law_1168 (by decide) (hi 1 (by decide)) ?_
  refine Lw_call (k := 79) (as := [.int (xs (i + 1).toNatClampNeg)]) (rest := [.int x]) C0 dL_law_1169 kX12_run vX12_run lL_136 (hT.k 79 rfl) rfl rfl rfl rfl rfl (by decide) hT g1 g2 hM2 (fun y T2 I2 hq => ?_)
  obtain ⟨he, hn⟩ := hk y T2 I2 hq
  exact Lw_cmp (tgt := 1405) C0 dL_law_1172 (by decide) he (hN _ _ _ _ hn)

set_option maxHeartbeats 4000000 in
set_option maxRecDepth 100000 in
theorem law_c29 {N : Topo → IM → Nat → Nat → Prop} (C0 : LC p s m meth cd b L xs G ab) (hT : Lay T) (hi : ∀ v : Int32, wi v 0 5 → vp_in (i + v) L) (hN : ∀ T2 I2 c2 s2, N T2 I2 c2 s2 → LJ p l e s m below meth cd b G i 1405 [] T2 I2 c2 s2) (h : StpC N mX11_about mX12_about [.int (xs (i + 1).toNatClampNeg), .int (xs (i + 2).toNatClampNeg)] T I c sl) : LJ p l e s m below meth cd b G i 1177 [] T I c sl := by
  obtain ⟨mc, ms, Q1, hM, h1, h2, hk⟩ := h
  refine Lw_ald1 C0 hT dL_law_1177 ?_
  refine Lw_sld (v := 1) C0 dL_law_1178 dL_law_1179 dL_law_1180 dL_law_1181 dL_law_1182 (by decide) (hi 1 (by decide)) ?_
  refine Lw_sld (v := 2) C0 dL_law_1183 dL_law_1184 dL_law_1185 dL_law_1186 dL_law_1187 (by decide) (hi 2 (by decide)) ?_
  refine Lw_call (k := 0) (as := [.int (xs (i + 1).toNatClampNeg), .int (xs (i + 2).toNatClampNeg)]) (rest := []) C0 dL_law_1188 kX11_about vX11_about lL_137 (hT.k 0 rfl) rfl rfl rfl rfl rfl (by decide) hT h1 h2 hM (fun x T1 I1 hq => ?_)
  obtain ⟨hT, mc2, ms2, Q2, hM2, g1, g2, hk⟩ := hk x T1 I1 hq
  refine Lw_ald2 C0 hT dL_law_1191 ?_
  refine Lw_sld (v := 1) C0 dL_law_1192 dL_law_1193 dL_law_1194 dL_law_1195 dL_law_1196 (by decide) (hi 1 (by decide)) ?_
  refine Lw_sld (v := 2) C0 dL_law_1197 dL_law_1198 dL_law_1199 dL_law_1200 dL_law_1201 (by decide) (hi 2 (by decide)) ?_
  refine Lw_call (k := 79) (as := [.int (xs (i + 1).toNatClampNeg), .int (xs (i + 2).toNatClampNeg)]) (rest := [.int x]) C0 dL_law_1202 kX12_about vX12_about lL_140 (hT.k 79 rfl) rfl rfl rfl rfl rfl (by decide) hT g1 g2 hM2 (fun y T2 I2 hq => ?_)
  obtain ⟨he, hn⟩ := hk y T2 I2 hq
  exact Lw_cmp (tgt := 1405) C0 dL_law_1205 (by decide) he (hN _ _ _ _ hn)

set_option maxHeartbeats 4000000 in
set_option maxRecDepth 100000 in
theorem law_c30 {N : Topo → IM → Nat → Nat → Prop} (C0 : LC p s m meth cd b L xs G ab) (hT : Lay T) (hi : ∀ v : Int32, wi v 0 5 → vp_in (i + v) L) (hN : ∀ T2 I2 c2 s2, N T2 I2 c2 s2 → LJ p l e s m below meth cd b G i 1405 [] T2 I2 c2 s2) (h : StpC N mX11_sheet mX12_sheet [.int (xs (i + 1).toNatClampNeg), .int (xs (i + 2).toNatClampNeg), .int (xs (i + 3).toNatClampNeg)] T I c sl) : LJ p l e s m below meth cd b G i 1210 [] T I c sl := by
  obtain ⟨mc, ms, Q1, hM, h1, h2, hk⟩ := h
  refine Lw_ald1 C0 hT dL_law_1210 ?_
  refine Lw_sld (v := 1) C0 dL_law_1211 dL_law_1212 dL_law_1213 dL_law_1214 dL_law_1215 (by decide) (hi 1 (by decide)) ?_
  refine Lw_sld (v := 2) C0 dL_law_1216 dL_law_1217 dL_law_1218 dL_law_1219 dL_law_1220 (by decide) (hi 2 (by decide)) ?_
  refine Lw_sld (v := 3) C0 dL_law_1221 dL_law_1222 dL_law_1223 dL_law_1224 dL_law_1225 (by decide) (hi 3 (by decide)) ?_
  refine Lw_call (k := 0) (as := [.int (xs (i + 1).toNatClampNeg), .int (xs (i + 2).toNatClampNeg), .int (xs (i + 3).toNatClampNeg)]) (rest := []) C0 dL_law_1226 kX11_sheet vX11_sheet lL_141 (hT.k 0 rfl) rfl rfl rfl rfl rfl (by decide) hT h1 h2 hM (fun x T1 I1 hq => ?_)
  obtain ⟨hT, mc2, ms2, Q2, hM2, g1, g2, hk⟩ := hk x T1 I1 hq
  refine Lw_ald2 C0 hT dL_law_1229 ?_
  refine Lw_sld (v := 1) C0 dL_law_1230 dL_law_1231 dL_law_1232 dL_law_1233 dL_law_1234 (by decide) (hi 1 (by decide)) ?_
  refine Lw_sld (v := 2) C0 dL_law_1235 dL_law_1236 dL_law_1237 dL_law_1238 dL_law_1239 (by decide) (hi 2 (by decide)) ?_
  refine Lw_sld (v := 3) C0 dL_law_1240 dL_law_1241 dL_law_1242 dL_law_1243 dL_law_1244 (by decide) (hi 3 (by decide)) ?_
  refine Lw_call (k := 79) (as := [.int (xs (i + 1).toNatClampNeg), .int (xs (i + 2).toNatClampNeg), .int (xs (i + 3).toNatClampNeg)]) (rest := [.int x]) C0 dL_law_1245 kX12_sheet vX12_sheet lL_144 (hT.k 79 rfl) rfl rfl rfl rfl rfl (by decide) hT g1 g2 hM2 (fun y T2 I2 hq => ?_)
  obtain ⟨he, hn⟩ := hk y T2 I2 hq
  exact Lw_cmp (tgt := 1405) C0 dL_law_1248 (by decide) he (hN _ _ _ _ hn)

set_option maxHeartbeats 4000000 in
set_option maxRecDepth 100000 in
theorem law_c31 {N : Topo → IM → Nat → Nat → Prop} (C0 : LC p s m meth cd b L xs G ab) (hT : Lay T) (hi : ∀ v : Int32, wi v 0 5 → vp_in (i + v) L) (hN : ∀ T2 I2 c2 s2, N T2 I2 c2 s2 → LJ p l e s m below meth cd b G i 1405 [] T2 I2 c2 s2) (h : StpC N mX11_write mX12_write [.int (xs (i + 1).toNatClampNeg), .int (xs (i + 2).toNatClampNeg), .int (xs (i + 3).toNatClampNeg)] T I c sl) : LJ p l e s m below meth cd b G i 1253 [] T I c sl := by
  obtain ⟨mc, ms, Q1, hM, h1, h2, hk⟩ := h
  refine Lw_ald1 C0 hT dL_law_1253 ?_
  refine Lw_sld (v := 1) C0 dL_law_1254 dL_law_1255 dL_law_1256 dL_law_1257 dL_law_1258 (by decide) (hi 1 (by decide)) ?_
  refine Lw_sld (v := 2) C0 dL_law_1259 dL_law_1260 dL_law_1261 dL_law_1262 dL_law_1263 (by decide) (hi 2 (by decide)) ?_
  refine Lw_sld (v := 3) C0 dL_law_1264 dL_law_1265 dL_law_1266 dL_law_1267 dL_law_1268 (by decide) (hi 3 (by decide)) ?_
  refine Lw_call (k := 0) (as := [.int (xs (i + 1).toNatClampNeg), .int (xs (i + 2).toNatClampNeg), .int (xs (i + 3).toNatClampNeg)]) (rest := []) C0 dL_law_1269 kX11_write vX11_write lL_145 (hT.k 0 rfl) rfl rfl rfl rfl rfl (by decide) hT h1 h2 hM (fun x T1 I1 hq => ?_)
  obtain ⟨hT, mc2, ms2, Q2, hM2, g1, g2, hk⟩ := hk x T1 I1 hq
  refine Lw_ald2 C0 hT dL_law_1272 ?_
  refine Lw_sld (v := 1) C0 dL_law_1273 dL_law_1274 dL_law_1275 dL_law_1276 dL_law_1277 (by decide) (hi 1 (by decide)) ?_
  refine Lw_sld (v := 2) C0 dL_law_1278 dL_law_1279 dL_law_1280 dL_law_1281 dL_law_1282 (by decide) (hi 2 (by decide)) ?_
  refine Lw_sld (v := 3) C0 dL_law_1283 dL_law_1284 dL_law_1285 dL_law_1286 dL_law_1287 (by decide) (hi 3 (by decide)) ?_
  refine Lw_call (k := 79) (as := [.int (xs (i + 1).toNatClampNeg), .int (xs (i + 2).toNatClampNeg), .int (xs (i + 3).toNatClampNeg)]) (rest := [.int x]) C0 dL_law_1288 kX12_write vX12_write lL_148 (hT.k 79 rfl) rfl rfl rfl rfl rfl (by decide) hT g1 g2 hM2 (fun y T2 I2 hq => ?_)
  obtain ⟨he, hn⟩ := hk y T2 I2 hq
  exact Lw_cmp (tgt := 1405) C0 dL_law_1291 (by decide) he (hN _ _ _ _ hn)

set_option maxHeartbeats 4000000 in
set_option maxRecDepth 100000 in
theorem law_c32 {N : Topo → IM → Nat → Nat → Prop} (C0 : LC p s m meth cd b L xs G ab) (hT : Lay T) (hi : ∀ v : Int32, wi v 0 5 → vp_in (i + v) L) (hN : ∀ T2 I2 c2 s2, N T2 I2 c2 s2 → LJ p l e s m below meth cd b G i 1405 [] T2 I2 c2 s2) (h : StpC N mX11_copy mX12_copy [.int (xs (i + 1).toNatClampNeg), .int (xs (i + 2).toNatClampNeg), .int (xs (i + 3).toNatClampNeg), .int (xs (i + 4).toNatClampNeg), .int (xs (i + 5).toNatClampNeg)] T I c sl) : LJ p l e s m below meth cd b G i 1296 [] T I c sl := by
  obtain ⟨mc, ms, Q1, hM, h1, h2, hk⟩ := h
  refine Lw_ald1 C0 hT dL_law_1296 ?_
  refine Lw_sld (v := 1) C0 dL_law_1297 dL_law_1298 dL_law_1299 dL_law_1300 dL_law_1301 (by decide) (hi 1 (by decide)) ?_
  refine Lw_sld (v := 2) C0 dL_law_1302 dL_law_1303 dL_law_1304 dL_law_1305 dL_law_1306 (by decide) (hi 2 (by decide)) ?_
  refine Lw_sld (v := 3) C0 dL_law_1307 dL_law_1308 dL_law_1309 dL_law_1310 dL_law_1311 (by decide) (hi 3 (by decide)) ?_
  refine Lw_sld (v := 4) C0 dL_law_1312 dL_law_1313 dL_law_1314 dL_law_1315 dL_law_1316 (by decide) (hi 4 (by decide)) ?_
  refine Lw_sld (v := 5) C0 dL_law_1317 dL_law_1318 dL_law_1319 dL_law_1320 dL_law_1321 (by decide) (hi 5 (by decide)) ?_
  refine Lw_call (k := 0) (as := [.int (xs (i + 1).toNatClampNeg), .int (xs (i + 2).toNatClampNeg), .int (xs (i + 3).toNatClampNeg), .int (xs (i + 4).toNatClampNeg), .int (xs (i + 5).toNatClampNeg)]) (rest := []) C0 dL_law_1322 kX11_copy vX11_copy lL_149 (hT.k 0 rfl) rfl rfl rfl rfl rfl (by decide) hT h1 h2 hM (fun x T1 I1 hq => ?_)
  obtain ⟨hT, mc2, ms2, Q2, hM2, g1, g2, hk⟩ := hk x T1 I1 hq
  refine Lw_ald2 C0 hT dL_law_1325 ?_
  refine Lw_sld (v := 1) C0 dL_law_1326 dL_law_1327 dL_law_1328 dL_law_1329 dL_law_1330 (by decide) (hi 1 (by decide)) ?_
  refine Lw_sld (v := 2) C0 dL_law_1331 dL_law_1332 dL_law_1333 dL_law_1334 dL_law_1335 (by decide) (hi 2 (by decide)) ?_
  refine Lw_sld (v := 3) C0 dL_law_1336 dL_law_1337 dL_law_1338 dL_law_1339 dL_law_1340 (by decide) (hi 3 (by decide)) ?_
  refine Lw_sld (v := 4) C0 dL_law_1341 dL_law_1342 dL_law_1343 dL_law_1344 dL_law_1345 (by decide) (hi 4 (by decide)) ?_
  refine Lw_sld (v := 5) C0 dL_law_1346 dL_law_1347 dL_law_1348 dL_law_1349 dL_law_1350 (by decide) (hi 5 (by decide)) ?_
  refine Lw_call (k := 79) (as := [.int (xs (i + 1).toNatClampNeg), .int (xs (i + 2).toNatClampNeg), .int (xs (i + 3).toNatClampNeg), .int (xs (i + 4).toNatClampNeg), .int (xs (i + 5).toNatClampNeg)]) (rest := [.int x]) C0 dL_law_1351 kX12_copy vX12_copy lL_152 (hT.k 79 rfl) rfl rfl rfl rfl rfl (by decide) hT g1 g2 hM2 (fun y T2 I2 hq => ?_)
  obtain ⟨he, hn⟩ := hk y T2 I2 hq
  exact Lw_cmp (tgt := 1405) C0 dL_law_1354 (by decide) he (hN _ _ _ _ hn)

set_option maxHeartbeats 4000000 in
set_option maxRecDepth 100000 in
theorem law_c33 {N : Topo → IM → Nat → Nat → Prop} (C0 : LC p s m meth cd b L xs G ab) (hT : Lay T) (hi : ∀ v : Int32, wi v 0 5 → vp_in (i + v) L) (hN : ∀ T2 I2 c2 s2, N T2 I2 c2 s2 → LJ p l e s m below meth cd b G i 1405 [] T2 I2 c2 s2) (h : StpC N mX11_read mX12_read [.int (xs (i + 1).toNatClampNeg)] T I c sl) : LJ p l e s m below meth cd b G i 1359 [] T I c sl := by
  obtain ⟨mc, ms, Q1, hM, h1, h2, hk⟩ := h
  refine Lw_ald1 C0 hT dL_law_1359 ?_
  refine Lw_sld (v := 1) C0 dL_law_1360 dL_law_1361 dL_law_1362 dL_law_1363 dL_law_1364 (by decide) (hi 1 (by decide)) ?_
  refine Lw_call (k := 0) (as := [.int (xs (i + 1).toNatClampNeg)]) (rest := []) C0 dL_law_1365 kX11_read vX11_read lL_153 (hT.k 0 rfl) rfl rfl rfl rfl rfl (by decide) hT h1 h2 hM (fun x T1 I1 hq => ?_)
  obtain ⟨hT, mc2, ms2, Q2, hM2, g1, g2, hk⟩ := hk x T1 I1 hq
  refine Lw_ald2 C0 hT dL_law_1368 ?_
  refine Lw_sld (v := 1) C0 dL_law_1369 dL_law_1370 dL_law_1371 dL_law_1372 dL_law_1373 (by decide) (hi 1 (by decide)) ?_
  refine Lw_call (k := 79) (as := [.int (xs (i + 1).toNatClampNeg)]) (rest := [.int x]) C0 dL_law_1374 kX12_read vX12_read lL_156 (hT.k 79 rfl) rfl rfl rfl rfl rfl (by decide) hT g1 g2 hM2 (fun y T2 I2 hq => ?_)
  obtain ⟨he, hn⟩ := hk y T2 I2 hq
  exact Lw_cmp (tgt := 1405) C0 dL_law_1377 (by decide) he (hN _ _ _ _ hn)

set_option maxHeartbeats 4000000 in
set_option maxRecDepth 100000 in
theorem law_c34 {N : Topo → IM → Nat → Nat → Prop} (C0 : LC p s m meth cd b L xs G ab) (hT : Lay T) (hi : ∀ v : Int32, wi v 0 5 → vp_in (i + v) L) (hN : ∀ T2 I2 c2 s2, N T2 I2 c2 s2 → LJ p l e s m below meth cd b G i 1405 [] T2 I2 c2 s2) (h : StpC N mX11_told mX12_told [.int (xs (i + 1).toNatClampNeg)] T I c sl) : LJ p l e s m below meth cd b G i 1382 [] T I c sl := by
  obtain ⟨mc, ms, Q1, hM, h1, h2, hk⟩ := h
  refine Lw_ald1 C0 hT dL_law_1382 ?_
  refine Lw_sld (v := 1) C0 dL_law_1383 dL_law_1384 dL_law_1385 dL_law_1386 dL_law_1387 (by decide) (hi 1 (by decide)) ?_
  refine Lw_call (k := 0) (as := [.int (xs (i + 1).toNatClampNeg)]) (rest := []) C0 dL_law_1388 kX11_told vX11_told lL_157 (hT.k 0 rfl) rfl rfl rfl rfl rfl (by decide) hT h1 h2 hM (fun x T1 I1 hq => ?_)
  obtain ⟨hT, mc2, ms2, Q2, hM2, g1, g2, hk⟩ := hk x T1 I1 hq
  refine Lw_ald2 C0 hT dL_law_1391 ?_
  refine Lw_sld (v := 1) C0 dL_law_1392 dL_law_1393 dL_law_1394 dL_law_1395 dL_law_1396 (by decide) (hi 1 (by decide)) ?_
  refine Lw_call (k := 79) (as := [.int (xs (i + 1).toNatClampNeg)]) (rest := [.int x]) C0 dL_law_1397 kX12_told vX12_told lL_160 (hT.k 79 rfl) rfl rfl rfl rfl rfl (by decide) hT g1 g2 hM2 (fun y T2 I2 hq => ?_)
  obtain ⟨he, hn⟩ := hk y T2 I2 hq
  exact Lw_cmp (tgt := 1405) C0 dL_law_1400 (by decide) he (hN _ _ _ _ hn)

/-- what a call of number op owes -/
def StpOp (N : Topo → IM → Nat → Nat → Prop) (op : Nat) (a1 a2 a3 a4 a5 : Int32) (T : Topo) (I : IM) (c sl : Nat) : Prop := match op with
  | 0 => StpC N mX11_node mX12_node [.int a1] T I c sl
  | 1 => StpC N mX11_line mX12_line [.int a1, .int a2, .int a3, .int a4, .int a5] T I c sl
  | 2 => StpC N mX11_up mX12_up [.int a1, .int (bz a2)] T I c sl
  | 3 => StpC N mX11_ways mX12_ways [.int a1, .int a2] T I c sl
  | 4 => StpC N mX11_way mX12_way [.int a1, .int a2, .int a3, .int a4] T I c sl
  | 5 => StpC N mX11_flow mX12_flow [.int a1, .int a2, .int a3] T I c sl
  | 6 => StpC N mX11_cut mX12_cut [.int a1, .int a2, .int a3] T I c sl
  | 7 => StpC N mX11_slice mX12_slice [.int a1, .int a2, .int a3, .int a4, .int a5] T I c sl
  | 8 => StpC N mX11_terms mX12_terms [.int a1, .int a2, .int a3, .int a4] T I c sl
  | 9 => StpC N mX11_span mX12_span [.int a1, .int a2, .int a3, .int a4] T I c sl
  | 10 => StpC N mX11_as mX12_as [.int a1, .int a2] T I c sl
  | 11 => StpC N mX11_of mX12_of [.int a1, .int a2] T I c sl
  | 12 => StpC N mX11_places mX12_places [.int a1] T I c sl
  | 13 => StpC N mX11_letIn mX12_letIn [.int a1] T I c sl
  | 14 => StpC N mX11_why mX12_why [.int a1] T I c sl
  | 15 => StpC N mX11_out mX12_out [.int a1] T I c sl
  | 16 => StpC N mX11_wayOf mX12_wayOf [.int a1, .int (bz a2), .int a3] T I c sl
  | 17 => StpC N mX11_host mX12_host [.int a1] T I c sl
  | 18 => StpC N mX11_load mX12_load [.int a1, .int a2] T I c sl
  | 19 => StpC N mX11_fallRoom mX12_fallRoom [.int a1, .int a2] T I c sl
  | 20 => StpC N mX11_work mX12_work [.int a1, .int a2] T I c sl
  | 21 => StpC N mX11_spare mX12_spare [.int a1] T I c sl
  | 22 => StpC N mX11_took mX12_took [.int a1] T I c sl
  | 23 => StpC N mX11_lay mX12_lay [.int a1] T I c sl
  | 24 => StpC N mX11_can mX12_can [.int a1] T I c sl
  | 25 => StpC N mX11_best mX12_best [] T I c sl
  | 26 => StpC N mX11_tries mX12_tries [] T I c sl
  | 27 => StpC N mX11_offer mX12_offer [.int a1, .int a2] T I c sl
  | 28 => StpC N mX11_run mX12_run [.int a1] T I c sl
  | 29 => StpC N mX11_about mX12_about [.int a1, .int a2] T I c sl
  | 30 => StpC N mX11_sheet mX12_sheet [.int a1, .int a2, .int a3] T I c sl
  | 31 => StpC N mX11_write mX12_write [.int a1, .int a2, .int a3] T I c sl
  | 32 => StpC N mX11_copy mX12_copy [.int a1, .int a2, .int a3, .int a4, .int a5] T I c sl
  | 33 => StpC N mX11_read mX12_read [.int a1] T I c sl
  | 34 => StpC N mX11_told mX12_told [.int a1] T I c sl
  | _ => N T I c sl
theorem Lw_iinc6 (C0 : LC p s m meth cd b L xs G ab) (k : LJ p l e s m below meth cd b G (i + 6) 18 [] T I c sl) : LJ p l e s m below meth cd b G i 1405 [] T I c sl := by
  intro ad ca H locs LS D hl hv
  refine lv_iinc (v := i + 6) (lv' := [(3, .int (i + 6)), (0, .ref b), (1, .ref (ad 0)), (2, .ref (ad 79))]) C0.1.1 C0.1.2.1 dL_law_1405 hl (k := 3) rfl rfl (by decide) rfl (fun LS' hl' => ?_)
  refine lv_goto (tgt := 18) C0.1.1 C0.1.2.1 dL_law_1408 (by decide) ?_
  exact k ad ca H locs LS' D (lv_sub hl' [1, 2, 3, 0] rfl) hv
theorem Lw_done (C0 : LC p s m meth cd b L xs G ab) (hc : c ≤ 600000) (hs : sl ≤ 7302250) : LJ p l e s m below meth cd b G i 1411 [] T I c sl := by
  intro ad ca H locs LS D hl hv
  obtain ⟨hx, hb, hr, -, -, -, -, -, hlocks, -⟩ := C0.1
  refine lv_iconst (v := 1) hx hb dL_law_1411 (by decide) ?_
  refine va_forget (fun q hq => D.2.2.2.2.2.1.2.2 q hq) ?_
  refine W.widen hc hs ?_
  exact lw_ret hx hb hr hlocks dL_law_1412

theorem Lw_tabIn {dflt lo hi : Int} {offs : Array Int} {len : Nat} {x : Int32} {off : Int} {tgt : Nat} (C0 : LC p s m meth cd b L xs G ab) (hd : decode code pc = .ok (.tableswitch dflt lo hi offs, len)) (h1 : ¬ x.toInt < lo) (h2 : ¬ hi < x.toInt) (ho : offs[(x.toInt - lo).toNat]? = some off) (ht : (pc : Int) + off = (tgt : Int)) (k : LJ p l e s m below meth cd b G i tgt st T I c sl) : LJ p l e s m below meth cd b G i pc (.int x :: st) T I c sl :=
  fun ad ca H locs LS D hl hv => lv_tableIn C0.1.1 C0.1.2.1 hd h1 h2 ho ht (k ad ca H locs LS D hl (vs_t hv))
theorem Lw_tabOut {dflt lo hi : Int} {offs : Array Int} {len : Nat} {x : Int32} {tgt : Nat} (C0 : LC p s m meth cd b L xs G ab) (hd : decode code pc = .ok (.tableswitch dflt lo hi offs, len)) (h : x.toInt < lo ∨ hi < x.toInt) (ht : (pc : Int) + dflt = (tgt : Int)) (k : LJ p l e s m below meth cd b G i tgt st T I c sl) : LJ p l e s m below meth cd b G i pc (.int x :: st) T I c sl :=
  fun ad ca H locs LS D hl hv => lv_tableOut C0.1.1 C0.1.2.1 hd h ht (k ad ca H locs LS D hl (vs_t hv))

theorem swd_0_34 {x : Int32} (h : x.toInt < 0 ∨ 34 < x.toInt) : ¬ x = 0 ∧ ¬ x = 1 ∧ ¬ x = 2 ∧ ¬ x = 3 ∧ ¬ x = 4 ∧ ¬ x = 5 ∧ ¬ x = 6 ∧ ¬ x = 7 ∧ ¬ x = 8 ∧ ¬ x = 9 ∧ ¬ x = 10 ∧ ¬ x = 11 ∧ ¬ x = 12 ∧ ¬ x = 13 ∧ ¬ x = 14 ∧ ¬ x = 15 ∧ ¬ x = 16 ∧ ¬ x = 17 ∧ ¬ x = 18 ∧ ¬ x = 19 ∧ ¬ x = 20 ∧ ¬ x = 21 ∧ ¬ x = 22 ∧ ¬ x = 23 ∧ ¬ x = 24 ∧ ¬ x = 25 ∧ ¬ x = 26 ∧ ¬ x = 27 ∧ ¬ x = 28 ∧ ¬ x = 29 ∧ ¬ x = 30 ∧ ¬ x = 31 ∧ ¬ x = 32 ∧ ¬ x = 33 ∧ ¬ x = 34 := by
  refine ⟨?_, ?_, ?_, ?_, ?_, ?_, ?_, ?_, ?_, ?_, ?_, ?_, ?_, ?_, ?_, ?_, ?_, ?_, ?_, ?_, ?_, ?_, ?_, ?_, ?_, ?_, ?_, ?_, ?_, ?_, ?_, ?_, ?_, ?_, ?_⟩ <;> (intro e; subst e; revert h; decide)
theorem sw_0_34 (x : Int32) : x = 0 ∨ x = 1 ∨ x = 2 ∨ x = 3 ∨ x = 4 ∨ x = 5 ∨ x = 6 ∨ x = 7 ∨ x = 8 ∨ x = 9 ∨ x = 10 ∨ x = 11 ∨ x = 12 ∨ x = 13 ∨ x = 14 ∨ x = 15 ∨ x = 16 ∨ x = 17 ∨ x = 18 ∨ x = 19 ∨ x = 20 ∨ x = 21 ∨ x = 22 ∨ x = 23 ∨ x = 24 ∨ x = 25 ∨ x = 26 ∨ x = 27 ∨ x = 28 ∨ x = 29 ∨ x = 30 ∨ x = 31 ∨ x = 32 ∨ x = 33 ∨ x = 34 ∨ (x.toInt < 0 ∨ 34 < x.toInt) := by
  by_cases hr : x.toInt < 0 ∨ 34 < x.toInt
  · exact Or.inr (Or.inr (Or.inr (Or.inr (Or.inr (Or.inr (Or.inr (Or.inr (Or.inr (Or.inr (Or.inr (Or.inr (Or.inr (Or.inr (Or.inr (Or.inr (Or.inr (Or.inr (Or.inr (Or.inr (Or.inr (Or.inr (Or.inr (Or.inr (Or.inr (Or.inr (Or.inr (Or.inr (Or.inr (Or.inr (Or.inr (Or.inr (Or.inr (Or.inr (Or.inr (hr)))))))))))))))))))))))))))))))))))
  · have hc : x.toInt = 0 ∨ x.toInt = 1 ∨ x.toInt = 2 ∨ x.toInt = 3 ∨ x.toInt = 4 ∨ x.toInt = 5 ∨ x.toInt = 6 ∨ x.toInt = 7 ∨ x.toInt = 8 ∨ x.toInt = 9 ∨ x.toInt = 10 ∨ x.toInt = 11 ∨ x.toInt = 12 ∨ x.toInt = 13 ∨ x.toInt = 14 ∨ x.toInt = 15 ∨ x.toInt = 16 ∨ x.toInt = 17 ∨ x.toInt = 18 ∨ x.toInt = 19 ∨ x.toInt = 20 ∨ x.toInt = 21 ∨ x.toInt = 22 ∨ x.toInt = 23 ∨ x.toInt = 24 ∨ x.toInt = 25 ∨ x.toInt = 26 ∨ x.toInt = 27 ∨ x.toInt = 28 ∨ x.toInt = 29 ∨ x.toInt = 30 ∨ x.toInt = 31 ∨ x.toInt = 32 ∨ x.toInt = 33 ∨ x.toInt = 34 := by omega
    rcases hc with hc | hc | hc | hc | hc | hc | hc | hc | hc | hc | hc | hc | hc | hc | hc | hc | hc | hc | hc | hc | hc | hc | hc | hc | hc | hc | hc | hc | hc | hc | hc | hc | hc | hc | hc
    · exact Or.inl (Int32.toInt_inj.mp (hc.trans (by decide)))
    · exact Or.inr (Or.inl (Int32.toInt_inj.mp (hc.trans (by decide))))
    · exact Or.inr (Or.inr (Or.inl (Int32.toInt_inj.mp (hc.trans (by decide)))))
    · exact Or.inr (Or.inr (Or.inr (Or.inl (Int32.toInt_inj.mp (hc.trans (by decide))))))
    · exact Or.inr (Or.inr (Or.inr (Or.inr (Or.inl (Int32.toInt_inj.mp (hc.trans (by decide)))))))
    · exact Or.inr (Or.inr (Or.inr (Or.inr (Or.inr (Or.inl (Int32.toInt_inj.mp (hc.trans (by decide))))))))
    · exact Or.inr (Or.inr (Or.inr (Or.inr (Or.inr (Or.inr (Or.inl (Int32.toInt_inj.mp (hc.trans (by decide)))))))))
    · exact Or.inr (Or.inr (Or.inr (Or.inr (Or.inr (Or.inr (Or.inr (Or.inl (Int32.toInt_inj.mp (hc.trans (by decide))))))))))
    · exact Or.inr (Or.inr (Or.inr (Or.inr (Or.inr (Or.inr (Or.inr (Or.inr (Or.inl (Int32.toInt_inj.mp (hc.trans (by decide)))))))))))
    · exact Or.inr (Or.inr (Or.inr (Or.inr (Or.inr (Or.inr (Or.inr (Or.inr (Or.inr (Or.inl (Int32.toInt_inj.mp (hc.trans (by decide))))))))))))
    · exact Or.inr (Or.inr (Or.inr (Or.inr (Or.inr (Or.inr (Or.inr (Or.inr (Or.inr (Or.inr (Or.inl (Int32.toInt_inj.mp (hc.trans (by decide)))))))))))))
    · exact Or.inr (Or.inr (Or.inr (Or.inr (Or.inr (Or.inr (Or.inr (Or.inr (Or.inr (Or.inr (Or.inr (Or.inl (Int32.toInt_inj.mp (hc.trans (by decide))))))))))))))
    · exact Or.inr (Or.inr (Or.inr (Or.inr (Or.inr (Or.inr (Or.inr (Or.inr (Or.inr (Or.inr (Or.inr (Or.inr (Or.inl (Int32.toInt_inj.mp (hc.trans (by decide)))))))))))))))
    · exact Or.inr (Or.inr (Or.inr (Or.inr (Or.inr (Or.inr (Or.inr (Or.inr (Or.inr (Or.inr (Or.inr (Or.inr (Or.inr (Or.inl (Int32.toInt_inj.mp (hc.trans (by decide))))))))))))))))
    · exact Or.inr (Or.inr (Or.inr (Or.inr (Or.inr (Or.inr (Or.inr (Or.inr (Or.inr (Or.inr (Or.inr (Or.inr (Or.inr (Or.inr (Or.inl (Int32.toInt_inj.mp (hc.trans (by decide)))))))))))))))))
    · exact Or.inr (Or.inr (Or.inr (Or.inr (Or.inr (Or.inr (Or.inr (Or.inr (Or.inr (Or.inr (Or.inr (Or.inr (Or.inr (Or.inr (Or.inr (Or.inl (Int32.toInt_inj.mp (hc.trans (by decide))))))))))))))))))
    · exact Or.inr (Or.inr (Or.inr (Or.inr (Or.inr (Or.inr (Or.inr (Or.inr (Or.inr (Or.inr (Or.inr (Or.inr (Or.inr (Or.inr (Or.inr (Or.inr (Or.inl (Int32.toInt_inj.mp (hc.trans (by decide)))))))))))))))))))
    · exact Or.inr (Or.inr (Or.inr (Or.inr (Or.inr (Or.inr (Or.inr (Or.inr (Or.inr (Or.inr (Or.inr (Or.inr (Or.inr (Or.inr (Or.inr (Or.inr (Or.inr (Or.inl (Int32.toInt_inj.mp (hc.trans (by decide))))))))))))))))))))
    · exact Or.inr (Or.inr (Or.inr (Or.inr (Or.inr (Or.inr (Or.inr (Or.inr (Or.inr (Or.inr (Or.inr (Or.inr (Or.inr (Or.inr (Or.inr (Or.inr (Or.inr (Or.inr (Or.inl (Int32.toInt_inj.mp (hc.trans (by decide)))))))))))))))))))))
    · exact Or.inr (Or.inr (Or.inr (Or.inr (Or.inr (Or.inr (Or.inr (Or.inr (Or.inr (Or.inr (Or.inr (Or.inr (Or.inr (Or.inr (Or.inr (Or.inr (Or.inr (Or.inr (Or.inr (Or.inl (Int32.toInt_inj.mp (hc.trans (by decide))))))))))))))))))))))
    · exact Or.inr (Or.inr (Or.inr (Or.inr (Or.inr (Or.inr (Or.inr (Or.inr (Or.inr (Or.inr (Or.inr (Or.inr (Or.inr (Or.inr (Or.inr (Or.inr (Or.inr (Or.inr (Or.inr (Or.inr (Or.inl (Int32.toInt_inj.mp (hc.trans (by decide)))))))))))))))))))))))
    · exact Or.inr (Or.inr (Or.inr (Or.inr (Or.inr (Or.inr (Or.inr (Or.inr (Or.inr (Or.inr (Or.inr (Or.inr (Or.inr (Or.inr (Or.inr (Or.inr (Or.inr (Or.inr (Or.inr (Or.inr (Or.inr (Or.inl (Int32.toInt_inj.mp (hc.trans (by decide))))))))))))))))))))))))
    · exact Or.inr (Or.inr (Or.inr (Or.inr (Or.inr (Or.inr (Or.inr (Or.inr (Or.inr (Or.inr (Or.inr (Or.inr (Or.inr (Or.inr (Or.inr (Or.inr (Or.inr (Or.inr (Or.inr (Or.inr (Or.inr (Or.inr (Or.inl (Int32.toInt_inj.mp (hc.trans (by decide)))))))))))))))))))))))))
    · exact Or.inr (Or.inr (Or.inr (Or.inr (Or.inr (Or.inr (Or.inr (Or.inr (Or.inr (Or.inr (Or.inr (Or.inr (Or.inr (Or.inr (Or.inr (Or.inr (Or.inr (Or.inr (Or.inr (Or.inr (Or.inr (Or.inr (Or.inr (Or.inl (Int32.toInt_inj.mp (hc.trans (by decide))))))))))))))))))))))))))
    · exact Or.inr (Or.inr (Or.inr (Or.inr (Or.inr (Or.inr (Or.inr (Or.inr (Or.inr (Or.inr (Or.inr (Or.inr (Or.inr (Or.inr (Or.inr (Or.inr (Or.inr (Or.inr (Or.inr (Or.inr (Or.inr (Or.inr (Or.inr (Or.inr (Or.inl (Int32.toInt_inj.mp (hc.trans (by decide)))))))))))))))))))))))))))
    · exact Or.inr (Or.inr (Or.inr (Or.inr (Or.inr (Or.inr (Or.inr (Or.inr (Or.inr (Or.inr (Or.inr (Or.inr (Or.inr (Or.inr (Or.inr (Or.inr (Or.inr (Or.inr (Or.inr (Or.inr (Or.inr (Or.inr (Or.inr (Or.inr (Or.inr (Or.inl (Int32.toInt_inj.mp (hc.trans (by decide))))))))))))))))))))))))))))
    · exact Or.inr (Or.inr (Or.inr (Or.inr (Or.inr (Or.inr (Or.inr (Or.inr (Or.inr (Or.inr (Or.inr (Or.inr (Or.inr (Or.inr (Or.inr (Or.inr (Or.inr (Or.inr (Or.inr (Or.inr (Or.inr (Or.inr (Or.inr (Or.inr (Or.inr (Or.inr (Or.inl (Int32.toInt_inj.mp (hc.trans (by decide)))))))))))))))))))))))))))))
    · exact Or.inr (Or.inr (Or.inr (Or.inr (Or.inr (Or.inr (Or.inr (Or.inr (Or.inr (Or.inr (Or.inr (Or.inr (Or.inr (Or.inr (Or.inr (Or.inr (Or.inr (Or.inr (Or.inr (Or.inr (Or.inr (Or.inr (Or.inr (Or.inr (Or.inr (Or.inr (Or.inr (Or.inl (Int32.toInt_inj.mp (hc.trans (by decide))))))))))))))))))))))))))))))
    · exact Or.inr (Or.inr (Or.inr (Or.inr (Or.inr (Or.inr (Or.inr (Or.inr (Or.inr (Or.inr (Or.inr (Or.inr (Or.inr (Or.inr (Or.inr (Or.inr (Or.inr (Or.inr (Or.inr (Or.inr (Or.inr (Or.inr (Or.inr (Or.inr (Or.inr (Or.inr (Or.inr (Or.inr (Or.inl (Int32.toInt_inj.mp (hc.trans (by decide)))))))))))))))))))))))))))))))
    · exact Or.inr (Or.inr (Or.inr (Or.inr (Or.inr (Or.inr (Or.inr (Or.inr (Or.inr (Or.inr (Or.inr (Or.inr (Or.inr (Or.inr (Or.inr (Or.inr (Or.inr (Or.inr (Or.inr (Or.inr (Or.inr (Or.inr (Or.inr (Or.inr (Or.inr (Or.inr (Or.inr (Or.inr (Or.inr (Or.inl (Int32.toInt_inj.mp (hc.trans (by decide))))))))))))))))))))))))))))))))
    · exact Or.inr (Or.inr (Or.inr (Or.inr (Or.inr (Or.inr (Or.inr (Or.inr (Or.inr (Or.inr (Or.inr (Or.inr (Or.inr (Or.inr (Or.inr (Or.inr (Or.inr (Or.inr (Or.inr (Or.inr (Or.inr (Or.inr (Or.inr (Or.inr (Or.inr (Or.inr (Or.inr (Or.inr (Or.inr (Or.inr (Or.inl (Int32.toInt_inj.mp (hc.trans (by decide)))))))))))))))))))))))))))))))))
    · exact Or.inr (Or.inr (Or.inr (Or.inr (Or.inr (Or.inr (Or.inr (Or.inr (Or.inr (Or.inr (Or.inr (Or.inr (Or.inr (Or.inr (Or.inr (Or.inr (Or.inr (Or.inr (Or.inr (Or.inr (Or.inr (Or.inr (Or.inr (Or.inr (Or.inr (Or.inr (Or.inr (Or.inr (Or.inr (Or.inr (Or.inr (Or.inl (Int32.toInt_inj.mp (hc.trans (by decide))))))))))))))))))))))))))))))))))
    · exact Or.inr (Or.inr (Or.inr (Or.inr (Or.inr (Or.inr (Or.inr (Or.inr (Or.inr (Or.inr (Or.inr (Or.inr (Or.inr (Or.inr (Or.inr (Or.inr (Or.inr (Or.inr (Or.inr (Or.inr (Or.inr (Or.inr (Or.inr (Or.inr (Or.inr (Or.inr (Or.inr (Or.inr (Or.inr (Or.inr (Or.inr (Or.inr (Or.inl (Int32.toInt_inj.mp (hc.trans (by decide)))))))))))))))))))))))))))))))))))
    · exact Or.inr (Or.inr (Or.inr (Or.inr (Or.inr (Or.inr (Or.inr (Or.inr (Or.inr (Or.inr (Or.inr (Or.inr (Or.inr (Or.inr (Or.inr (Or.inr (Or.inr (Or.inr (Or.inr (Or.inr (Or.inr (Or.inr (Or.inr (Or.inr (Or.inr (Or.inr (Or.inr (Or.inr (Or.inr (Or.inr (Or.inr (Or.inr (Or.inr (Or.inl (Int32.toInt_inj.mp (hc.trans (by decide))))))))))))))))))))))))))))))))))))
    · exact Or.inr (Or.inr (Or.inr (Or.inr (Or.inr (Or.inr (Or.inr (Or.inr (Or.inr (Or.inr (Or.inr (Or.inr (Or.inr (Or.inr (Or.inr (Or.inr (Or.inr (Or.inr (Or.inr (Or.inr (Or.inr (Or.inr (Or.inr (Or.inr (Or.inr (Or.inr (Or.inr (Or.inr (Or.inr (Or.inr (Or.inr (Or.inr (Or.inr (Or.inr (Or.inl (Int32.toInt_inj.mp (hc.trans (by decide)))))))))))))))))))))))))))))))))))))

set_option maxHeartbeats 4000000 in
set_option maxRecDepth 100000 in
/-- one turn of the law's loop: the call of the number at the counter -/
theorem law_turn {N : Topo → IM → Nat → Nat → Prop} (C0 : LC p s m meth cd b L xs G ab) (hT : Lay T) (hi : ∀ v : Int32, wi v 0 5 → vp_in (i + v) L) (hN : ∀ T2 I2 c2 s2, N T2 I2 c2 s2 → LJ p l e s m below meth cd b G i 1405 [] T2 I2 c2 s2)
    (h : ∀ op : Nat, StpOp N op (xs (i + 1).toNatClampNeg) (xs (i + 2).toNatClampNeg) (xs (i + 3).toNatClampNeg) (xs (i + 4).toNatClampNeg) (xs (i + 5).toNatClampNeg) T I c sl) (x : Int32) : LJ p l e s m below meth cd b G i 33 [.int x] T I c sl := by
  rcases sw_0_34 x with e | e | e | e | e | e | e | e | e | e | e | e | e | e | e | e | e | e | e | e | e | e | e | e | e | e | e | e | e | e | e | e | e | e | e | e
  · exact Lw_tabIn (off := 155) (tgt := 188) C0 dL_law_33 (by rw [e]; decide) (by rw [e]; decide) (by rw [e]; decide) (by decide) (law_c0 (N := N) C0 hT hi hN (h 0))
  · exact Lw_tabIn (off := 178) (tgt := 211) C0 dL_law_33 (by rw [e]; decide) (by rw [e]; decide) (by rw [e]; decide) (by decide) (law_c1 (N := N) C0 hT hi hN (h 1))
  · exact Lw_tabIn (off := 241) (tgt := 274) C0 dL_law_33 (by rw [e]; decide) (by rw [e]; decide) (by rw [e]; decide) (by decide) (law_c2 (N := N) C0 hT hi hN (h 2))
  · exact Lw_tabIn (off := 290) (tgt := 323) C0 dL_law_33 (by rw [e]; decide) (by rw [e]; decide) (by rw [e]; decide) (by decide) (law_c3 (N := N) C0 hT hi hN (h 3))
  · exact Lw_tabIn (off := 323) (tgt := 356) C0 dL_law_33 (by rw [e]; decide) (by rw [e]; decide) (by rw [e]; decide) (by decide) (law_c4 (N := N) C0 hT hi hN (h 4))
  · exact Lw_tabIn (off := 376) (tgt := 409) C0 dL_law_33 (by rw [e]; decide) (by rw [e]; decide) (by rw [e]; decide) (by decide) (law_c5 (N := N) C0 hT hi hN (h 5))
  · exact Lw_tabIn (off := 419) (tgt := 452) C0 dL_law_33 (by rw [e]; decide) (by rw [e]; decide) (by rw [e]; decide) (by decide) (law_c6 (N := N) C0 hT hi hN (h 6))
  · exact Lw_tabIn (off := 462) (tgt := 495) C0 dL_law_33 (by rw [e]; decide) (by rw [e]; decide) (by rw [e]; decide) (by decide) (law_c7 (N := N) C0 hT hi hN (h 7))
  · exact Lw_tabIn (off := 525) (tgt := 558) C0 dL_law_33 (by rw [e]; decide) (by rw [e]; decide) (by rw [e]; decide) (by decide) (law_c8 (N := N) C0 hT hi hN (h 8))
  · exact Lw_tabIn (off := 578) (tgt := 611) C0 dL_law_33 (by rw [e]; decide) (by rw [e]; decide) (by rw [e]; decide) (by decide) (law_c9 (N := N) C0 hT hi hN (h 9))
  · exact Lw_tabIn (off := 631) (tgt := 664) C0 dL_law_33 (by rw [e]; decide) (by rw [e]; decide) (by rw [e]; decide) (by decide) (law_c10 (N := N) C0 hT hi hN (h 10))
  · exact Lw_tabIn (off := 664) (tgt := 697) C0 dL_law_33 (by rw [e]; decide) (by rw [e]; decide) (by rw [e]; decide) (by decide) (law_c11 (N := N) C0 hT hi hN (h 11))
  · exact Lw_tabIn (off := 697) (tgt := 730) C0 dL_law_33 (by rw [e]; decide) (by rw [e]; decide) (by rw [e]; decide) (by decide) (law_c12 (N := N) C0 hT hi hN (h 12))
  · exact Lw_tabIn (off := 720) (tgt := 753) C0 dL_law_33 (by rw [e]; decide) (by rw [e]; decide) (by rw [e]; decide) (by decide) (law_c13 (N := N) C0 hT hi hN (h 13))
  · exact Lw_tabIn (off := 743) (tgt := 776) C0 dL_law_33 (by rw [e]; decide) (by rw [e]; decide) (by rw [e]; decide) (by decide) (law_c14 (N := N) C0 hT hi hN (h 14))
  · exact Lw_tabIn (off := 766) (tgt := 799) C0 dL_law_33 (by rw [e]; decide) (by rw [e]; decide) (by rw [e]; decide) (by decide) (law_c15 (N := N) C0 hT hi hN (h 15))
  · exact Lw_tabIn (off := 789) (tgt := 822) C0 dL_law_33 (by rw [e]; decide) (by rw [e]; decide) (by rw [e]; decide) (by decide) (law_c16 (N := N) C0 hT hi hN (h 16))
  · exact Lw_tabIn (off := 848) (tgt := 881) C0 dL_law_33 (by rw [e]; decide) (by rw [e]; decide) (by rw [e]; decide) (by decide) (law_c17 (N := N) C0 hT hi hN (h 17))
  · exact Lw_tabIn (off := 871) (tgt := 904) C0 dL_law_33 (by rw [e]; decide) (by rw [e]; decide) (by rw [e]; decide) (by decide) (law_c18 (N := N) C0 hT hi hN (h 18))
  · exact Lw_tabIn (off := 904) (tgt := 937) C0 dL_law_33 (by rw [e]; decide) (by rw [e]; decide) (by rw [e]; decide) (by decide) (law_c19 (N := N) C0 hT hi hN (h 19))
  · exact Lw_tabIn (off := 937) (tgt := 970) C0 dL_law_33 (by rw [e]; decide) (by rw [e]; decide) (by rw [e]; decide) (by decide) (law_c20 (N := N) C0 hT hi hN (h 20))
  · exact Lw_tabIn (off := 970) (tgt := 1003) C0 dL_law_33 (by rw [e]; decide) (by rw [e]; decide) (by rw [e]; decide) (by decide) (law_c21 (N := N) C0 hT hi hN (h 21))
  · exact Lw_tabIn (off := 993) (tgt := 1026) C0 dL_law_33 (by rw [e]; decide) (by rw [e]; decide) (by rw [e]; decide) (by decide) (law_c22 (N := N) C0 hT hi hN (h 22))
  · exact Lw_tabIn (off := 1016) (tgt := 1049) C0 dL_law_33 (by rw [e]; decide) (by rw [e]; decide) (by rw [e]; decide) (by decide) (law_c23 (N := N) C0 hT hi hN (h 23))
  · exact Lw_tabIn (off := 1039) (tgt := 1072) C0 dL_law_33 (by rw [e]; decide) (by rw [e]; decide) (by rw [e]; decide) (by decide) (law_c24 (N := N) C0 hT hi hN (h 24))
  · exact Lw_tabIn (off := 1062) (tgt := 1095) C0 dL_law_33 (by rw [e]; decide) (by rw [e]; decide) (by rw [e]; decide) (by decide) (law_c25 (N := N) C0 hT hi hN (h 25))
  · exact Lw_tabIn (off := 1075) (tgt := 1108) C0 dL_law_33 (by rw [e]; decide) (by rw [e]; decide) (by rw [e]; decide) (by decide) (law_c26 (N := N) C0 hT hi hN (h 26))
  · exact Lw_tabIn (off := 1088) (tgt := 1121) C0 dL_law_33 (by rw [e]; decide) (by rw [e]; decide) (by rw [e]; decide) (by decide) (law_c27 (N := N) C0 hT hi hN (h 27))
  · exact Lw_tabIn (off := 1121) (tgt := 1154) C0 dL_law_33 (by rw [e]; decide) (by rw [e]; decide) (by rw [e]; decide) (by decide) (law_c28 (N := N) C0 hT hi hN (h 28))
  · exact Lw_tabIn (off := 1144) (tgt := 1177) C0 dL_law_33 (by rw [e]; decide) (by rw [e]; decide) (by rw [e]; decide) (by decide) (law_c29 (N := N) C0 hT hi hN (h 29))
  · exact Lw_tabIn (off := 1177) (tgt := 1210) C0 dL_law_33 (by rw [e]; decide) (by rw [e]; decide) (by rw [e]; decide) (by decide) (law_c30 (N := N) C0 hT hi hN (h 30))
  · exact Lw_tabIn (off := 1220) (tgt := 1253) C0 dL_law_33 (by rw [e]; decide) (by rw [e]; decide) (by rw [e]; decide) (by decide) (law_c31 (N := N) C0 hT hi hN (h 31))
  · exact Lw_tabIn (off := 1263) (tgt := 1296) C0 dL_law_33 (by rw [e]; decide) (by rw [e]; decide) (by rw [e]; decide) (by decide) (law_c32 (N := N) C0 hT hi hN (h 32))
  · exact Lw_tabIn (off := 1326) (tgt := 1359) C0 dL_law_33 (by rw [e]; decide) (by rw [e]; decide) (by rw [e]; decide) (by decide) (law_c33 (N := N) C0 hT hi hN (h 33))
  · exact Lw_tabIn (off := 1349) (tgt := 1382) C0 dL_law_33 (by rw [e]; decide) (by rw [e]; decide) (by rw [e]; decide) (by decide) (law_c34 (N := N) C0 hT hi hN (h 34))
  · exact Lw_tabOut (tgt := 1405) C0 dL_law_33 e (by decide) (hN _ _ _ _ (h 35))
end LAW
