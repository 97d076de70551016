section CS
variable {G : kG} {l : Launch} {D : va_G} {cI cZ : ClassId} {q : (Nat → Nat) × (Nat → Nat)} {b L : Nat} {xs : Nat → Int32} {ce sl : Nat} {hh : Nat → Nat} {ws : va_W} {i : Nat}
theorem k_office (X : OkL G l D cI cZ (some q) b L xs) (hL : L ≤ 3072) (hce : ce ≤ room_1.cells) (hsl : sl ≤ room_1.slots) (hi : i + 6 ≤ L) (S : St cI cZ hh ws) (nx : ∀ ws', St cI cZ hh ws' → G ce sl ws' (lvL b (hh 0) (hh 68) i) 1306 []) : G ce sl ws (lvL b (hh 0) (hh 68) i) 200 [] := by
  obtain ⟨r, ws1, ws2, S2, hx, hm⟩ := b_office X.ok hce hsl S 
  refine g_aload_n X.ok dL_law_200 rfl 1 rfl ?_
  refine hx _ ?_
  refine g_aload_n X.ok dL_law_204 rfl 2 rfl ?_
  refine hm _ ?_
  exact g_icmp_eq (tgt := 1306) X.ok dL_law_208 (by decide) (fun _ => nx ws2 S2) (fun hn => absurd rfl hn)
theorem k_clerk (X : OkL G l D cI cZ (some q) b L xs) (hL : L ≤ 3072) (hce : ce ≤ room_1.cells) (hsl : sl ≤ room_1.slots) (hi : i + 6 ≤ L) (S : St cI cZ hh ws) (nx : ∀ ws', St cI cZ hh ws' → G ce sl ws' (lvL b (hh 0) (hh 68) i) 1306 []) : G ce sl ws (lvL b (hh 0) (hh 68) i) 213 [] := by
  obtain ⟨r, ws1, ws2, S2, hx, hm⟩ := b_clerk X.ok hce hsl S (xs (i + 1)) (xs (i + 2)) (xs (i + 3))
  refine g_aload_n X.ok dL_law_213 rfl 1 rfl ?_
  refine g_aload_n X.ok dL_law_214 rfl 0 rfl ?_
  refine g_iload_n X.ok dL_law_215 rfl 3 rfl ?_
  refine g_iconst (v := 1) X.ok dL_law_216 (by decide) ?_
  refine g_iadd X.ok dL_law_217 ?_
  refine g_arr X hL (k := 1) rfl (by omega) dL_law_218 ?_
  refine g_aload_n X.ok dL_law_219 rfl 0 rfl ?_
  refine g_iload_n X.ok dL_law_220 rfl 3 rfl ?_
  refine g_iconst (v := 2) X.ok dL_law_221 (by decide) ?_
  refine g_iadd X.ok dL_law_222 ?_
  refine g_arr X hL (k := 2) rfl (by omega) dL_law_223 ?_
  refine g_aload_n X.ok dL_law_224 rfl 0 rfl ?_
  refine g_iload_n X.ok dL_law_225 rfl 3 rfl ?_
  refine g_iconst (v := 3) X.ok dL_law_226 (by decide) ?_
  refine g_iadd X.ok dL_law_227 ?_
  refine g_arr X hL (k := 3) rfl (by omega) dL_law_228 ?_
  refine hx _ ?_
  refine g_aload_n X.ok dL_law_232 rfl 2 rfl ?_
  refine g_aload_n X.ok dL_law_233 rfl 0 rfl ?_
  refine g_iload_n X.ok dL_law_234 rfl 3 rfl ?_
  refine g_iconst (v := 1) X.ok dL_law_235 (by decide) ?_
  refine g_iadd X.ok dL_law_236 ?_
  refine g_arr X hL (k := 1) rfl (by omega) dL_law_237 ?_
  refine g_aload_n X.ok dL_law_238 rfl 0 rfl ?_
  refine g_iload_n X.ok dL_law_239 rfl 3 rfl ?_
  refine g_iconst (v := 2) X.ok dL_law_240 (by decide) ?_
  refine g_iadd X.ok dL_law_241 ?_
  refine g_arr X hL (k := 2) rfl (by omega) dL_law_242 ?_
  refine g_aload_n X.ok dL_law_243 rfl 0 rfl ?_
  refine g_iload_n X.ok dL_law_244 rfl 3 rfl ?_
  refine g_iconst (v := 3) X.ok dL_law_245 (by decide) ?_
  refine g_iadd X.ok dL_law_246 ?_
  refine g_arr X hL (k := 3) rfl (by omega) dL_law_247 ?_
  refine hm _ ?_
  exact g_icmp_eq (tgt := 1306) X.ok dL_law_251 (by decide) (fun _ => nx ws2 S2) (fun hn => absurd rfl hn)
theorem k_magnet (X : OkL G l D cI cZ (some q) b L xs) (hL : L ≤ 3072) (hce : ce ≤ room_1.cells) (hsl : sl ≤ room_1.slots) (hi : i + 6 ≤ L) (S : St cI cZ hh ws) (nx : ∀ ws', St cI cZ hh ws' → G ce sl ws' (lvL b (hh 0) (hh 68) i) 1306 []) : G ce sl ws (lvL b (hh 0) (hh 68) i) 256 [] := by
  obtain ⟨r, ws1, ws2, S2, hx, hm⟩ := b_magnet X.ok hce hsl S (xs (i + 1)) (xs (i + 2)) (xs (i + 3))
  refine g_aload_n X.ok dL_law_256 rfl 1 rfl ?_
  refine g_aload_n X.ok dL_law_257 rfl 0 rfl ?_
  refine g_iload_n X.ok dL_law_258 rfl 3 rfl ?_
  refine g_iconst (v := 1) X.ok dL_law_259 (by decide) ?_
  refine g_iadd X.ok dL_law_260 ?_
  refine g_arr X hL (k := 1) rfl (by omega) dL_law_261 ?_
  refine g_aload_n X.ok dL_law_262 rfl 0 rfl ?_
  refine g_iload_n X.ok dL_law_263 rfl 3 rfl ?_
  refine g_iconst (v := 2) X.ok dL_law_264 (by decide) ?_
  refine g_iadd X.ok dL_law_265 ?_
  refine g_arr X hL (k := 2) rfl (by omega) dL_law_266 ?_
  refine g_aload_n X.ok dL_law_267 rfl 0 rfl ?_
  refine g_iload_n X.ok dL_law_268 rfl 3 rfl ?_
  refine g_iconst (v := 3) X.ok dL_law_269 (by decide) ?_
  refine g_iadd X.ok dL_law_270 ?_
  refine g_arr X hL (k := 3) rfl (by omega) dL_law_271 ?_
  refine hx _ ?_
  refine g_aload_n X.ok dL_law_275 rfl 2 rfl ?_
  refine g_aload_n X.ok dL_law_276 rfl 0 rfl ?_
  refine g_iload_n X.ok dL_law_277 rfl 3 rfl ?_
  refine g_iconst (v := 1) X.ok dL_law_278 (by decide) ?_
  refine g_iadd X.ok dL_law_279 ?_
  refine g_arr X hL (k := 1) rfl (by omega) dL_law_280 ?_
  refine g_aload_n X.ok dL_law_281 rfl 0 rfl ?_
  refine g_iload_n X.ok dL_law_282 rfl 3 rfl ?_
  refine g_iconst (v := 2) X.ok dL_law_283 (by decide) ?_
  refine g_iadd X.ok dL_law_284 ?_
  refine g_arr X hL (k := 2) rfl (by omega) dL_law_285 ?_
  refine g_aload_n X.ok dL_law_286 rfl 0 rfl ?_
  refine g_iload_n X.ok dL_law_287 rfl 3 rfl ?_
  refine g_iconst (v := 3) X.ok dL_law_288 (by decide) ?_
  refine g_iadd X.ok dL_law_289 ?_
  refine g_arr X hL (k := 3) rfl (by omega) dL_law_290 ?_
  refine hm _ ?_
  exact g_icmp_eq (tgt := 1306) X.ok dL_law_294 (by decide) (fun _ => nx ws2 S2) (fun hn => absurd rfl hn)
theorem k_type (X : OkL G l D cI cZ (some q) b L xs) (hL : L ≤ 3072) (hce : ce ≤ room_1.cells) (hsl : sl ≤ room_1.slots) (hi : i + 6 ≤ L) (S : St cI cZ hh ws) (nx : ∀ ws', St cI cZ hh ws' → G ce sl ws' (lvL b (hh 0) (hh 68) i) 1306 []) : G ce sl ws (lvL b (hh 0) (hh 68) i) 299 [] := by
  obtain ⟨r, ws1, ws2, S2, hx, hm⟩ := b_type X.ok hce hsl S (xs (i + 1))
  refine g_aload_n X.ok dL_law_299 rfl 1 rfl ?_
  refine g_aload_n X.ok dL_law_300 rfl 0 rfl ?_
  refine g_iload_n X.ok dL_law_301 rfl 3 rfl ?_
  refine g_iconst (v := 1) X.ok dL_law_302 (by decide) ?_
  refine g_iadd X.ok dL_law_303 ?_
  refine g_arr X hL (k := 1) rfl (by omega) dL_law_304 ?_
  refine hx _ ?_
  refine g_aload_n X.ok dL_law_308 rfl 2 rfl ?_
  refine g_aload_n X.ok dL_law_309 rfl 0 rfl ?_
  refine g_iload_n X.ok dL_law_310 rfl 3 rfl ?_
  refine g_iconst (v := 1) X.ok dL_law_311 (by decide) ?_
  refine g_iadd X.ok dL_law_312 ?_
  refine g_arr X hL (k := 1) rfl (by omega) dL_law_313 ?_
  refine hm _ ?_
  exact g_icmp_eq (tgt := 1306) X.ok dL_law_317 (by decide) (fun _ => nx ws2 S2) (fun hn => absurd rfl hn)
theorem k_clear (X : OkL G l D cI cZ (some q) b L xs) (hL : L ≤ 3072) (hce : ce ≤ room_1.cells) (hsl : sl ≤ room_1.slots) (hi : i + 6 ≤ L) (S : St cI cZ hh ws) (nx : ∀ ws', St cI cZ hh ws' → G ce sl ws' (lvL b (hh 0) (hh 68) i) 1306 []) : G ce sl ws (lvL b (hh 0) (hh 68) i) 322 [] := by
  obtain ⟨r, ws1, ws2, S2, hx, hm⟩ := b_clear X.ok hce hsl S 
  refine g_aload_n X.ok dL_law_322 rfl 1 rfl ?_
  refine hx _ ?_
  refine g_aload_n X.ok dL_law_326 rfl 2 rfl ?_
  refine hm _ ?_
  exact g_icmp_eq (tgt := 1306) X.ok dL_law_330 (by decide) (fun _ => nx ws2 S2) (fun hn => absurd rfl hn)
theorem k_read (X : OkL G l D cI cZ (some q) b L xs) (hL : L ≤ 3072) (hce : ce ≤ room_1.cells) (hsl : sl ≤ room_1.slots) (hi : i + 6 ≤ L) (S : St cI cZ hh ws) (nx : ∀ ws', St cI cZ hh ws' → G ce sl ws' (lvL b (hh 0) (hh 68) i) 1306 []) : G ce sl ws (lvL b (hh 0) (hh 68) i) 335 [] := by
  obtain ⟨r, ws1, ws2, S2, hx, hm⟩ := b_read X.ok hce hsl S 
  refine g_aload_n X.ok dL_law_335 rfl 1 rfl ?_
  refine hx _ ?_
  refine g_aload_n X.ok dL_law_339 rfl 2 rfl ?_
  refine hm _ ?_
  exact g_icmp_eq (tgt := 1306) X.ok dL_law_343 (by decide) (fun _ => nx ws2 S2) (fun hn => absurd rfl hn)
theorem k_hook (X : OkL G l D cI cZ (some q) b L xs) (hL : L ≤ 3072) (hce : ce ≤ room_1.cells) (hsl : sl ≤ room_1.slots) (hi : i + 6 ≤ L) (S : St cI cZ hh ws) (nx : ∀ ws', St cI cZ hh ws' → G ce sl ws' (lvL b (hh 0) (hh 68) i) 1306 []) : G ce sl ws (lvL b (hh 0) (hh 68) i) 348 [] := by
  obtain ⟨r, ws1, ws2, S2, hx, hm⟩ := b_hook X.ok hce hsl S (xs (i + 1)) (xs (i + 2))
  refine g_aload_n X.ok dL_law_348 rfl 1 rfl ?_
  refine g_aload_n X.ok dL_law_349 rfl 0 rfl ?_
  refine g_iload_n X.ok dL_law_350 rfl 3 rfl ?_
  refine g_iconst (v := 1) X.ok dL_law_351 (by decide) ?_
  refine g_iadd X.ok dL_law_352 ?_
  refine g_arr X hL (k := 1) rfl (by omega) dL_law_353 ?_
  refine g_aload_n X.ok dL_law_354 rfl 0 rfl ?_
  refine g_iload_n X.ok dL_law_355 rfl 3 rfl ?_
  refine g_iconst (v := 2) X.ok dL_law_356 (by decide) ?_
  refine g_iadd X.ok dL_law_357 ?_
  refine g_arr X hL (k := 2) rfl (by omega) dL_law_358 ?_
  refine hx _ ?_
  refine g_aload_n X.ok dL_law_362 rfl 2 rfl ?_
  refine g_aload_n X.ok dL_law_363 rfl 0 rfl ?_
  refine g_iload_n X.ok dL_law_364 rfl 3 rfl ?_
  refine g_iconst (v := 1) X.ok dL_law_365 (by decide) ?_
  refine g_iadd X.ok dL_law_366 ?_
  refine g_arr X hL (k := 1) rfl (by omega) dL_law_367 ?_
  refine g_aload_n X.ok dL_law_368 rfl 0 rfl ?_
  refine g_iload_n X.ok dL_law_369 rfl 3 rfl ?_
  refine g_iconst (v := 2) X.ok dL_law_370 (by decide) ?_
  refine g_iadd X.ok dL_law_371 ?_
  refine g_arr X hL (k := 2) rfl (by omega) dL_law_372 ?_
  refine hm _ ?_
  exact g_icmp_eq (tgt := 1306) X.ok dL_law_376 (by decide) (fun _ => nx ws2 S2) (fun hn => absurd rfl hn)
theorem k_unbend (X : OkL G l D cI cZ (some q) b L xs) (hL : L ≤ 3072) (hce : ce ≤ room_1.cells) (hsl : sl ≤ room_1.slots) (hi : i + 6 ≤ L) (S : St cI cZ hh ws) (nx : ∀ ws', St cI cZ hh ws' → G ce sl ws' (lvL b (hh 0) (hh 68) i) 1306 []) : G ce sl ws (lvL b (hh 0) (hh 68) i) 381 [] := by
  obtain ⟨r, ws1, ws2, S2, hx, hm⟩ := b_unbend X.ok hce hsl S (xs (i + 1))
  refine g_aload_n X.ok dL_law_381 rfl 1 rfl ?_
  refine g_aload_n X.ok dL_law_382 rfl 0 rfl ?_
  refine g_iload_n X.ok dL_law_383 rfl 3 rfl ?_
  refine g_iconst (v := 1) X.ok dL_law_384 (by decide) ?_
  refine g_iadd X.ok dL_law_385 ?_
  refine g_arr X hL (k := 1) rfl (by omega) dL_law_386 ?_
  refine hx _ ?_
  refine g_aload_n X.ok dL_law_390 rfl 2 rfl ?_
  refine g_aload_n X.ok dL_law_391 rfl 0 rfl ?_
  refine g_iload_n X.ok dL_law_392 rfl 3 rfl ?_
  refine g_iconst (v := 1) X.ok dL_law_393 (by decide) ?_
  refine g_iadd X.ok dL_law_394 ?_
  refine g_arr X hL (k := 1) rfl (by omega) dL_law_395 ?_
  refine hm _ ?_
  exact g_icmp_eq (tgt := 1306) X.ok dL_law_399 (by decide) (fun _ => nx ws2 S2) (fun hn => absurd rfl hn)
theorem k_day (X : OkL G l D cI cZ (some q) b L xs) (hL : L ≤ 3072) (hce : ce ≤ room_1.cells) (hsl : sl ≤ room_1.slots) (hi : i + 6 ≤ L) (S : St cI cZ hh ws) (nx : ∀ ws', St cI cZ hh ws' → G ce sl ws' (lvL b (hh 0) (hh 68) i) 1306 []) : G ce sl ws (lvL b (hh 0) (hh 68) i) 404 [] := by
  obtain ⟨r, ws1, ws2, S2, hx, hm⟩ := b_day X.ok hce hsl S (xs (i + 1))
  refine g_aload_n X.ok dL_law_404 rfl 1 rfl ?_
  refine g_aload_n X.ok dL_law_405 rfl 0 rfl ?_
  refine g_iload_n X.ok dL_law_406 rfl 3 rfl ?_
  refine g_iconst (v := 1) X.ok dL_law_407 (by decide) ?_
  refine g_iadd X.ok dL_law_408 ?_
  refine g_arr X hL (k := 1) rfl (by omega) dL_law_409 ?_
  refine hx _ ?_
  refine g_aload_n X.ok dL_law_413 rfl 2 rfl ?_
  refine g_aload_n X.ok dL_law_414 rfl 0 rfl ?_
  refine g_iload_n X.ok dL_law_415 rfl 3 rfl ?_
  refine g_iconst (v := 1) X.ok dL_law_416 (by decide) ?_
  refine g_iadd X.ok dL_law_417 ?_
  refine g_arr X hL (k := 1) rfl (by omega) dL_law_418 ?_
  refine hm _ ?_
  exact g_icmp_eq (tgt := 1306) X.ok dL_law_422 (by decide) (fun _ => nx ws2 S2) (fun hn => absurd rfl hn)
theorem k_undo (X : OkL G l D cI cZ (some q) b L xs) (hL : L ≤ 3072) (hce : ce ≤ room_1.cells) (hsl : sl ≤ room_1.slots) (hi : i + 6 ≤ L) (S : St cI cZ hh ws) (nx : ∀ ws', St cI cZ hh ws' → G ce sl ws' (lvL b (hh 0) (hh 68) i) 1306 []) : G ce sl ws (lvL b (hh 0) (hh 68) i) 427 [] := by
  obtain ⟨r, ws1, ws2, S2, hx, hm⟩ := b_undo X.ok hce hsl S 
  refine g_aload_n X.ok dL_law_427 rfl 1 rfl ?_
  refine hx _ ?_
  refine g_aload_n X.ok dL_law_431 rfl 2 rfl ?_
  refine hm _ ?_
  exact g_icmp_eq (tgt := 1306) X.ok dL_law_435 (by decide) (fun _ => nx ws2 S2) (fun hn => absurd rfl hn)
theorem k_of (X : OkL G l D cI cZ (some q) b L xs) (hL : L ≤ 3072) (hce : ce ≤ room_1.cells) (hsl : sl ≤ room_1.slots) (hi : i + 6 ≤ L) (S : St cI cZ hh ws) (nx : ∀ ws', St cI cZ hh ws' → G ce sl ws' (lvL b (hh 0) (hh 68) i) 1306 []) : G ce sl ws (lvL b (hh 0) (hh 68) i) 440 [] := by
  obtain ⟨r, ws1, ws2, S2, hx, hm⟩ := b_of X.ok hce hsl S (xs (i + 1)) (xs (i + 2))
  refine g_aload_n X.ok dL_law_440 rfl 1 rfl ?_
  refine g_aload_n X.ok dL_law_441 rfl 0 rfl ?_
  refine g_iload_n X.ok dL_law_442 rfl 3 rfl ?_
  refine g_iconst (v := 1) X.ok dL_law_443 (by decide) ?_
  refine g_iadd X.ok dL_law_444 ?_
  refine g_arr X hL (k := 1) rfl (by omega) dL_law_445 ?_
  refine g_aload_n X.ok dL_law_446 rfl 0 rfl ?_
  refine g_iload_n X.ok dL_law_447 rfl 3 rfl ?_
  refine g_iconst (v := 2) X.ok dL_law_448 (by decide) ?_
  refine g_iadd X.ok dL_law_449 ?_
  refine g_arr X hL (k := 2) rfl (by omega) dL_law_450 ?_
  refine hx _ ?_
  refine g_aload_n X.ok dL_law_454 rfl 2 rfl ?_
  refine g_aload_n X.ok dL_law_455 rfl 0 rfl ?_
  refine g_iload_n X.ok dL_law_456 rfl 3 rfl ?_
  refine g_iconst (v := 1) X.ok dL_law_457 (by decide) ?_
  refine g_iadd X.ok dL_law_458 ?_
  refine g_arr X hL (k := 1) rfl (by omega) dL_law_459 ?_
  refine g_aload_n X.ok dL_law_460 rfl 0 rfl ?_
  refine g_iload_n X.ok dL_law_461 rfl 3 rfl ?_
  refine g_iconst (v := 2) X.ok dL_law_462 (by decide) ?_
  refine g_iadd X.ok dL_law_463 ?_
  refine g_arr X hL (k := 2) rfl (by omega) dL_law_464 ?_
  refine hm _ ?_
  exact g_icmp_eq (tgt := 1306) X.ok dL_law_468 (by decide) (fun _ => nx ws2 S2) (fun hn => absurd rfl hn)
theorem k_felt (X : OkL G l D cI cZ (some q) b L xs) (hL : L ≤ 3072) (hce : ce ≤ room_1.cells) (hsl : sl ≤ room_1.slots) (hi : i + 6 ≤ L) (S : St cI cZ hh ws) (nx : ∀ ws', St cI cZ hh ws' → G ce sl ws' (lvL b (hh 0) (hh 68) i) 1306 []) : G ce sl ws (lvL b (hh 0) (hh 68) i) 473 [] := by
  obtain ⟨r, ws1, ws2, S2, hx, hm⟩ := b_felt X.ok hce hsl S (xs (i + 1)) (xs (i + 2)) (xs (i + 3))
  refine g_aload_n X.ok dL_law_473 rfl 1 rfl ?_
  refine g_aload_n X.ok dL_law_474 rfl 0 rfl ?_
  refine g_iload_n X.ok dL_law_475 rfl 3 rfl ?_
  refine g_iconst (v := 1) X.ok dL_law_476 (by decide) ?_
  refine g_iadd X.ok dL_law_477 ?_
  refine g_arr X hL (k := 1) rfl (by omega) dL_law_478 ?_
  refine g_aload_n X.ok dL_law_479 rfl 0 rfl ?_
  refine g_iload_n X.ok dL_law_480 rfl 3 rfl ?_
  refine g_iconst (v := 2) X.ok dL_law_481 (by decide) ?_
  refine g_iadd X.ok dL_law_482 ?_
  refine g_arr X hL (k := 2) rfl (by omega) dL_law_483 ?_
  refine g_aload_n X.ok dL_law_484 rfl 0 rfl ?_
  refine g_iload_n X.ok dL_law_485 rfl 3 rfl ?_
  refine g_iconst (v := 3) X.ok dL_law_486 (by decide) ?_
  refine g_iadd X.ok dL_law_487 ?_
  refine g_arr X hL (k := 3) rfl (by omega) dL_law_488 ?_
  refine hx _ ?_
  refine g_aload_n X.ok dL_law_492 rfl 2 rfl ?_
  refine g_aload_n X.ok dL_law_493 rfl 0 rfl ?_
  refine g_iload_n X.ok dL_law_494 rfl 3 rfl ?_
  refine g_iconst (v := 1) X.ok dL_law_495 (by decide) ?_
  refine g_iadd X.ok dL_law_496 ?_
  refine g_arr X hL (k := 1) rfl (by omega) dL_law_497 ?_
  refine g_aload_n X.ok dL_law_498 rfl 0 rfl ?_
  refine g_iload_n X.ok dL_law_499 rfl 3 rfl ?_
  refine g_iconst (v := 2) X.ok dL_law_500 (by decide) ?_
  refine g_iadd X.ok dL_law_501 ?_
  refine g_arr X hL (k := 2) rfl (by omega) dL_law_502 ?_
  refine g_aload_n X.ok dL_law_503 rfl 0 rfl ?_
  refine g_iload_n X.ok dL_law_504 rfl 3 rfl ?_
  refine g_iconst (v := 3) X.ok dL_law_505 (by decide) ?_
  refine g_iadd X.ok dL_law_506 ?_
  refine g_arr X hL (k := 3) rfl (by omega) dL_law_507 ?_
  refine hm _ ?_
  exact g_icmp_eq (tgt := 1306) X.ok dL_law_511 (by decide) (fun _ => nx ws2 S2) (fun hn => absurd rfl hn)
theorem k_least (X : OkL G l D cI cZ (some q) b L xs) (hL : L ≤ 3072) (hce : ce ≤ room_1.cells) (hsl : sl ≤ room_1.slots) (hi : i + 6 ≤ L) (S : St cI cZ hh ws) (nx : ∀ ws', St cI cZ hh ws' → G ce sl ws' (lvL b (hh 0) (hh 68) i) 1306 []) : G ce sl ws (lvL b (hh 0) (hh 68) i) 516 [] := by
  obtain ⟨r, ws1, ws2, S2, hx, hm⟩ := b_least X.ok hce hsl S (xs (i + 1)) (xs (i + 2))
  refine g_aload_n X.ok dL_law_516 rfl 1 rfl ?_
  refine g_aload_n X.ok dL_law_517 rfl 0 rfl ?_
  refine g_iload_n X.ok dL_law_518 rfl 3 rfl ?_
  refine g_iconst (v := 1) X.ok dL_law_519 (by decide) ?_
  refine g_iadd X.ok dL_law_520 ?_
  refine g_arr X hL (k := 1) rfl (by omega) dL_law_521 ?_
  refine g_aload_n X.ok dL_law_522 rfl 0 rfl ?_
  refine g_iload_n X.ok dL_law_523 rfl 3 rfl ?_
  refine g_iconst (v := 2) X.ok dL_law_524 (by decide) ?_
  refine g_iadd X.ok dL_law_525 ?_
  refine g_arr X hL (k := 2) rfl (by omega) dL_law_526 ?_
  refine hx _ ?_
  refine g_aload_n X.ok dL_law_530 rfl 2 rfl ?_
  refine g_aload_n X.ok dL_law_531 rfl 0 rfl ?_
  refine g_iload_n X.ok dL_law_532 rfl 3 rfl ?_
  refine g_iconst (v := 1) X.ok dL_law_533 (by decide) ?_
  refine g_iadd X.ok dL_law_534 ?_
  refine g_arr X hL (k := 1) rfl (by omega) dL_law_535 ?_
  refine g_aload_n X.ok dL_law_536 rfl 0 rfl ?_
  refine g_iload_n X.ok dL_law_537 rfl 3 rfl ?_
  refine g_iconst (v := 2) X.ok dL_law_538 (by decide) ?_
  refine g_iadd X.ok dL_law_539 ?_
  refine g_arr X hL (k := 2) rfl (by omega) dL_law_540 ?_
  refine hm _ ?_
  exact g_icmp_eq (tgt := 1306) X.ok dL_law_544 (by decide) (fun _ => nx ws2 S2) (fun hn => absurd rfl hn)
theorem k_quiet (X : OkL G l D cI cZ (some q) b L xs) (hL : L ≤ 3072) (hce : ce ≤ room_1.cells) (hsl : sl ≤ room_1.slots) (hi : i + 6 ≤ L) (S : St cI cZ hh ws) (nx : ∀ ws', St cI cZ hh ws' → G ce sl ws' (lvL b (hh 0) (hh 68) i) 1306 []) : G ce sl ws (lvL b (hh 0) (hh 68) i) 549 [] := by
  obtain ⟨r, ws1, ws2, S2, hx, hm⟩ := b_quiet X.ok hce hsl S (xs (i + 1)) (xs (i + 2))
  refine g_aload_n X.ok dL_law_549 rfl 1 rfl ?_
  refine g_aload_n X.ok dL_law_550 rfl 0 rfl ?_
  refine g_iload_n X.ok dL_law_551 rfl 3 rfl ?_
  refine g_iconst (v := 1) X.ok dL_law_552 (by decide) ?_
  refine g_iadd X.ok dL_law_553 ?_
  refine g_arr X hL (k := 1) rfl (by omega) dL_law_554 ?_
  refine g_aload_n X.ok dL_law_555 rfl 0 rfl ?_
  refine g_iload_n X.ok dL_law_556 rfl 3 rfl ?_
  refine g_iconst (v := 2) X.ok dL_law_557 (by decide) ?_
  refine g_iadd X.ok dL_law_558 ?_
  refine g_arr X hL (k := 2) rfl (by omega) dL_law_559 ?_
  refine hx _ ?_
  refine g_aload_n X.ok dL_law_563 rfl 2 rfl ?_
  refine g_aload_n X.ok dL_law_564 rfl 0 rfl ?_
  refine g_iload_n X.ok dL_law_565 rfl 3 rfl ?_
  refine g_iconst (v := 1) X.ok dL_law_566 (by decide) ?_
  refine g_iadd X.ok dL_law_567 ?_
  refine g_arr X hL (k := 1) rfl (by omega) dL_law_568 ?_
  refine g_aload_n X.ok dL_law_569 rfl 0 rfl ?_
  refine g_iload_n X.ok dL_law_570 rfl 3 rfl ?_
  refine g_iconst (v := 2) X.ok dL_law_571 (by decide) ?_
  refine g_iadd X.ok dL_law_572 ?_
  refine g_arr X hL (k := 2) rfl (by omega) dL_law_573 ?_
  refine hm _ ?_
  exact g_icmp_eq (tgt := 1306) X.ok dL_law_577 (by decide) (fun _ => nx ws2 S2) (fun hn => absurd rfl hn)
theorem k_string (X : OkL G l D cI cZ (some q) b L xs) (hL : L ≤ 3072) (hce : ce ≤ room_1.cells) (hsl : sl ≤ room_1.slots) (hi : i + 6 ≤ L) (S : St cI cZ hh ws) (nx : ∀ ws', St cI cZ hh ws' → G ce sl ws' (lvL b (hh 0) (hh 68) i) 1306 []) : G ce sl ws (lvL b (hh 0) (hh 68) i) 582 [] := by
  obtain ⟨r, ws1, ws2, S2, hx, hm⟩ := b_string X.ok hce hsl S (xs (i + 1)) (xs (i + 2))
  refine g_aload_n X.ok dL_law_582 rfl 1 rfl ?_
  refine g_aload_n X.ok dL_law_583 rfl 0 rfl ?_
  refine g_iload_n X.ok dL_law_584 rfl 3 rfl ?_
  refine g_iconst (v := 1) X.ok dL_law_585 (by decide) ?_
  refine g_iadd X.ok dL_law_586 ?_
  refine g_arr X hL (k := 1) rfl (by omega) dL_law_587 ?_
  refine g_aload_n X.ok dL_law_588 rfl 0 rfl ?_
  refine g_iload_n X.ok dL_law_589 rfl 3 rfl ?_
  refine g_iconst (v := 2) X.ok dL_law_590 (by decide) ?_
  refine g_iadd X.ok dL_law_591 ?_
  refine g_arr X hL (k := 2) rfl (by omega) dL_law_592 ?_
  refine hx _ ?_
  refine g_aload_n X.ok dL_law_596 rfl 2 rfl ?_
  refine g_aload_n X.ok dL_law_597 rfl 0 rfl ?_
  refine g_iload_n X.ok dL_law_598 rfl 3 rfl ?_
  refine g_iconst (v := 1) X.ok dL_law_599 (by decide) ?_
  refine g_iadd X.ok dL_law_600 ?_
  refine g_arr X hL (k := 1) rfl (by omega) dL_law_601 ?_
  refine g_aload_n X.ok dL_law_602 rfl 0 rfl ?_
  refine g_iload_n X.ok dL_law_603 rfl 3 rfl ?_
  refine g_iconst (v := 2) X.ok dL_law_604 (by decide) ?_
  refine g_iadd X.ok dL_law_605 ?_
  refine g_arr X hL (k := 2) rfl (by omega) dL_law_606 ?_
  refine hm _ ?_
  exact g_icmp_eq (tgt := 1306) X.ok dL_law_610 (by decide) (fun _ => nx ws2 S2) (fun hn => absurd rfl hn)
theorem k_strings (X : OkL G l D cI cZ (some q) b L xs) (hL : L ≤ 3072) (hce : ce ≤ room_1.cells) (hsl : sl ≤ room_1.slots) (hi : i + 6 ≤ L) (S : St cI cZ hh ws) (nx : ∀ ws', St cI cZ hh ws' → G ce sl ws' (lvL b (hh 0) (hh 68) i) 1306 []) : G ce sl ws (lvL b (hh 0) (hh 68) i) 615 [] := by
  obtain ⟨r, ws1, ws2, S2, hx, hm⟩ := b_strings X.ok hce hsl S (xs (i + 1))
  refine g_aload_n X.ok dL_law_615 rfl 1 rfl ?_
  refine g_aload_n X.ok dL_law_616 rfl 0 rfl ?_
  refine g_iload_n X.ok dL_law_617 rfl 3 rfl ?_
  refine g_iconst (v := 1) X.ok dL_law_618 (by decide) ?_
  refine g_iadd X.ok dL_law_619 ?_
  refine g_arr X hL (k := 1) rfl (by omega) dL_law_620 ?_
  refine hx _ ?_
  refine g_aload_n X.ok dL_law_624 rfl 2 rfl ?_
  refine g_aload_n X.ok dL_law_625 rfl 0 rfl ?_
  refine g_iload_n X.ok dL_law_626 rfl 3 rfl ?_
  refine g_iconst (v := 1) X.ok dL_law_627 (by decide) ?_
  refine g_iadd X.ok dL_law_628 ?_
  refine g_arr X hL (k := 1) rfl (by omega) dL_law_629 ?_
  refine hm _ ?_
  exact g_icmp_eq (tgt := 1306) X.ok dL_law_633 (by decide) (fun _ => nx ws2 S2) (fun hn => absurd rfl hn)
theorem k_then (X : OkL G l D cI cZ (some q) b L xs) (hL : L ≤ 3072) (hce : ce ≤ room_1.cells) (hsl : sl ≤ room_1.slots) (hi : i + 6 ≤ L) (S : St cI cZ hh ws) (nx : ∀ ws', St cI cZ hh ws' → G ce sl ws' (lvL b (hh 0) (hh 68) i) 1306 []) : G ce sl ws (lvL b (hh 0) (hh 68) i) 638 [] := by
  obtain ⟨r, ws1, ws2, S2, hx, hm⟩ := b_then X.ok hce hsl S (xs (i + 1)) (xs (i + 2))
  refine g_aload_n X.ok dL_law_638 rfl 1 rfl ?_
  refine g_aload_n X.ok dL_law_639 rfl 0 rfl ?_
  refine g_iload_n X.ok dL_law_640 rfl 3 rfl ?_
  refine g_iconst (v := 1) X.ok dL_law_641 (by decide) ?_
  refine g_iadd X.ok dL_law_642 ?_
  refine g_arr X hL (k := 1) rfl (by omega) dL_law_643 ?_
  refine g_aload_n X.ok dL_law_644 rfl 0 rfl ?_
  refine g_iload_n X.ok dL_law_645 rfl 3 rfl ?_
  refine g_iconst (v := 2) X.ok dL_law_646 (by decide) ?_
  refine g_iadd X.ok dL_law_647 ?_
  refine g_arr X hL (k := 2) rfl (by omega) dL_law_648 ?_
  refine hx _ ?_
  refine g_aload_n X.ok dL_law_652 rfl 2 rfl ?_
  refine g_aload_n X.ok dL_law_653 rfl 0 rfl ?_
  refine g_iload_n X.ok dL_law_654 rfl 3 rfl ?_
  refine g_iconst (v := 1) X.ok dL_law_655 (by decide) ?_
  refine g_iadd X.ok dL_law_656 ?_
  refine g_arr X hL (k := 1) rfl (by omega) dL_law_657 ?_
  refine g_aload_n X.ok dL_law_658 rfl 0 rfl ?_
  refine g_iload_n X.ok dL_law_659 rfl 3 rfl ?_
  refine g_iconst (v := 2) X.ok dL_law_660 (by decide) ?_
  refine g_iadd X.ok dL_law_661 ?_
  refine g_arr X hL (k := 2) rfl (by omega) dL_law_662 ?_
  refine hm _ ?_
  exact g_icmp_eq (tgt := 1306) X.ok dL_law_666 (by decide) (fun _ => nx ws2 S2) (fun hn => absurd rfl hn)
theorem k_lunch (X : OkL G l D cI cZ (some q) b L xs) (hL : L ≤ 3072) (hce : ce ≤ room_1.cells) (hsl : sl ≤ room_1.slots) (hi : i + 6 ≤ L) (S : St cI cZ hh ws) (nx : ∀ ws', St cI cZ hh ws' → G ce sl ws' (lvL b (hh 0) (hh 68) i) 1306 []) : G ce sl ws (lvL b (hh 0) (hh 68) i) 671 [] := by
  obtain ⟨r, ws1, ws2, S2, hx, hm⟩ := b_lunch X.ok hce hsl S (xs (i + 1))
  refine g_aload_n X.ok dL_law_671 rfl 1 rfl ?_
  refine g_aload_n X.ok dL_law_672 rfl 0 rfl ?_
  refine g_iload_n X.ok dL_law_673 rfl 3 rfl ?_
  refine g_iconst (v := 1) X.ok dL_law_674 (by decide) ?_
  refine g_iadd X.ok dL_law_675 ?_
  refine g_arr X hL (k := 1) rfl (by omega) dL_law_676 ?_
  refine hx _ ?_
  refine g_aload_n X.ok dL_law_680 rfl 2 rfl ?_
  refine g_aload_n X.ok dL_law_681 rfl 0 rfl ?_
  refine g_iload_n X.ok dL_law_682 rfl 3 rfl ?_
  refine g_iconst (v := 1) X.ok dL_law_683 (by decide) ?_
  refine g_iadd X.ok dL_law_684 ?_
  refine g_arr X hL (k := 1) rfl (by omega) dL_law_685 ?_
  refine hm _ ?_
  exact g_icmp_eq (tgt := 1306) X.ok dL_law_689 (by decide) (fun _ => nx ws2 S2) (fun hn => absurd rfl hn)
theorem k_free (X : OkL G l D cI cZ (some q) b L xs) (hL : L ≤ 3072) (hce : ce ≤ room_1.cells) (hsl : sl ≤ room_1.slots) (hi : i + 6 ≤ L) (S : St cI cZ hh ws) (nx : ∀ ws', St cI cZ hh ws' → G ce sl ws' (lvL b (hh 0) (hh 68) i) 1306 []) : G ce sl ws (lvL b (hh 0) (hh 68) i) 694 [] := by
  obtain ⟨r, ws1, ws2, S2, hx, hm⟩ := b_free X.ok hce hsl S (xs (i + 1))
  refine g_aload_n X.ok dL_law_694 rfl 1 rfl ?_
  refine g_aload_n X.ok dL_law_695 rfl 0 rfl ?_
  refine g_iload_n X.ok dL_law_696 rfl 3 rfl ?_
  refine g_iconst (v := 1) X.ok dL_law_697 (by decide) ?_
  refine g_iadd X.ok dL_law_698 ?_
  refine g_arr X hL (k := 1) rfl (by omega) dL_law_699 ?_
  refine hx _ ?_
  refine g_aload_n X.ok dL_law_703 rfl 2 rfl ?_
  refine g_aload_n X.ok dL_law_704 rfl 0 rfl ?_
  refine g_iload_n X.ok dL_law_705 rfl 3 rfl ?_
  refine g_iconst (v := 1) X.ok dL_law_706 (by decide) ?_
  refine g_iadd X.ok dL_law_707 ?_
  refine g_arr X hL (k := 1) rfl (by omega) dL_law_708 ?_
  refine hm _ ?_
  exact g_icmp_eq (tgt := 1306) X.ok dL_law_712 (by decide) (fun _ => nx ws2 S2) (fun hn => absurd rfl hn)
theorem k_caught (X : OkL G l D cI cZ (some q) b L xs) (hL : L ≤ 3072) (hce : ce ≤ room_1.cells) (hsl : sl ≤ room_1.slots) (hi : i + 6 ≤ L) (S : St cI cZ hh ws) (nx : ∀ ws', St cI cZ hh ws' → G ce sl ws' (lvL b (hh 0) (hh 68) i) 1306 []) : G ce sl ws (lvL b (hh 0) (hh 68) i) 717 [] := by
  obtain ⟨r, ws1, ws2, S2, hx, hm⟩ := b_caught X.ok hce hsl S (xs (i + 1))
  refine g_aload_n X.ok dL_law_717 rfl 1 rfl ?_
  refine g_aload_n X.ok dL_law_718 rfl 0 rfl ?_
  refine g_iload_n X.ok dL_law_719 rfl 3 rfl ?_
  refine g_iconst (v := 1) X.ok dL_law_720 (by decide) ?_
  refine g_iadd X.ok dL_law_721 ?_
  refine g_arr X hL (k := 1) rfl (by omega) dL_law_722 ?_
  refine hx _ ?_
  refine g_aload_n X.ok dL_law_726 rfl 2 rfl ?_
  refine g_aload_n X.ok dL_law_727 rfl 0 rfl ?_
  refine g_iload_n X.ok dL_law_728 rfl 3 rfl ?_
  refine g_iconst (v := 1) X.ok dL_law_729 (by decide) ?_
  refine g_iadd X.ok dL_law_730 ?_
  refine g_arr X hL (k := 1) rfl (by omega) dL_law_731 ?_
  refine hm _ ?_
  exact g_icmp_eq (tgt := 1306) X.ok dL_law_735 (by decide) (fun _ => nx ws2 S2) (fun hn => absurd rfl hn)
theorem k_told (X : OkL G l D cI cZ (some q) b L xs) (hL : L ≤ 3072) (hce : ce ≤ room_1.cells) (hsl : sl ≤ room_1.slots) (hi : i + 6 ≤ L) (S : St cI cZ hh ws) (nx : ∀ ws', St cI cZ hh ws' → G ce sl ws' (lvL b (hh 0) (hh 68) i) 1306 []) : G ce sl ws (lvL b (hh 0) (hh 68) i) 740 [] := by
  obtain ⟨r, ws1, ws2, S2, hx, hm⟩ := b_told X.ok hce hsl S (xs (i + 1)) (xs (i + 2)) (xs (i + 3)) (xs (i + 4))
  refine g_aload_n X.ok dL_law_740 rfl 1 rfl ?_
  refine g_aload_n X.ok dL_law_741 rfl 0 rfl ?_
  refine g_iload_n X.ok dL_law_742 rfl 3 rfl ?_
  refine g_iconst (v := 1) X.ok dL_law_743 (by decide) ?_
  refine g_iadd X.ok dL_law_744 ?_
  refine g_arr X hL (k := 1) rfl (by omega) dL_law_745 ?_
  refine g_aload_n X.ok dL_law_746 rfl 0 rfl ?_
  refine g_iload_n X.ok dL_law_747 rfl 3 rfl ?_
  refine g_iconst (v := 2) X.ok dL_law_748 (by decide) ?_
  refine g_iadd X.ok dL_law_749 ?_
  refine g_arr X hL (k := 2) rfl (by omega) dL_law_750 ?_
  refine g_aload_n X.ok dL_law_751 rfl 0 rfl ?_
  refine g_iload_n X.ok dL_law_752 rfl 3 rfl ?_
  refine g_iconst (v := 3) X.ok dL_law_753 (by decide) ?_
  refine g_iadd X.ok dL_law_754 ?_
  refine g_arr X hL (k := 3) rfl (by omega) dL_law_755 ?_
  refine g_aload_n X.ok dL_law_756 rfl 0 rfl ?_
  refine g_iload_n X.ok dL_law_757 rfl 3 rfl ?_
  refine g_iconst (v := 4) X.ok dL_law_758 (by decide) ?_
  refine g_iadd X.ok dL_law_759 ?_
  refine g_arr X hL (k := 4) rfl (by omega) dL_law_760 ?_
  refine hx _ ?_
  refine g_aload_n X.ok dL_law_764 rfl 2 rfl ?_
  refine g_aload_n X.ok dL_law_765 rfl 0 rfl ?_
  refine g_iload_n X.ok dL_law_766 rfl 3 rfl ?_
  refine g_iconst (v := 1) X.ok dL_law_767 (by decide) ?_
  refine g_iadd X.ok dL_law_768 ?_
  refine g_arr X hL (k := 1) rfl (by omega) dL_law_769 ?_
  refine g_aload_n X.ok dL_law_770 rfl 0 rfl ?_
  refine g_iload_n X.ok dL_law_771 rfl 3 rfl ?_
  refine g_iconst (v := 2) X.ok dL_law_772 (by decide) ?_
  refine g_iadd X.ok dL_law_773 ?_
  refine g_arr X hL (k := 2) rfl (by omega) dL_law_774 ?_
  refine g_aload_n X.ok dL_law_775 rfl 0 rfl ?_
  refine g_iload_n X.ok dL_law_776 rfl 3 rfl ?_
  refine g_iconst (v := 3) X.ok dL_law_777 (by decide) ?_
  refine g_iadd X.ok dL_law_778 ?_
  refine g_arr X hL (k := 3) rfl (by omega) dL_law_779 ?_
  refine g_aload_n X.ok dL_law_780 rfl 0 rfl ?_
  refine g_iload_n X.ok dL_law_781 rfl 3 rfl ?_
  refine g_iconst (v := 4) X.ok dL_law_782 (by decide) ?_
  refine g_iadd X.ok dL_law_783 ?_
  refine g_arr X hL (k := 4) rfl (by omega) dL_law_784 ?_
  refine hm _ ?_
  exact g_icmp_eq (tgt := 1306) X.ok dL_law_788 (by decide) (fun _ => nx ws2 S2) (fun hn => absurd rfl hn)
theorem k_found (X : OkL G l D cI cZ (some q) b L xs) (hL : L ≤ 3072) (hce : ce ≤ room_1.cells) (hsl : sl ≤ room_1.slots) (hi : i + 6 ≤ L) (S : St cI cZ hh ws) (nx : ∀ ws', St cI cZ hh ws' → G ce sl ws' (lvL b (hh 0) (hh 68) i) 1306 []) : G ce sl ws (lvL b (hh 0) (hh 68) i) 793 [] := by
  obtain ⟨r, ws1, ws2, S2, hx, hm⟩ := b_found X.ok hce hsl S (xs (i + 1))
  refine g_aload_n X.ok dL_law_793 rfl 1 rfl ?_
  refine g_aload_n X.ok dL_law_794 rfl 0 rfl ?_
  refine g_iload_n X.ok dL_law_795 rfl 3 rfl ?_
  refine g_iconst (v := 1) X.ok dL_law_796 (by decide) ?_
  refine g_iadd X.ok dL_law_797 ?_
  refine g_arr X hL (k := 1) rfl (by omega) dL_law_798 ?_
  refine hx _ ?_
  refine g_aload_n X.ok dL_law_802 rfl 2 rfl ?_
  refine g_aload_n X.ok dL_law_803 rfl 0 rfl ?_
  refine g_iload_n X.ok dL_law_804 rfl 3 rfl ?_
  refine g_iconst (v := 1) X.ok dL_law_805 (by decide) ?_
  refine g_iadd X.ok dL_law_806 ?_
  refine g_arr X hL (k := 1) rfl (by omega) dL_law_807 ?_
  refine hm _ ?_
  exact g_icmp_eq (tgt := 1306) X.ok dL_law_811 (by decide) (fun _ => nx ws2 S2) (fun hn => absurd rfl hn)
theorem k_note (X : OkL G l D cI cZ (some q) b L xs) (hL : L ≤ 3072) (hce : ce ≤ room_1.cells) (hsl : sl ≤ room_1.slots) (hi : i + 6 ≤ L) (S : St cI cZ hh ws) (nx : ∀ ws', St cI cZ hh ws' → G ce sl ws' (lvL b (hh 0) (hh 68) i) 1306 []) : G ce sl ws (lvL b (hh 0) (hh 68) i) 816 [] := by
  obtain ⟨r, ws1, ws2, S2, hx, hm⟩ := b_note X.ok hce hsl S (xs (i + 1)) (xs (i + 2)) (xs (i + 3)) (xs (i + 4))
  refine g_aload_n X.ok dL_law_816 rfl 1 rfl ?_
  refine g_aload_n X.ok dL_law_817 rfl 0 rfl ?_
  refine g_iload_n X.ok dL_law_818 rfl 3 rfl ?_
  refine g_iconst (v := 1) X.ok dL_law_819 (by decide) ?_
  refine g_iadd X.ok dL_law_820 ?_
  refine g_arr X hL (k := 1) rfl (by omega) dL_law_821 ?_
  refine g_aload_n X.ok dL_law_822 rfl 0 rfl ?_
  refine g_iload_n X.ok dL_law_823 rfl 3 rfl ?_
  refine g_iconst (v := 2) X.ok dL_law_824 (by decide) ?_
  refine g_iadd X.ok dL_law_825 ?_
  refine g_arr X hL (k := 2) rfl (by omega) dL_law_826 ?_
  refine g_aload_n X.ok dL_law_827 rfl 0 rfl ?_
  refine g_iload_n X.ok dL_law_828 rfl 3 rfl ?_
  refine g_iconst (v := 3) X.ok dL_law_829 (by decide) ?_
  refine g_iadd X.ok dL_law_830 ?_
  refine g_arr X hL (k := 3) rfl (by omega) dL_law_831 ?_
  refine g_aload_n X.ok dL_law_832 rfl 0 rfl ?_
  refine g_iload_n X.ok dL_law_833 rfl 3 rfl ?_
  refine g_iconst (v := 4) X.ok dL_law_834 (by decide) ?_
  refine g_iadd X.ok dL_law_835 ?_
  refine g_arr X hL (k := 4) rfl (by omega) dL_law_836 ?_
  refine hx _ ?_
  refine g_aload_n X.ok dL_law_840 rfl 2 rfl ?_
  refine g_aload_n X.ok dL_law_841 rfl 0 rfl ?_
  refine g_iload_n X.ok dL_law_842 rfl 3 rfl ?_
  refine g_iconst (v := 1) X.ok dL_law_843 (by decide) ?_
  refine g_iadd X.ok dL_law_844 ?_
  refine g_arr X hL (k := 1) rfl (by omega) dL_law_845 ?_
  refine g_aload_n X.ok dL_law_846 rfl 0 rfl ?_
  refine g_iload_n X.ok dL_law_847 rfl 3 rfl ?_
  refine g_iconst (v := 2) X.ok dL_law_848 (by decide) ?_
  refine g_iadd X.ok dL_law_849 ?_
  refine g_arr X hL (k := 2) rfl (by omega) dL_law_850 ?_
  refine g_aload_n X.ok dL_law_851 rfl 0 rfl ?_
  refine g_iload_n X.ok dL_law_852 rfl 3 rfl ?_
  refine g_iconst (v := 3) X.ok dL_law_853 (by decide) ?_
  refine g_iadd X.ok dL_law_854 ?_
  refine g_arr X hL (k := 3) rfl (by omega) dL_law_855 ?_
  refine g_aload_n X.ok dL_law_856 rfl 0 rfl ?_
  refine g_iload_n X.ok dL_law_857 rfl 3 rfl ?_
  refine g_iconst (v := 4) X.ok dL_law_858 (by decide) ?_
  refine g_iadd X.ok dL_law_859 ?_
  refine g_arr X hL (k := 4) rfl (by omega) dL_law_860 ?_
  refine hm _ ?_
  exact g_icmp_eq (tgt := 1306) X.ok dL_law_864 (by decide) (fun _ => nx ws2 S2) (fun hn => absurd rfl hn)
theorem k_mark (X : OkL G l D cI cZ (some q) b L xs) (hL : L ≤ 3072) (hce : ce ≤ room_1.cells) (hsl : sl ≤ room_1.slots) (hi : i + 6 ≤ L) (S : St cI cZ hh ws) (nx : ∀ ws', St cI cZ hh ws' → G ce sl ws' (lvL b (hh 0) (hh 68) i) 1306 []) : G ce sl ws (lvL b (hh 0) (hh 68) i) 869 [] := by
  obtain ⟨r, ws1, ws2, S2, hx, hm⟩ := b_mark X.ok hce hsl S (xs (i + 1)) (xs (i + 2)) (xs (i + 3)) (xs (i + 4)) (xs (i + 5))
  refine g_aload_n X.ok dL_law_869 rfl 1 rfl ?_
  refine g_aload_n X.ok dL_law_870 rfl 0 rfl ?_
  refine g_iload_n X.ok dL_law_871 rfl 3 rfl ?_
  refine g_iconst (v := 1) X.ok dL_law_872 (by decide) ?_
  refine g_iadd X.ok dL_law_873 ?_
  refine g_arr X hL (k := 1) rfl (by omega) dL_law_874 ?_
  refine g_aload_n X.ok dL_law_875 rfl 0 rfl ?_
  refine g_iload_n X.ok dL_law_876 rfl 3 rfl ?_
  refine g_iconst (v := 2) X.ok dL_law_877 (by decide) ?_
  refine g_iadd X.ok dL_law_878 ?_
  refine g_arr X hL (k := 2) rfl (by omega) dL_law_879 ?_
  refine g_aload_n X.ok dL_law_880 rfl 0 rfl ?_
  refine g_iload_n X.ok dL_law_881 rfl 3 rfl ?_
  refine g_iconst (v := 3) X.ok dL_law_882 (by decide) ?_
  refine g_iadd X.ok dL_law_883 ?_
  refine g_arr X hL (k := 3) rfl (by omega) dL_law_884 ?_
  refine g_aload_n X.ok dL_law_885 rfl 0 rfl ?_
  refine g_iload_n X.ok dL_law_886 rfl 3 rfl ?_
  refine g_iconst (v := 4) X.ok dL_law_887 (by decide) ?_
  refine g_iadd X.ok dL_law_888 ?_
  refine g_arr X hL (k := 4) rfl (by omega) dL_law_889 ?_
  refine g_aload_n X.ok dL_law_890 rfl 0 rfl ?_
  refine g_iload_n X.ok dL_law_891 rfl 3 rfl ?_
  refine g_iconst (v := 5) X.ok dL_law_892 (by decide) ?_
  refine g_iadd X.ok dL_law_893 ?_
  refine g_arr X hL (k := 5) rfl (by omega) dL_law_894 ?_
  refine hx _ ?_
  refine g_aload_n X.ok dL_law_898 rfl 2 rfl ?_
  refine g_aload_n X.ok dL_law_899 rfl 0 rfl ?_
  refine g_iload_n X.ok dL_law_900 rfl 3 rfl ?_
  refine g_iconst (v := 1) X.ok dL_law_901 (by decide) ?_
  refine g_iadd X.ok dL_law_902 ?_
  refine g_arr X hL (k := 1) rfl (by omega) dL_law_903 ?_
  refine g_aload_n X.ok dL_law_904 rfl 0 rfl ?_
  refine g_iload_n X.ok dL_law_905 rfl 3 rfl ?_
  refine g_iconst (v := 2) X.ok dL_law_906 (by decide) ?_
  refine g_iadd X.ok dL_law_907 ?_
  refine g_arr X hL (k := 2) rfl (by omega) dL_law_908 ?_
  refine g_aload_n X.ok dL_law_909 rfl 0 rfl ?_
  refine g_iload_n X.ok dL_law_910 rfl 3 rfl ?_
  refine g_iconst (v := 3) X.ok dL_law_911 (by decide) ?_
  refine g_iadd X.ok dL_law_912 ?_
  refine g_arr X hL (k := 3) rfl (by omega) dL_law_913 ?_
  refine g_aload_n X.ok dL_law_914 rfl 0 rfl ?_
  refine g_iload_n X.ok dL_law_915 rfl 3 rfl ?_
  refine g_iconst (v := 4) X.ok dL_law_916 (by decide) ?_
  refine g_iadd X.ok dL_law_917 ?_
  refine g_arr X hL (k := 4) rfl (by omega) dL_law_918 ?_
  refine g_aload_n X.ok dL_law_919 rfl 0 rfl ?_
  refine g_iload_n X.ok dL_law_920 rfl 3 rfl ?_
  refine g_iconst (v := 5) X.ok dL_law_921 (by decide) ?_
  refine g_iadd X.ok dL_law_922 ?_
  refine g_arr X hL (k := 5) rfl (by omega) dL_law_923 ?_
  refine hm _ ?_
  exact g_icmp_eq (tgt := 1306) X.ok dL_law_927 (by decide) (fun _ => nx ws2 S2) (fun hn => absurd rfl hn)
theorem k_forget (X : OkL G l D cI cZ (some q) b L xs) (hL : L ≤ 3072) (hce : ce ≤ room_1.cells) (hsl : sl ≤ room_1.slots) (hi : i + 6 ≤ L) (S : St cI cZ hh ws) (nx : ∀ ws', St cI cZ hh ws' → G ce sl ws' (lvL b (hh 0) (hh 68) i) 1306 []) : G ce sl ws (lvL b (hh 0) (hh 68) i) 932 [] := by
  obtain ⟨r, ws1, ws2, S2, hx, hm⟩ := b_forget X.ok hce hsl S (xs (i + 1))
  refine g_aload_n X.ok dL_law_932 rfl 1 rfl ?_
  refine g_aload_n X.ok dL_law_933 rfl 0 rfl ?_
  refine g_iload_n X.ok dL_law_934 rfl 3 rfl ?_
  refine g_iconst (v := 1) X.ok dL_law_935 (by decide) ?_
  refine g_iadd X.ok dL_law_936 ?_
  refine g_arr X hL (k := 1) rfl (by omega) dL_law_937 ?_
  refine hx _ ?_
  refine g_aload_n X.ok dL_law_941 rfl 2 rfl ?_
  refine g_aload_n X.ok dL_law_942 rfl 0 rfl ?_
  refine g_iload_n X.ok dL_law_943 rfl 3 rfl ?_
  refine g_iconst (v := 1) X.ok dL_law_944 (by decide) ?_
  refine g_iadd X.ok dL_law_945 ?_
  refine g_arr X hL (k := 1) rfl (by omega) dL_law_946 ?_
  refine hm _ ?_
  exact g_icmp_eq (tgt := 1306) X.ok dL_law_950 (by decide) (fun _ => nx ws2 S2) (fun hn => absurd rfl hn)
theorem k_is (X : OkL G l D cI cZ (some q) b L xs) (hL : L ≤ 3072) (hce : ce ≤ room_1.cells) (hsl : sl ≤ room_1.slots) (hi : i + 6 ≤ L) (S : St cI cZ hh ws) (nx : ∀ ws', St cI cZ hh ws' → G ce sl ws' (lvL b (hh 0) (hh 68) i) 1306 []) : G ce sl ws (lvL b (hh 0) (hh 68) i) 955 [] := by
  obtain ⟨r, ws1, ws2, S2, hx, hm⟩ := b_is X.ok hce hsl S (xs (i + 1))
  refine g_aload_n X.ok dL_law_955 rfl 1 rfl ?_
  refine g_aload_n X.ok dL_law_956 rfl 0 rfl ?_
  refine g_iload_n X.ok dL_law_957 rfl 3 rfl ?_
  refine g_iconst (v := 1) X.ok dL_law_958 (by decide) ?_
  refine g_iadd X.ok dL_law_959 ?_
  refine g_arr X hL (k := 1) rfl (by omega) dL_law_960 ?_
  refine hx _ ?_
  refine g_aload_n X.ok dL_law_964 rfl 2 rfl ?_
  refine g_aload_n X.ok dL_law_965 rfl 0 rfl ?_
  refine g_iload_n X.ok dL_law_966 rfl 3 rfl ?_
  refine g_iconst (v := 1) X.ok dL_law_967 (by decide) ?_
  refine g_iadd X.ok dL_law_968 ?_
  refine g_arr X hL (k := 1) rfl (by omega) dL_law_969 ?_
  refine hm _ ?_
  exact g_icmp_eq (tgt := 1306) X.ok dL_law_973 (by decide) (fun _ => nx ws2 S2) (fun hn => absurd rfl hn)
theorem k_look (X : OkL G l D cI cZ (some q) b L xs) (hL : L ≤ 3072) (hce : ce ≤ room_1.cells) (hsl : sl ≤ room_1.slots) (hi : i + 6 ≤ L) (S : St cI cZ hh ws) (nx : ∀ ws', St cI cZ hh ws' → G ce sl ws' (lvL b (hh 0) (hh 68) i) 1306 []) : G ce sl ws (lvL b (hh 0) (hh 68) i) 978 [] := by
  obtain ⟨r, ws1, ws2, S2, hx, hm⟩ := b_look X.ok hce hsl S (xs (i + 1))
  refine g_aload_n X.ok dL_law_978 rfl 1 rfl ?_
  refine g_aload_n X.ok dL_law_979 rfl 0 rfl ?_
  refine g_iload_n X.ok dL_law_980 rfl 3 rfl ?_
  refine g_iconst (v := 1) X.ok dL_law_981 (by decide) ?_
  refine g_iadd X.ok dL_law_982 ?_
  refine g_arr X hL (k := 1) rfl (by omega) dL_law_983 ?_
  refine hx _ ?_
  refine g_aload_n X.ok dL_law_987 rfl 2 rfl ?_
  refine g_aload_n X.ok dL_law_988 rfl 0 rfl ?_
  refine g_iload_n X.ok dL_law_989 rfl 3 rfl ?_
  refine g_iconst (v := 1) X.ok dL_law_990 (by decide) ?_
  refine g_iadd X.ok dL_law_991 ?_
  refine g_arr X hL (k := 1) rfl (by omega) dL_law_992 ?_
  refine hm _ ?_
  exact g_icmp_eq (tgt := 1306) X.ok dL_law_996 (by decide) (fun _ => nx ws2 S2) (fun hn => absurd rfl hn)
theorem k_kinds (X : OkL G l D cI cZ (some q) b L xs) (hL : L ≤ 3072) (hce : ce ≤ room_1.cells) (hsl : sl ≤ room_1.slots) (hi : i + 6 ≤ L) (S : St cI cZ hh ws) (nx : ∀ ws', St cI cZ hh ws' → G ce sl ws' (lvL b (hh 0) (hh 68) i) 1306 []) : G ce sl ws (lvL b (hh 0) (hh 68) i) 1001 [] := by
  obtain ⟨r, ws1, ws2, S2, hx, hm⟩ := b_kinds X.ok hce hsl S (xs (i + 1))
  refine g_aload_n X.ok dL_law_1001 rfl 1 rfl ?_
  refine g_aload_n X.ok dL_law_1002 rfl 0 rfl ?_
  refine g_iload_n X.ok dL_law_1003 rfl 3 rfl ?_
  refine g_iconst (v := 1) X.ok dL_law_1004 (by decide) ?_
  refine g_iadd X.ok dL_law_1005 ?_
  refine g_arr X hL (k := 1) rfl (by omega) dL_law_1006 ?_
  refine hx _ ?_
  refine g_aload_n X.ok dL_law_1010 rfl 2 rfl ?_
  refine g_aload_n X.ok dL_law_1011 rfl 0 rfl ?_
  refine g_iload_n X.ok dL_law_1012 rfl 3 rfl ?_
  refine g_iconst (v := 1) X.ok dL_law_1013 (by decide) ?_
  refine g_iadd X.ok dL_law_1014 ?_
  refine g_arr X hL (k := 1) rfl (by omega) dL_law_1015 ?_
  refine hm _ ?_
  exact g_icmp_eq (tgt := 1306) X.ok dL_law_1019 (by decide) (fun _ => nx ws2 S2) (fun hn => absurd rfl hn)
theorem k_ask (X : OkL G l D cI cZ (some q) b L xs) (hL : L ≤ 3072) (hce : ce ≤ room_1.cells) (hsl : sl ≤ room_1.slots) (hi : i + 6 ≤ L) (S : St cI cZ hh ws) (nx : ∀ ws', St cI cZ hh ws' → G ce sl ws' (lvL b (hh 0) (hh 68) i) 1306 []) : G ce sl ws (lvL b (hh 0) (hh 68) i) 1024 [] := by
  obtain ⟨r, ws1, ws2, S2, hx, hm⟩ := b_ask X.ok hce hsl S (xs (i + 1))
  refine g_aload_n X.ok dL_law_1024 rfl 1 rfl ?_
  refine g_aload_n X.ok dL_law_1025 rfl 0 rfl ?_
  refine g_iload_n X.ok dL_law_1026 rfl 3 rfl ?_
  refine g_iconst (v := 1) X.ok dL_law_1027 (by decide) ?_
  refine g_iadd X.ok dL_law_1028 ?_
  refine g_arr X hL (k := 1) rfl (by omega) dL_law_1029 ?_
  refine hx _ ?_
  refine g_aload_n X.ok dL_law_1033 rfl 2 rfl ?_
  refine g_aload_n X.ok dL_law_1034 rfl 0 rfl ?_
  refine g_iload_n X.ok dL_law_1035 rfl 3 rfl ?_
  refine g_iconst (v := 1) X.ok dL_law_1036 (by decide) ?_
  refine g_iadd X.ok dL_law_1037 ?_
  refine g_arr X hL (k := 1) rfl (by omega) dL_law_1038 ?_
  refine hm _ ?_
  exact g_icmp_eq (tgt := 1306) X.ok dL_law_1042 (by decide) (fun _ => nx ws2 S2) (fun hn => absurd rfl hn)
theorem k_lifts (X : OkL G l D cI cZ (some q) b L xs) (hL : L ≤ 3072) (hce : ce ≤ room_1.cells) (hsl : sl ≤ room_1.slots) (hi : i + 6 ≤ L) (S : St cI cZ hh ws) (nx : ∀ ws', St cI cZ hh ws' → G ce sl ws' (lvL b (hh 0) (hh 68) i) 1306 []) : G ce sl ws (lvL b (hh 0) (hh 68) i) 1047 [] := by
  obtain ⟨r, ws1, ws2, S2, hx, hm⟩ := b_lifts X.ok hce hsl S (xs (i + 1)) (xs (i + 2)) (xs (i + 3))
  refine g_aload_n X.ok dL_law_1047 rfl 1 rfl ?_
  refine g_aload_n X.ok dL_law_1048 rfl 0 rfl ?_
  refine g_iload_n X.ok dL_law_1049 rfl 3 rfl ?_
  refine g_iconst (v := 1) X.ok dL_law_1050 (by decide) ?_
  refine g_iadd X.ok dL_law_1051 ?_
  refine g_arr X hL (k := 1) rfl (by omega) dL_law_1052 ?_
  refine g_aload_n X.ok dL_law_1053 rfl 0 rfl ?_
  refine g_iload_n X.ok dL_law_1054 rfl 3 rfl ?_
  refine g_iconst (v := 2) X.ok dL_law_1055 (by decide) ?_
  refine g_iadd X.ok dL_law_1056 ?_
  refine g_arr X hL (k := 2) rfl (by omega) dL_law_1057 ?_
  refine g_aload_n X.ok dL_law_1058 rfl 0 rfl ?_
  refine g_iload_n X.ok dL_law_1059 rfl 3 rfl ?_
  refine g_iconst (v := 3) X.ok dL_law_1060 (by decide) ?_
  refine g_iadd X.ok dL_law_1061 ?_
  refine g_arr X hL (k := 3) rfl (by omega) dL_law_1062 ?_
  refine hx _ ?_
  refine g_aload_n X.ok dL_law_1066 rfl 2 rfl ?_
  refine g_aload_n X.ok dL_law_1067 rfl 0 rfl ?_
  refine g_iload_n X.ok dL_law_1068 rfl 3 rfl ?_
  refine g_iconst (v := 1) X.ok dL_law_1069 (by decide) ?_
  refine g_iadd X.ok dL_law_1070 ?_
  refine g_arr X hL (k := 1) rfl (by omega) dL_law_1071 ?_
  refine g_aload_n X.ok dL_law_1072 rfl 0 rfl ?_
  refine g_iload_n X.ok dL_law_1073 rfl 3 rfl ?_
  refine g_iconst (v := 2) X.ok dL_law_1074 (by decide) ?_
  refine g_iadd X.ok dL_law_1075 ?_
  refine g_arr X hL (k := 2) rfl (by omega) dL_law_1076 ?_
  refine g_aload_n X.ok dL_law_1077 rfl 0 rfl ?_
  refine g_iload_n X.ok dL_law_1078 rfl 3 rfl ?_
  refine g_iconst (v := 3) X.ok dL_law_1079 (by decide) ?_
  refine g_iadd X.ok dL_law_1080 ?_
  refine g_arr X hL (k := 3) rfl (by omega) dL_law_1081 ?_
  refine hm _ ?_
  exact g_icmp_eq (tgt := 1306) X.ok dL_law_1085 (by decide) (fun _ => nx ws2 S2) (fun hn => absurd rfl hn)
theorem k_slips (X : OkL G l D cI cZ (some q) b L xs) (hL : L ≤ 3072) (hce : ce ≤ room_1.cells) (hsl : sl ≤ room_1.slots) (hi : i + 6 ≤ L) (S : St cI cZ hh ws) (nx : ∀ ws', St cI cZ hh ws' → G ce sl ws' (lvL b (hh 0) (hh 68) i) 1306 []) : G ce sl ws (lvL b (hh 0) (hh 68) i) 1090 [] := by
  obtain ⟨r, ws1, ws2, S2, hx, hm⟩ := b_slips X.ok hce hsl S (xs (i + 1)) (xs (i + 2)) (xs (i + 3)) (xs (i + 4))
  refine g_aload_n X.ok dL_law_1090 rfl 1 rfl ?_
  refine g_aload_n X.ok dL_law_1091 rfl 0 rfl ?_
  refine g_iload_n X.ok dL_law_1092 rfl 3 rfl ?_
  refine g_iconst (v := 1) X.ok dL_law_1093 (by decide) ?_
  refine g_iadd X.ok dL_law_1094 ?_
  refine g_arr X hL (k := 1) rfl (by omega) dL_law_1095 ?_
  refine g_aload_n X.ok dL_law_1096 rfl 0 rfl ?_
  refine g_iload_n X.ok dL_law_1097 rfl 3 rfl ?_
  refine g_iconst (v := 2) X.ok dL_law_1098 (by decide) ?_
  refine g_iadd X.ok dL_law_1099 ?_
  refine g_arr X hL (k := 2) rfl (by omega) dL_law_1100 ?_
  refine g_aload_n X.ok dL_law_1101 rfl 0 rfl ?_
  refine g_iload_n X.ok dL_law_1102 rfl 3 rfl ?_
  refine g_iconst (v := 3) X.ok dL_law_1103 (by decide) ?_
  refine g_iadd X.ok dL_law_1104 ?_
  refine g_arr X hL (k := 3) rfl (by omega) dL_law_1105 ?_
  refine g_aload_n X.ok dL_law_1106 rfl 0 rfl ?_
  refine g_iload_n X.ok dL_law_1107 rfl 3 rfl ?_
  refine g_iconst (v := 4) X.ok dL_law_1108 (by decide) ?_
  refine g_iadd X.ok dL_law_1109 ?_
  refine g_arr X hL (k := 4) rfl (by omega) dL_law_1110 ?_
  refine hx _ ?_
  refine g_aload_n X.ok dL_law_1114 rfl 2 rfl ?_
  refine g_aload_n X.ok dL_law_1115 rfl 0 rfl ?_
  refine g_iload_n X.ok dL_law_1116 rfl 3 rfl ?_
  refine g_iconst (v := 1) X.ok dL_law_1117 (by decide) ?_
  refine g_iadd X.ok dL_law_1118 ?_
  refine g_arr X hL (k := 1) rfl (by omega) dL_law_1119 ?_
  refine g_aload_n X.ok dL_law_1120 rfl 0 rfl ?_
  refine g_iload_n X.ok dL_law_1121 rfl 3 rfl ?_
  refine g_iconst (v := 2) X.ok dL_law_1122 (by decide) ?_
  refine g_iadd X.ok dL_law_1123 ?_
  refine g_arr X hL (k := 2) rfl (by omega) dL_law_1124 ?_
  refine g_aload_n X.ok dL_law_1125 rfl 0 rfl ?_
  refine g_iload_n X.ok dL_law_1126 rfl 3 rfl ?_
  refine g_iconst (v := 3) X.ok dL_law_1127 (by decide) ?_
  refine g_iadd X.ok dL_law_1128 ?_
  refine g_arr X hL (k := 3) rfl (by omega) dL_law_1129 ?_
  refine g_aload_n X.ok dL_law_1130 rfl 0 rfl ?_
  refine g_iload_n X.ok dL_law_1131 rfl 3 rfl ?_
  refine g_iconst (v := 4) X.ok dL_law_1132 (by decide) ?_
  refine g_iadd X.ok dL_law_1133 ?_
  refine g_arr X hL (k := 4) rfl (by omega) dL_law_1134 ?_
  refine hm _ ?_
  exact g_icmp_eq (tgt := 1306) X.ok dL_law_1138 (by decide) (fun _ => nx ws2 S2) (fun hn => absurd rfl hn)
theorem k_decades (X : OkL G l D cI cZ (some q) b L xs) (hL : L ≤ 3072) (hce : ce ≤ room_1.cells) (hsl : sl ≤ room_1.slots) (hi : i + 6 ≤ L) (S : St cI cZ hh ws) (nx : ∀ ws', St cI cZ hh ws' → G ce sl ws' (lvL b (hh 0) (hh 68) i) 1306 []) : G ce sl ws (lvL b (hh 0) (hh 68) i) 1143 [] := by
  obtain ⟨r, ws1, ws2, S2, hx, hm⟩ := b_decades X.ok hce hsl S (xs (i + 1)) (xs (i + 2))
  refine g_aload_n X.ok dL_law_1143 rfl 1 rfl ?_
  refine g_aload_n X.ok dL_law_1144 rfl 0 rfl ?_
  refine g_iload_n X.ok dL_law_1145 rfl 3 rfl ?_
  refine g_iconst (v := 1) X.ok dL_law_1146 (by decide) ?_
  refine g_iadd X.ok dL_law_1147 ?_
  refine g_arr X hL (k := 1) rfl (by omega) dL_law_1148 ?_
  refine g_aload_n X.ok dL_law_1149 rfl 0 rfl ?_
  refine g_iload_n X.ok dL_law_1150 rfl 3 rfl ?_
  refine g_iconst (v := 2) X.ok dL_law_1151 (by decide) ?_
  refine g_iadd X.ok dL_law_1152 ?_
  refine g_arr X hL (k := 2) rfl (by omega) dL_law_1153 ?_
  refine hx _ ?_
  refine g_aload_n X.ok dL_law_1157 rfl 2 rfl ?_
  refine g_aload_n X.ok dL_law_1158 rfl 0 rfl ?_
  refine g_iload_n X.ok dL_law_1159 rfl 3 rfl ?_
  refine g_iconst (v := 1) X.ok dL_law_1160 (by decide) ?_
  refine g_iadd X.ok dL_law_1161 ?_
  refine g_arr X hL (k := 1) rfl (by omega) dL_law_1162 ?_
  refine g_aload_n X.ok dL_law_1163 rfl 0 rfl ?_
  refine g_iload_n X.ok dL_law_1164 rfl 3 rfl ?_
  refine g_iconst (v := 2) X.ok dL_law_1165 (by decide) ?_
  refine g_iadd X.ok dL_law_1166 ?_
  refine g_arr X hL (k := 2) rfl (by omega) dL_law_1167 ?_
  refine hm _ ?_
  exact g_icmp_eq (tgt := 1306) X.ok dL_law_1171 (by decide) (fun _ => nx ws2 S2) (fun hn => absurd rfl hn)
theorem k_part (X : OkL G l D cI cZ (some q) b L xs) (hL : L ≤ 3072) (hce : ce ≤ room_1.cells) (hsl : sl ≤ room_1.slots) (hi : i + 6 ≤ L) (S : St cI cZ hh ws) (nx : ∀ ws', St cI cZ hh ws' → G ce sl ws' (lvL b (hh 0) (hh 68) i) 1306 []) : G ce sl ws (lvL b (hh 0) (hh 68) i) 1176 [] := by
  obtain ⟨r, ws1, ws2, S2, hx, hm⟩ := b_part X.ok hce hsl S (xs (i + 1))
  refine g_aload_n X.ok dL_law_1176 rfl 1 rfl ?_
  refine g_aload_n X.ok dL_law_1177 rfl 0 rfl ?_
  refine g_iload_n X.ok dL_law_1178 rfl 3 rfl ?_
  refine g_iconst (v := 1) X.ok dL_law_1179 (by decide) ?_
  refine g_iadd X.ok dL_law_1180 ?_
  refine g_arr X hL (k := 1) rfl (by omega) dL_law_1181 ?_
  refine hx _ ?_
  refine g_aload_n X.ok dL_law_1185 rfl 2 rfl ?_
  refine g_aload_n X.ok dL_law_1186 rfl 0 rfl ?_
  refine g_iload_n X.ok dL_law_1187 rfl 3 rfl ?_
  refine g_iconst (v := 1) X.ok dL_law_1188 (by decide) ?_
  refine g_iadd X.ok dL_law_1189 ?_
  refine g_arr X hL (k := 1) rfl (by omega) dL_law_1190 ?_
  refine hm _ ?_
  refine g_lcmp X.ok dL_law_1194 ?_
  exact g_if_eq (tgt := 1306) X.ok dL_law_1195 (by decide) (fun _ => nx ws2 S2) (fun hn => absurd (lcmp_self r) hn)
theorem k_image (X : OkL G l D cI cZ (some q) b L xs) (hL : L ≤ 3072) (hce : ce ≤ room_1.cells) (hsl : sl ≤ room_1.slots) (hi : i + 6 ≤ L) (S : St cI cZ hh ws) (nx : ∀ ws', St cI cZ hh ws' → G ce sl ws' (lvL b (hh 0) (hh 68) i) 1306 []) : G ce sl ws (lvL b (hh 0) (hh 68) i) 1200 [] := by
  obtain ⟨r, ws1, ws2, S2, hx, hm⟩ := b_image X.ok hce hsl S (xs (i + 1))
  refine g_aload_n X.ok dL_law_1200 rfl 1 rfl ?_
  refine g_aload_n X.ok dL_law_1201 rfl 0 rfl ?_
  refine g_iload_n X.ok dL_law_1202 rfl 3 rfl ?_
  refine g_iconst (v := 1) X.ok dL_law_1203 (by decide) ?_
  refine g_iadd X.ok dL_law_1204 ?_
  refine g_arr X hL (k := 1) rfl (by omega) dL_law_1205 ?_
  refine hx _ ?_
  refine g_aload_n X.ok dL_law_1209 rfl 2 rfl ?_
  refine g_aload_n X.ok dL_law_1210 rfl 0 rfl ?_
  refine g_iload_n X.ok dL_law_1211 rfl 3 rfl ?_
  refine g_iconst (v := 1) X.ok dL_law_1212 (by decide) ?_
  refine g_iadd X.ok dL_law_1213 ?_
  refine g_arr X hL (k := 1) rfl (by omega) dL_law_1214 ?_
  refine hm _ ?_
  exact g_icmp_eq (tgt := 1306) X.ok dL_law_1218 (by decide) (fun _ => nx ws2 S2) (fun hn => absurd rfl hn)
theorem k_from (X : OkL G l D cI cZ (some q) b L xs) (hL : L ≤ 3072) (hce : ce ≤ room_1.cells) (hsl : sl ≤ room_1.slots) (hi : i + 6 ≤ L) (S : St cI cZ hh ws) (nx : ∀ ws', St cI cZ hh ws' → G ce sl ws' (lvL b (hh 0) (hh 68) i) 1306 []) : G ce sl ws (lvL b (hh 0) (hh 68) i) 1223 [] := by
  obtain ⟨r, ws1, ws2, S2, hx, hm⟩ := b_from X.ok hce hsl S (xs (i + 1))
  refine g_aload_n X.ok dL_law_1223 rfl 1 rfl ?_
  refine g_aload_n X.ok dL_law_1224 rfl 0 rfl ?_
  refine g_iload_n X.ok dL_law_1225 rfl 3 rfl ?_
  refine g_iconst (v := 1) X.ok dL_law_1226 (by decide) ?_
  refine g_iadd X.ok dL_law_1227 ?_
  refine g_arr X hL (k := 1) rfl (by omega) dL_law_1228 ?_
  refine hx _ ?_
  refine g_aload_n X.ok dL_law_1232 rfl 2 rfl ?_
  refine g_aload_n X.ok dL_law_1233 rfl 0 rfl ?_
  refine g_iload_n X.ok dL_law_1234 rfl 3 rfl ?_
  refine g_iconst (v := 1) X.ok dL_law_1235 (by decide) ?_
  refine g_iadd X.ok dL_law_1236 ?_
  refine g_arr X hL (k := 1) rfl (by omega) dL_law_1237 ?_
  refine hm _ ?_
  exact g_icmp_eq (tgt := 1306) X.ok dL_law_1241 (by decide) (fun _ => nx ws2 S2) (fun hn => absurd rfl hn)
theorem k_status (X : OkL G l D cI cZ (some q) b L xs) (hL : L ≤ 3072) (hce : ce ≤ room_1.cells) (hsl : sl ≤ room_1.slots) (hi : i + 6 ≤ L) (S : St cI cZ hh ws) (nx : ∀ ws', St cI cZ hh ws' → G ce sl ws' (lvL b (hh 0) (hh 68) i) 1306 []) : G ce sl ws (lvL b (hh 0) (hh 68) i) 1246 [] := by
  obtain ⟨r, ws1, ws2, S2, hx, hm⟩ := b_status X.ok hce hsl S (xs (i + 1))
  refine g_aload_n X.ok dL_law_1246 rfl 1 rfl ?_
  refine g_aload_n X.ok dL_law_1247 rfl 0 rfl ?_
  refine g_iload_n X.ok dL_law_1248 rfl 3 rfl ?_
  refine g_iconst (v := 1) X.ok dL_law_1249 (by decide) ?_
  refine g_iadd X.ok dL_law_1250 ?_
  refine g_arr X hL (k := 1) rfl (by omega) dL_law_1251 ?_
  refine hx _ ?_
  refine g_aload_n X.ok dL_law_1255 rfl 2 rfl ?_
  refine g_aload_n X.ok dL_law_1256 rfl 0 rfl ?_
  refine g_iload_n X.ok dL_law_1257 rfl 3 rfl ?_
  refine g_iconst (v := 1) X.ok dL_law_1258 (by decide) ?_
  refine g_iadd X.ok dL_law_1259 ?_
  refine g_arr X hL (k := 1) rfl (by omega) dL_law_1260 ?_
  refine hm _ ?_
  exact g_icmp_eq (tgt := 1306) X.ok dL_law_1264 (by decide) (fun _ => nx ws2 S2) (fun hn => absurd rfl hn)
theorem k_count (X : OkL G l D cI cZ (some q) b L xs) (hL : L ≤ 3072) (hce : ce ≤ room_1.cells) (hsl : sl ≤ room_1.slots) (hi : i + 6 ≤ L) (S : St cI cZ hh ws) (nx : ∀ ws', St cI cZ hh ws' → G ce sl ws' (lvL b (hh 0) (hh 68) i) 1306 []) : G ce sl ws (lvL b (hh 0) (hh 68) i) 1269 [] := by
  obtain ⟨r, ws1, ws2, S2, hx, hm⟩ := b_count X.ok hce hsl S (xs (i + 1))
  refine g_aload_n X.ok dL_law_1269 rfl 1 rfl ?_
  refine g_aload_n X.ok dL_law_1270 rfl 0 rfl ?_
  refine g_iload_n X.ok dL_law_1271 rfl 3 rfl ?_
  refine g_iconst (v := 1) X.ok dL_law_1272 (by decide) ?_
  refine g_iadd X.ok dL_law_1273 ?_
  refine g_arr X hL (k := 1) rfl (by omega) dL_law_1274 ?_
  refine hx _ ?_
  refine g_aload_n X.ok dL_law_1278 rfl 2 rfl ?_
  refine g_aload_n X.ok dL_law_1279 rfl 0 rfl ?_
  refine g_iload_n X.ok dL_law_1280 rfl 3 rfl ?_
  refine g_iconst (v := 1) X.ok dL_law_1281 (by decide) ?_
  refine g_iadd X.ok dL_law_1282 ?_
  refine g_arr X hL (k := 1) rfl (by omega) dL_law_1283 ?_
  refine hm _ ?_
  exact g_icmp_eq (tgt := 1306) X.ok dL_law_1287 (by decide) (fun _ => nx ws2 S2) (fun hn => absurd rfl hn)
theorem k_digest (X : OkL G l D cI cZ (some q) b L xs) (hL : L ≤ 3072) (hce : ce ≤ room_1.cells) (hsl : sl ≤ room_1.slots) (hi : i + 6 ≤ L) (S : St cI cZ hh ws) (nx : ∀ ws', St cI cZ hh ws' → G ce sl ws' (lvL b (hh 0) (hh 68) i) 1306 []) : G ce sl ws (lvL b (hh 0) (hh 68) i) 1292 [] := by
  obtain ⟨r, ws1, ws2, S2, hx, hm⟩ := b_digest X.ok hce hsl S 
  refine g_aload_n X.ok dL_law_1292 rfl 1 rfl ?_
  refine hx _ ?_
  refine g_aload_n X.ok dL_law_1296 rfl 2 rfl ?_
  refine hm _ ?_
  refine g_lcmp X.ok dL_law_1300 ?_
  exact g_if_eq (tgt := 1306) X.ok dL_law_1301 (by decide) (fun _ => nx ws2 S2) (fun hn => absurd (lcmp_self r) hn)
end CS
