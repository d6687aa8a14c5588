section CASES
variable {p : Program} {l : Launch} {e : Env} {s : State} {m : MethodId} {below : List Frame} {meth : Method} {c : Code} {Q : State → Prop} {b L : Nat} {xs : Nat → Int32} {ad : Nat → Nat → Nat} {un : Nat} {cA : Nat → ClassId} {dg : va_G} {adV : Nat → Nat} {cells slots : Nat} {H : Heap} {locs : List Loc} {ls : Array Slot}
theorem la_c0 (C : LC p s m c b L xs ad un cA dg adV) {i : Nat} (hi : i + 6 ≤ L) (hl : lv_has ls 4 (la_lv ad b i)) (hcs : cells ≤ 600000 ∧ slots ≤ 7302250) {σ : pSt} (hI : Inv σ.1) (hW : pWo Sh ad un cA dg σ H) (hS : va_S (fun q => s.heap.size ≤ q) s.heap H locs) (next : ∀ (σ' : pSt) (H' : Heap) (locs' : List Loc), Inv σ'.1 → pWo Sh ad un cA dg σ' H' → va_S (fun q => s.heap.size ≤ q) s.heap H' locs' → W p l e room_1 s m #[Value.ref b] below meth c H' locs' cells slots Q (F0 m 1435 ls [])) : W p l e room_1 s m #[Value.ref b] below meth c H locs cells slots Q (F0 m 212 ls []) := by
  obtain ⟨v, D1, E1, D2, E2, h1, h2, h3⟩ := L_feed (xs (i + 1)) (xs (i + 2)) (xs (i + 3)) (xs (i + 4)) (xs (i + 5)) σ.1 σ.2 hI
  obtain ⟨hx, hb, -⟩ := id C
  refine lv_aload_n hx hb dL_212 rfl (lv_at hl 1 rfl) ?_
  refine la_arg (j := 1) C hl hS (by omega) (by decide) dL_213 dL_214 dL_215 dL_216 dL_217 ?_
  refine la_arg (j := 2) C hl hS (by omega) (by decide) dL_218 dL_219 dL_220 dL_221 dL_222 ?_
  refine la_arg (j := 3) C hl hS (by omega) (by decide) dL_223 dL_224 dL_225 dL_226 dL_227 ?_
  refine la_arg (j := 4) C hl hS (by omega) (by decide) dL_228 dL_229 dL_230 dL_231 dL_232 ?_
  refine la_arg (j := 5) C hl hS (by omega) (by decide) dL_233 dL_234 dL_235 dL_236 dL_237 ?_
  refine la_call (k := 0) (me := 101) (d := 1) (xa := [xs (i + 1), xs (i + 2), xs (i + 3), xs (i + 4), xs (i + 5)]) (rest := []) (i4 := 5) (ci := 9) (σ' := (D1, E1)) C h1 rfl rfl rfl rfl (hasW_in (i := 483) (by decide +kernel)) (by decide) dL_238 hl.1 (Nat.le_of_ble_eq_true rfl) hcs rfl hW hS (fun H locs hW hS => ?_)
  refine lv_aload_n hx hb dL_241 rfl (lv_at hl 2 rfl) ?_
  refine la_arg (j := 1) C hl hS (by omega) (by decide) dL_242 dL_243 dL_244 dL_245 dL_246 ?_
  refine la_arg (j := 2) C hl hS (by omega) (by decide) dL_247 dL_248 dL_249 dL_250 dL_251 ?_
  refine la_arg (j := 3) C hl hS (by omega) (by decide) dL_252 dL_253 dL_254 dL_255 dL_256 ?_
  refine la_arg (j := 4) C hl hS (by omega) (by decide) dL_257 dL_258 dL_259 dL_260 dL_261 ?_
  refine la_arg (j := 5) C hl hS (by omega) (by decide) dL_262 dL_263 dL_264 dL_265 dL_266 ?_
  refine la_call (k := 100) (me := 147) (d := 0) (xa := [xs (i + 1), xs (i + 2), xs (i + 3), xs (i + 4), xs (i + 5)]) (rest := [.int v]) (i4 := 5) (ci := 10) (σ' := (D2, E2)) C h2 rfl rfl rfl rfl (hasW_in (i := 1358) (by decide +kernel)) (by decide) dL_267 hl.1 (Nat.le_of_ble_eq_true rfl) hcs rfl hW hS (fun H locs hW hS => ?_)
  exact lv_icmp_eq (tgt := 1435) hx hb dL_270 (by decide) (fun _ => next (D2, E2) H locs h3 hW hS) (fun q => absurd rfl q)
theorem la_c1 (C : LC p s m c b L xs ad un cA dg adV) {i : Nat} (hi : i + 6 ≤ L) (hl : lv_has ls 4 (la_lv ad b i)) (hcs : cells ≤ 600000 ∧ slots ≤ 7302250) {σ : pSt} (hI : Inv σ.1) (hW : pWo Sh ad un cA dg σ H) (hS : va_S (fun q => s.heap.size ≤ q) s.heap H locs) (next : ∀ (σ' : pSt) (H' : Heap) (locs' : List Loc), Inv σ'.1 → pWo Sh ad un cA dg σ' H' → va_S (fun q => s.heap.size ≤ q) s.heap H' locs' → W p l e room_1 s m #[Value.ref b] below meth c H' locs' cells slots Q (F0 m 1435 ls [])) : W p l e room_1 s m #[Value.ref b] below meth c H locs cells slots Q (F0 m 275 ls []) := by
  obtain ⟨v, D1, E1, D2, E2, h1, h2, h3⟩ := L_end (xs (i + 1)) σ.1 σ.2 hI
  obtain ⟨hx, hb, -⟩ := id C
  refine lv_aload_n hx hb dL_275 rfl (lv_at hl 1 rfl) ?_
  refine la_arg (j := 1) C hl hS (by omega) (by decide) dL_276 dL_277 dL_278 dL_279 dL_280 ?_
  refine la_call (k := 0) (me := 102) (d := 0) (xa := [xs (i + 1)]) (rest := []) (i4 := 1) (ci := 9) (σ' := (D1, E1)) C h1 rfl rfl rfl rfl (hasW_in (i := 495) (by decide +kernel)) (by decide) dL_281 hl.1 (Nat.le_of_ble_eq_true rfl) hcs rfl hW hS (fun H locs hW hS => ?_)
  refine lv_aload_n hx hb dL_284 rfl (lv_at hl 2 rfl) ?_
  refine la_arg (j := 1) C hl hS (by omega) (by decide) dL_285 dL_286 dL_287 dL_288 dL_289 ?_
  refine la_call (k := 100) (me := 148) (d := 0) (xa := [xs (i + 1)]) (rest := [.int v]) (i4 := 1) (ci := 10) (σ' := (D2, E2)) C h2 rfl rfl rfl rfl (hasW_in (i := 1362) (by decide +kernel)) (by decide) dL_290 hl.1 (Nat.le_of_ble_eq_true rfl) hcs rfl hW hS (fun H locs hW hS => ?_)
  exact lv_icmp_eq (tgt := 1435) hx hb dL_293 (by decide) (fun _ => next (D2, E2) H locs h3 hW hS) (fun q => absurd rfl q)
theorem la_c2 (C : LC p s m c b L xs ad un cA dg adV) {i : Nat} (hi : i + 6 ≤ L) (hl : lv_has ls 4 (la_lv ad b i)) (hcs : cells ≤ 600000 ∧ slots ≤ 7302250) {σ : pSt} (hI : Inv σ.1) (hW : pWo Sh ad un cA dg σ H) (hS : va_S (fun q => s.heap.size ≤ q) s.heap H locs) (next : ∀ (σ' : pSt) (H' : Heap) (locs' : List Loc), Inv σ'.1 → pWo Sh ad un cA dg σ' H' → va_S (fun q => s.heap.size ≤ q) s.heap H' locs' → W p l e room_1 s m #[Value.ref b] below meth c H' locs' cells slots Q (F0 m 1435 ls [])) : W p l e room_1 s m #[Value.ref b] below meth c H locs cells slots Q (F0 m 298 ls []) := by
  obtain ⟨v, D1, E1, D2, E2, h1, h2, h3⟩ := L_book  σ.1 σ.2 hI
  obtain ⟨hx, hb, -⟩ := id C
  refine lv_aload_n hx hb dL_298 rfl (lv_at hl 1 rfl) ?_
  refine la_call (k := 0) (me := 103) (d := 6) (xa := []) (rest := []) (i4 := 0) (ci := 9) (σ' := (D1, E1)) C h1 rfl rfl rfl rfl (hasW_in (i := 499) (by decide +kernel)) (by decide) dL_299 hl.1 (Nat.le_of_ble_eq_true rfl) hcs rfl hW hS (fun H locs hW hS => ?_)
  refine lv_aload_n hx hb dL_302 rfl (lv_at hl 2 rfl) ?_
  refine la_call (k := 100) (me := 170) (d := 6) (xa := []) (rest := [.int v]) (i4 := 0) (ci := 10) (σ' := (D2, E2)) C h2 rfl rfl rfl rfl (hasW_in (i := 1370) (by decide +kernel)) (by decide) dL_303 hl.1 (Nat.le_of_ble_eq_true rfl) hcs rfl hW hS (fun H locs hW hS => ?_)
  exact lv_icmp_eq (tgt := 1435) hx hb dL_306 (by decide) (fun _ => next (D2, E2) H locs h3 hW hS) (fun q => absurd rfl q)
theorem la_c3 (C : LC p s m c b L xs ad un cA dg adV) {i : Nat} (hi : i + 6 ≤ L) (hl : lv_has ls 4 (la_lv ad b i)) (hcs : cells ≤ 600000 ∧ slots ≤ 7302250) {σ : pSt} (hI : Inv σ.1) (hW : pWo Sh ad un cA dg σ H) (hS : va_S (fun q => s.heap.size ≤ q) s.heap H locs) (next : ∀ (σ' : pSt) (H' : Heap) (locs' : List Loc), Inv σ'.1 → pWo Sh ad un cA dg σ' H' → va_S (fun q => s.heap.size ≤ q) s.heap H' locs' → W p l e room_1 s m #[Value.ref b] below meth c H' locs' cells slots Q (F0 m 1435 ls [])) : W p l e room_1 s m #[Value.ref b] below meth c H locs cells slots Q (F0 m 311 ls []) := by
  obtain ⟨v, D1, E1, D2, E2, h1, h2, h3⟩ := L_fault (xs (i + 1)) σ.1 σ.2 hI
  obtain ⟨hx, hb, -⟩ := id C
  refine lv_aload_n hx hb dL_311 rfl (lv_at hl 1 rfl) ?_
  refine la_arg (j := 1) C hl hS (by omega) (by decide) dL_312 dL_313 dL_314 dL_315 dL_316 ?_
  refine la_call (k := 0) (me := 104) (d := 0) (xa := [xs (i + 1)]) (rest := []) (i4 := 1) (ci := 9) (σ' := (D1, E1)) C h1 rfl rfl rfl rfl (hasW_in (i := 679) (by decide +kernel)) (by decide) dL_317 hl.1 (Nat.le_of_ble_eq_true rfl) hcs rfl hW hS (fun H locs hW hS => ?_)
  refine lv_aload_n hx hb dL_320 rfl (lv_at hl 2 rfl) ?_
  refine la_arg (j := 1) C hl hS (by omega) (by decide) dL_321 dL_322 dL_323 dL_324 dL_325 ?_
  refine la_call (k := 100) (me := 158) (d := 0) (xa := [xs (i + 1)]) (rest := [.int v]) (i4 := 1) (ci := 10) (σ' := (D2, E2)) C h2 rfl rfl rfl rfl (hasW_in (i := 1366) (by decide +kernel)) (by decide) dL_326 hl.1 (Nat.le_of_ble_eq_true rfl) hcs rfl hW hS (fun H locs hW hS => ?_)
  exact lv_icmp_eq (tgt := 1435) hx hb dL_329 (by decide) (fun _ => next (D2, E2) H locs h3 hW hS) (fun q => absurd rfl q)
theorem la_c4 (C : LC p s m c b L xs ad un cA dg adV) {i : Nat} (hi : i + 6 ≤ L) (hl : lv_has ls 4 (la_lv ad b i)) (hcs : cells ≤ 600000 ∧ slots ≤ 7302250) {σ : pSt} (hI : Inv σ.1) (hW : pWo Sh ad un cA dg σ H) (hS : va_S (fun q => s.heap.size ≤ q) s.heap H locs) (next : ∀ (σ' : pSt) (H' : Heap) (locs' : List Loc), Inv σ'.1 → pWo Sh ad un cA dg σ' H' → va_S (fun q => s.heap.size ≤ q) s.heap H' locs' → W p l e room_1 s m #[Value.ref b] below meth c H' locs' cells slots Q (F0 m 1435 ls [])) : W p l e room_1 s m #[Value.ref b] below meth c H locs cells slots Q (F0 m 334 ls []) := by
  obtain ⟨v, D1, E1, D2, E2, h1, h2, h3⟩ := L_told (xs (i + 1)) σ.1 σ.2 hI
  obtain ⟨hx, hb, -⟩ := id C
  refine lv_aload_n hx hb dL_334 rfl (lv_at hl 1 rfl) ?_
  refine la_arg (j := 1) C hl hS (by omega) (by decide) dL_335 dL_336 dL_337 dL_338 dL_339 ?_
  refine la_call (k := 0) (me := 105) (d := 0) (xa := [xs (i + 1)]) (rest := []) (i4 := 1) (ci := 9) (σ' := (D1, E1)) C h1 rfl rfl rfl rfl (hasW_in (i := 683) (by decide +kernel)) (by decide) dL_340 hl.1 (Nat.le_of_ble_eq_true rfl) hcs rfl hW hS (fun H locs hW hS => ?_)
  refine lv_aload_n hx hb dL_343 rfl (lv_at hl 2 rfl) ?_
  refine la_arg (j := 1) C hl hS (by omega) (by decide) dL_344 dL_345 dL_346 dL_347 dL_348 ?_
  refine la_call (k := 100) (me := 171) (d := 1) (xa := [xs (i + 1)]) (rest := [.int v]) (i4 := 1) (ci := 10) (σ' := (D2, E2)) C h2 rfl rfl rfl rfl (hasW_in (i := 1448) (by decide +kernel)) (by decide) dL_349 hl.1 (Nat.le_of_ble_eq_true rfl) hcs rfl hW hS (fun H locs hW hS => ?_)
  exact lv_icmp_eq (tgt := 1435) hx hb dL_352 (by decide) (fun _ => next (D2, E2) H locs h3 hW hS) (fun q => absurd rfl q)
theorem la_c5 (C : LC p s m c b L xs ad un cA dg adV) {i : Nat} (hi : i + 6 ≤ L) (hl : lv_has ls 4 (la_lv ad b i)) (hcs : cells ≤ 600000 ∧ slots ≤ 7302250) {σ : pSt} (hI : Inv σ.1) (hW : pWo Sh ad un cA dg σ H) (hS : va_S (fun q => s.heap.size ≤ q) s.heap H locs) (next : ∀ (σ' : pSt) (H' : Heap) (locs' : List Loc), Inv σ'.1 → pWo Sh ad un cA dg σ' H' → va_S (fun q => s.heap.size ≤ q) s.heap H' locs' → W p l e room_1 s m #[Value.ref b] below meth c H' locs' cells slots Q (F0 m 1435 ls [])) : W p l e room_1 s m #[Value.ref b] below meth c H locs cells slots Q (F0 m 357 ls []) := by
  obtain ⟨v, D1, E1, D2, E2, h1, h2, h3⟩ := L_traits (xs (i + 1)) (xs (i + 2)) σ.1 σ.2 hI
  obtain ⟨hx, hb, -⟩ := id C
  refine lv_aload_n hx hb dL_357 rfl (lv_at hl 1 rfl) ?_
  refine la_arg (j := 1) C hl hS (by omega) (by decide) dL_358 dL_359 dL_360 dL_361 dL_362 ?_
  refine la_arg (j := 2) C hl hS (by omega) (by decide) dL_363 dL_364 dL_365 dL_366 dL_367 ?_
  refine la_call (k := 0) (me := 106) (d := 1) (xa := [xs (i + 1), xs (i + 2)]) (rest := []) (i4 := 2) (ci := 9) (σ' := (D1, E1)) C h1 rfl rfl rfl rfl (hasW_in (i := 687) (by decide +kernel)) (by decide) dL_368 hl.1 (Nat.le_of_ble_eq_true rfl) hcs rfl hW hS (fun H locs hW hS => ?_)
  refine lv_aload_n hx hb dL_371 rfl (lv_at hl 2 rfl) ?_
  refine la_arg (j := 1) C hl hS (by omega) (by decide) dL_372 dL_373 dL_374 dL_375 dL_376 ?_
  refine la_arg (j := 2) C hl hS (by omega) (by decide) dL_377 dL_378 dL_379 dL_380 dL_381 ?_
  refine la_call (k := 100) (me := 177) (d := 2) (xa := [xs (i + 1), xs (i + 2)]) (rest := [.int v]) (i4 := 2) (ci := 10) (σ' := (D2, E2)) C h2 rfl rfl rfl rfl (hasW_in (i := 1452) (by decide +kernel)) (by decide) dL_382 hl.1 (Nat.le_of_ble_eq_true rfl) hcs rfl hW hS (fun H locs hW hS => ?_)
  exact lv_icmp_eq (tgt := 1435) hx hb dL_385 (by decide) (fun _ => next (D2, E2) H locs h3 hW hS) (fun q => absurd rfl q)
theorem la_c6 (C : LC p s m c b L xs ad un cA dg adV) {i : Nat} (hi : i + 6 ≤ L) (hl : lv_has ls 4 (la_lv ad b i)) (hcs : cells ≤ 600000 ∧ slots ≤ 7302250) {σ : pSt} (hI : Inv σ.1) (hW : pWo Sh ad un cA dg σ H) (hS : va_S (fun q => s.heap.size ≤ q) s.heap H locs) (next : ∀ (σ' : pSt) (H' : Heap) (locs' : List Loc), Inv σ'.1 → pWo Sh ad un cA dg σ' H' → va_S (fun q => s.heap.size ≤ q) s.heap H' locs' → W p l e room_1 s m #[Value.ref b] below meth c H' locs' cells slots Q (F0 m 1435 ls [])) : W p l e room_1 s m #[Value.ref b] below meth c H locs cells slots Q (F0 m 390 ls []) := by
  obtain ⟨v, D1, E1, D2, E2, h1, h2, h3⟩ := L_notion (xs (i + 1)) σ.1 σ.2 hI
  obtain ⟨hx, hb, -⟩ := id C
  refine lv_aload_n hx hb dL_390 rfl (lv_at hl 1 rfl) ?_
  refine la_arg (j := 1) C hl hS (by omega) (by decide) dL_391 dL_392 dL_393 dL_394 dL_395 ?_
  refine la_call (k := 0) (me := 107) (d := 1) (xa := [xs (i + 1)]) (rest := []) (i4 := 1) (ci := 9) (σ' := (D1, E1)) C h1 rfl rfl rfl rfl (hasW_in (i := 695) (by decide +kernel)) (by decide) dL_396 hl.1 (Nat.le_of_ble_eq_true rfl) hcs rfl hW hS (fun H locs hW hS => ?_)
  refine lv_aload_n hx hb dL_399 rfl (lv_at hl 2 rfl) ?_
  refine la_arg (j := 1) C hl hS (by omega) (by decide) dL_400 dL_401 dL_402 dL_403 dL_404 ?_
  refine la_call (k := 100) (me := 178) (d := 2) (xa := [xs (i + 1)]) (rest := [.int v]) (i4 := 1) (ci := 10) (σ' := (D2, E2)) C h2 rfl rfl rfl rfl (hasW_in (i := 1476) (by decide +kernel)) (by decide) dL_405 hl.1 (Nat.le_of_ble_eq_true rfl) hcs rfl hW hS (fun H locs hW hS => ?_)
  exact lv_icmp_eq (tgt := 1435) hx hb dL_408 (by decide) (fun _ => next (D2, E2) H locs h3 hW hS) (fun q => absurd rfl q)
theorem la_c7 (C : LC p s m c b L xs ad un cA dg adV) {i : Nat} (hi : i + 6 ≤ L) (hl : lv_has ls 4 (la_lv ad b i)) (hcs : cells ≤ 600000 ∧ slots ≤ 7302250) {σ : pSt} (hI : Inv σ.1) (hW : pWo Sh ad un cA dg σ H) (hS : va_S (fun q => s.heap.size ≤ q) s.heap H locs) (next : ∀ (σ' : pSt) (H' : Heap) (locs' : List Loc), Inv σ'.1 → pWo Sh ad un cA dg σ' H' → va_S (fun q => s.heap.size ≤ q) s.heap H' locs' → W p l e room_1 s m #[Value.ref b] below meth c H' locs' cells slots Q (F0 m 1435 ls [])) : W p l e room_1 s m #[Value.ref b] below meth c H locs cells slots Q (F0 m 413 ls []) := by
  obtain ⟨v, D1, E1, D2, E2, h1, h2, h3⟩ := L_choose (xs (i + 1)) (xs (i + 2)) (xs (i + 3)) (xs (i + 4)) (xs (i + 5)) σ.1 σ.2 hI
  obtain ⟨hx, hb, -⟩ := id C
  refine lv_aload_n hx hb dL_413 rfl (lv_at hl 1 rfl) ?_
  refine la_arg (j := 1) C hl hS (by omega) (by decide) dL_414 dL_415 dL_416 dL_417 dL_418 ?_
  refine la_arg (j := 2) C hl hS (by omega) (by decide) dL_419 dL_420 dL_421 dL_422 dL_423 ?_
  refine la_arg (j := 3) C hl hS (by omega) (by decide) dL_424 dL_425 dL_426 dL_427 dL_428 ?_
  refine la_arg (j := 4) C hl hS (by omega) (by decide) dL_429 dL_430 dL_431 dL_432 dL_433 ?_
  refine la_arg (j := 5) C hl hS (by omega) (by decide) dL_434 dL_435 dL_436 dL_437 dL_438 ?_
  refine la_call (k := 0) (me := 108) (d := 4) (xa := [xs (i + 1), xs (i + 2), xs (i + 3), xs (i + 4), xs (i + 5)]) (rest := []) (i4 := 5) (ci := 9) (σ' := (D1, E1)) C h1 rfl rfl rfl rfl (hasW_in (i := 699) (by decide +kernel)) (by decide) dL_439 hl.1 (Nat.le_of_ble_eq_true rfl) hcs rfl hW hS (fun H locs hW hS => ?_)
  refine lv_aload_n hx hb dL_442 rfl (lv_at hl 2 rfl) ?_
  refine la_arg (j := 1) C hl hS (by omega) (by decide) dL_443 dL_444 dL_445 dL_446 dL_447 ?_
  refine la_arg (j := 2) C hl hS (by omega) (by decide) dL_448 dL_449 dL_450 dL_451 dL_452 ?_
  refine la_arg (j := 3) C hl hS (by omega) (by decide) dL_453 dL_454 dL_455 dL_456 dL_457 ?_
  refine la_arg (j := 4) C hl hS (by omega) (by decide) dL_458 dL_459 dL_460 dL_461 dL_462 ?_
  refine la_arg (j := 5) C hl hS (by omega) (by decide) dL_463 dL_464 dL_465 dL_466 dL_467 ?_
  refine la_call (k := 100) (me := 187) (d := 4) (xa := [xs (i + 1), xs (i + 2), xs (i + 3), xs (i + 4), xs (i + 5)]) (rest := [.int v]) (i4 := 5) (ci := 10) (σ' := (D2, E2)) C h2 rfl rfl rfl rfl (hasW_in (i := 1480) (by decide +kernel)) (by decide) dL_468 hl.1 (Nat.le_of_ble_eq_true rfl) hcs rfl hW hS (fun H locs hW hS => ?_)
  exact lv_icmp_eq (tgt := 1435) hx hb dL_471 (by decide) (fun _ => next (D2, E2) H locs h3 hW hS) (fun q => absurd rfl q)
theorem la_c8 (C : LC p s m c b L xs ad un cA dg adV) {i : Nat} (hi : i + 6 ≤ L) (hl : lv_has ls 4 (la_lv ad b i)) (hcs : cells ≤ 600000 ∧ slots ≤ 7302250) {σ : pSt} (hI : Inv σ.1) (hW : pWo Sh ad un cA dg σ H) (hS : va_S (fun q => s.heap.size ≤ q) s.heap H locs) (next : ∀ (σ' : pSt) (H' : Heap) (locs' : List Loc), Inv σ'.1 → pWo Sh ad un cA dg σ' H' → va_S (fun q => s.heap.size ≤ q) s.heap H' locs' → W p l e room_1 s m #[Value.ref b] below meth c H' locs' cells slots Q (F0 m 1435 ls [])) : W p l e room_1 s m #[Value.ref b] below meth c H locs cells slots Q (F0 m 476 ls []) := by
  obtain ⟨v, D1, E1, D2, E2, h1, h2, h3⟩ := L_leave (xs (i + 1)) σ.1 σ.2 hI
  obtain ⟨hx, hb, -⟩ := id C
  refine lv_aload_n hx hb dL_476 rfl (lv_at hl 1 rfl) ?_
  refine la_arg (j := 1) C hl hS (by omega) (by decide) dL_477 dL_478 dL_479 dL_480 dL_481 ?_
  refine la_call (k := 0) (me := 110) (d := 1) (xa := [xs (i + 1)]) (rest := []) (i4 := 1) (ci := 9) (σ' := (D1, E1)) C h1 rfl rfl rfl rfl (hasW_in (i := 755) (by decide +kernel)) (by decide) dL_482 hl.1 (Nat.le_of_ble_eq_true rfl) hcs rfl hW hS (fun H locs hW hS => ?_)
  refine lv_aload_n hx hb dL_485 rfl (lv_at hl 2 rfl) ?_
  refine la_arg (j := 1) C hl hS (by omega) (by decide) dL_486 dL_487 dL_488 dL_489 dL_490 ?_
  refine la_call (k := 100) (me := 188) (d := 2) (xa := [xs (i + 1)]) (rest := [.int v]) (i4 := 1) (ci := 10) (σ' := (D2, E2)) C h2 rfl rfl rfl rfl (hasW_in (i := 1512) (by decide +kernel)) (by decide) dL_491 hl.1 (Nat.le_of_ble_eq_true rfl) hcs rfl hW hS (fun H locs hW hS => ?_)
  exact lv_icmp_eq (tgt := 1435) hx hb dL_494 (by decide) (fun _ => next (D2, E2) H locs h3 hW hS) (fun q => absurd rfl q)
theorem la_c9 (C : LC p s m c b L xs ad un cA dg adV) {i : Nat} (hi : i + 6 ≤ L) (hl : lv_has ls 4 (la_lv ad b i)) (hcs : cells ≤ 600000 ∧ slots ≤ 7302250) {σ : pSt} (hI : Inv σ.1) (hW : pWo Sh ad un cA dg σ H) (hS : va_S (fun q => s.heap.size ≤ q) s.heap H locs) (next : ∀ (σ' : pSt) (H' : Heap) (locs' : List Loc), Inv σ'.1 → pWo Sh ad un cA dg σ' H' → va_S (fun q => s.heap.size ≤ q) s.heap H' locs' → W p l e room_1 s m #[Value.ref b] below meth c H' locs' cells slots Q (F0 m 1435 ls [])) : W p l e room_1 s m #[Value.ref b] below meth c H locs cells slots Q (F0 m 499 ls []) := by
  obtain ⟨v, D1, E1, D2, E2, h1, h2, h3⟩ := L_choice (xs (i + 1)) (xs (i + 2)) σ.1 σ.2 hI
  obtain ⟨hx, hb, -⟩ := id C
  refine lv_aload_n hx hb dL_499 rfl (lv_at hl 1 rfl) ?_
  refine la_arg (j := 1) C hl hS (by omega) (by decide) dL_500 dL_501 dL_502 dL_503 dL_504 ?_
  refine la_arg (j := 2) C hl hS (by omega) (by decide) dL_505 dL_506 dL_507 dL_508 dL_509 ?_
  refine la_call (k := 0) (me := 111) (d := 1) (xa := [xs (i + 1), xs (i + 2)]) (rest := []) (i4 := 2) (ci := 9) (σ' := (D1, E1)) C h1 rfl rfl rfl rfl (hasW_in (i := 760) (by decide +kernel)) (by decide) dL_510 hl.1 (Nat.le_of_ble_eq_true rfl) hcs rfl hW hS (fun H locs hW hS => ?_)
  refine lv_aload_n hx hb dL_513 rfl (lv_at hl 2 rfl) ?_
  refine la_arg (j := 1) C hl hS (by omega) (by decide) dL_514 dL_515 dL_516 dL_517 dL_518 ?_
  refine la_arg (j := 2) C hl hS (by omega) (by decide) dL_519 dL_520 dL_521 dL_522 dL_523 ?_
  refine la_call (k := 100) (me := 189) (d := 2) (xa := [xs (i + 1), xs (i + 2)]) (rest := [.int v]) (i4 := 2) (ci := 10) (σ' := (D2, E2)) C h2 rfl rfl rfl rfl (hasW_in (i := 1516) (by decide +kernel)) (by decide) dL_524 hl.1 (Nat.le_of_ble_eq_true rfl) hcs rfl hW hS (fun H locs hW hS => ?_)
  exact lv_icmp_eq (tgt := 1435) hx hb dL_527 (by decide) (fun _ => next (D2, E2) H locs h3 hW hS) (fun q => absurd rfl q)
theorem la_c10 (C : LC p s m c b L xs ad un cA dg adV) {i : Nat} (hi : i + 6 ≤ L) (hl : lv_has ls 4 (la_lv ad b i)) (hcs : cells ≤ 600000 ∧ slots ≤ 7302250) {σ : pSt} (hI : Inv σ.1) (hW : pWo Sh ad un cA dg σ H) (hS : va_S (fun q => s.heap.size ≤ q) s.heap H locs) (next : ∀ (σ' : pSt) (H' : Heap) (locs' : List Loc), Inv σ'.1 → pWo Sh ad un cA dg σ' H' → va_S (fun q => s.heap.size ≤ q) s.heap H' locs' → W p l e room_1 s m #[Value.ref b] below meth c H' locs' cells slots Q (F0 m 1435 ls [])) : W p l e room_1 s m #[Value.ref b] below meth c H locs cells slots Q (F0 m 532 ls []) := by
  obtain ⟨v, D1, E1, D2, E2, h1, h2, h3⟩ := L_bears (xs (i + 1)) (xs (i + 2)) σ.1 σ.2 hI
  obtain ⟨hx, hb, -⟩ := id C
  refine lv_aload_n hx hb dL_532 rfl (lv_at hl 1 rfl) ?_
  refine la_arg (j := 1) C hl hS (by omega) (by decide) dL_533 dL_534 dL_535 dL_536 dL_537 ?_
  refine la_arg (j := 2) C hl hS (by omega) (by decide) dL_538 dL_539 dL_540 dL_541 dL_542 ?_
  refine la_call (k := 0) (me := 112) (d := 4) (xa := [xs (i + 1), xs (i + 2)]) (rest := []) (i4 := 2) (ci := 9) (σ' := (D1, E1)) C h1 rfl rfl rfl rfl (hasW_in (i := 764) (by decide +kernel)) (by decide) dL_543 hl.1 (Nat.le_of_ble_eq_true rfl) hcs rfl hW hS (fun H locs hW hS => ?_)
  refine lv_aload_n hx hb dL_546 rfl (lv_at hl 2 rfl) ?_
  refine la_arg (j := 1) C hl hS (by omega) (by decide) dL_547 dL_548 dL_549 dL_550 dL_551 ?_
  refine la_arg (j := 2) C hl hS (by omega) (by decide) dL_552 dL_553 dL_554 dL_555 dL_556 ?_
  refine la_call (k := 100) (me := 190) (d := 4) (xa := [xs (i + 1), xs (i + 2)]) (rest := [.int v]) (i4 := 2) (ci := 10) (σ' := (D2, E2)) C h2 rfl rfl rfl rfl (hasW_in (i := 1520) (by decide +kernel)) (by decide) dL_557 hl.1 (Nat.le_of_ble_eq_true rfl) hcs rfl hW hS (fun H locs hW hS => ?_)
  exact lv_icmp_eq (tgt := 1435) hx hb dL_560 (by decide) (fun _ => next (D2, E2) H locs h3 hW hS) (fun q => absurd rfl q)
theorem la_c11 (C : LC p s m c b L xs ad un cA dg adV) {i : Nat} (hi : i + 6 ≤ L) (hl : lv_has ls 4 (la_lv ad b i)) (hcs : cells ≤ 600000 ∧ slots ≤ 7302250) {σ : pSt} (hI : Inv σ.1) (hW : pWo Sh ad un cA dg σ H) (hS : va_S (fun q => s.heap.size ≤ q) s.heap H locs) (next : ∀ (σ' : pSt) (H' : Heap) (locs' : List Loc), Inv σ'.1 → pWo Sh ad un cA dg σ' H' → va_S (fun q => s.heap.size ≤ q) s.heap H' locs' → W p l e room_1 s m #[Value.ref b] below meth c H' locs' cells slots Q (F0 m 1435 ls [])) : W p l e room_1 s m #[Value.ref b] below meth c H locs cells slots Q (F0 m 565 ls []) := by
  obtain ⟨v, D1, E1, D2, E2, h1, h2, h3⟩ := L_note (xs (i + 1)) (xs (i + 2)) σ.1 σ.2 hI
  obtain ⟨hx, hb, -⟩ := id C
  refine lv_aload_n hx hb dL_565 rfl (lv_at hl 1 rfl) ?_
  refine la_arg (j := 1) C hl hS (by omega) (by decide) dL_566 dL_567 dL_568 dL_569 dL_570 ?_
  refine la_arg (j := 2) C hl hS (by omega) (by decide) dL_571 dL_572 dL_573 dL_574 dL_575 ?_
  refine la_call (k := 0) (me := 113) (d := 2) (xa := [xs (i + 1), xs (i + 2)]) (rest := []) (i4 := 2) (ci := 9) (σ' := (D1, E1)) C h1 rfl rfl rfl rfl (hasW_in (i := 771) (by decide +kernel)) (by decide) dL_576 hl.1 (Nat.le_of_ble_eq_true rfl) hcs rfl hW hS (fun H locs hW hS => ?_)
  refine lv_aload_n hx hb dL_579 rfl (lv_at hl 2 rfl) ?_
  refine la_arg (j := 1) C hl hS (by omega) (by decide) dL_580 dL_581 dL_582 dL_583 dL_584 ?_
  refine la_arg (j := 2) C hl hS (by omega) (by decide) dL_585 dL_586 dL_587 dL_588 dL_589 ?_
  refine la_call (k := 100) (me := 193) (d := 2) (xa := [xs (i + 1), xs (i + 2)]) (rest := [.int v]) (i4 := 2) (ci := 10) (σ' := (D2, E2)) C h2 rfl rfl rfl rfl (hasW_in (i := 1524) (by decide +kernel)) (by decide) dL_590 hl.1 (Nat.le_of_ble_eq_true rfl) hcs rfl hW hS (fun H locs hW hS => ?_)
  exact lv_icmp_eq (tgt := 1435) hx hb dL_593 (by decide) (fun _ => next (D2, E2) H locs h3 hW hS) (fun q => absurd rfl q)
theorem la_c12 (C : LC p s m c b L xs ad un cA dg adV) {i : Nat} (hi : i + 6 ≤ L) (hl : lv_has ls 4 (la_lv ad b i)) (hcs : cells ≤ 600000 ∧ slots ≤ 7302250) {σ : pSt} (hI : Inv σ.1) (hW : pWo Sh ad un cA dg σ H) (hS : va_S (fun q => s.heap.size ≤ q) s.heap H locs) (next : ∀ (σ' : pSt) (H' : Heap) (locs' : List Loc), Inv σ'.1 → pWo Sh ad un cA dg σ' H' → va_S (fun q => s.heap.size ≤ q) s.heap H' locs' → W p l e room_1 s m #[Value.ref b] below meth c H' locs' cells slots Q (F0 m 1435 ls [])) : W p l e room_1 s m #[Value.ref b] below meth c H locs cells slots Q (F0 m 598 ls []) := by
  obtain ⟨v, D1, E1, D2, E2, h1, h2, h3⟩ := L_lost  σ.1 σ.2 hI
  obtain ⟨hx, hb, -⟩ := id C
  refine lv_aload_n hx hb dL_598 rfl (lv_at hl 1 rfl) ?_
  refine la_call (k := 0) (me := 114) (d := 5) (xa := []) (rest := []) (i4 := 0) (ci := 9) (σ' := (D1, E1)) C h1 rfl rfl rfl rfl (hasW_in (i := 788) (by decide +kernel)) (by decide) dL_599 hl.1 (Nat.le_of_ble_eq_true rfl) hcs rfl hW hS (fun H locs hW hS => ?_)
  refine lv_aload_n hx hb dL_602 rfl (lv_at hl 2 rfl) ?_
  refine la_call (k := 100) (me := 194) (d := 5) (xa := []) (rest := [.int v]) (i4 := 0) (ci := 10) (σ' := (D2, E2)) C h2 rfl rfl rfl rfl (hasW_in (i := 1535) (by decide +kernel)) (by decide) dL_603 hl.1 (Nat.le_of_ble_eq_true rfl) hcs rfl hW hS (fun H locs hW hS => ?_)
  exact lv_icmp_eq (tgt := 1435) hx hb dL_606 (by decide) (fun _ => next (D2, E2) H locs h3 hW hS) (fun q => absurd rfl q)
theorem la_c13 (C : LC p s m c b L xs ad un cA dg adV) {i : Nat} (hi : i + 6 ≤ L) (hl : lv_has ls 4 (la_lv ad b i)) (hcs : cells ≤ 600000 ∧ slots ≤ 7302250) {σ : pSt} (hI : Inv σ.1) (hW : pWo Sh ad un cA dg σ H) (hS : va_S (fun q => s.heap.size ≤ q) s.heap H locs) (next : ∀ (σ' : pSt) (H' : Heap) (locs' : List Loc), Inv σ'.1 → pWo Sh ad un cA dg σ' H' → va_S (fun q => s.heap.size ≤ q) s.heap H' locs' → W p l e room_1 s m #[Value.ref b] below meth c H' locs' cells slots Q (F0 m 1435 ls [])) : W p l e room_1 s m #[Value.ref b] below meth c H locs cells slots Q (F0 m 611 ls []) := by
  obtain ⟨v, D1, E1, D2, E2, h1, h2, h3⟩ := L_clashes  σ.1 σ.2 hI
  obtain ⟨hx, hb, -⟩ := id C
  refine lv_aload_n hx hb dL_611 rfl (lv_at hl 1 rfl) ?_
  refine la_call (k := 0) (me := 115) (d := 4) (xa := []) (rest := []) (i4 := 0) (ci := 9) (σ' := (D1, E1)) C h1 rfl rfl rfl rfl (hasW_in (i := 797) (by decide +kernel)) (by decide) dL_612 hl.1 (Nat.le_of_ble_eq_true rfl) hcs rfl hW hS (fun H locs hW hS => ?_)
  refine lv_aload_n hx hb dL_615 rfl (lv_at hl 2 rfl) ?_
  refine la_call (k := 100) (me := 196) (d := 3) (xa := []) (rest := [.int v]) (i4 := 0) (ci := 10) (σ' := (D2, E2)) C h2 rfl rfl rfl rfl (hasW_in (i := 1543) (by decide +kernel)) (by decide) dL_616 hl.1 (Nat.le_of_ble_eq_true rfl) hcs rfl hW hS (fun H locs hW hS => ?_)
  exact lv_icmp_eq (tgt := 1435) hx hb dL_619 (by decide) (fun _ => next (D2, E2) H locs h3 hW hS) (fun q => absurd rfl q)
theorem la_c14 (C : LC p s m c b L xs ad un cA dg adV) {i : Nat} (hi : i + 6 ≤ L) (hl : lv_has ls 4 (la_lv ad b i)) (hcs : cells ≤ 600000 ∧ slots ≤ 7302250) {σ : pSt} (hI : Inv σ.1) (hW : pWo Sh ad un cA dg σ H) (hS : va_S (fun q => s.heap.size ≤ q) s.heap H locs) (next : ∀ (σ' : pSt) (H' : Heap) (locs' : List Loc), Inv σ'.1 → pWo Sh ad un cA dg σ' H' → va_S (fun q => s.heap.size ≤ q) s.heap H' locs' → W p l e room_1 s m #[Value.ref b] below meth c H' locs' cells slots Q (F0 m 1435 ls [])) : W p l e room_1 s m #[Value.ref b] below meth c H locs cells slots Q (F0 m 624 ls []) := by
  obtain ⟨v, D1, E1, D2, E2, h1, h2, h3⟩ := L_bound (xs (i + 1)) σ.1 σ.2 hI
  obtain ⟨hx, hb, -⟩ := id C
  refine lv_aload_n hx hb dL_624 rfl (lv_at hl 1 rfl) ?_
  refine la_arg (j := 1) C hl hS (by omega) (by decide) dL_625 dL_626 dL_627 dL_628 dL_629 ?_
  refine la_call (k := 0) (me := 116) (d := 1) (xa := [xs (i + 1)]) (rest := []) (i4 := 1) (ci := 9) (σ' := (D1, E1)) C h1 rfl rfl rfl rfl (hasW_in (i := 817) (by decide +kernel)) (by decide) dL_630 hl.1 (Nat.le_of_ble_eq_true rfl) hcs rfl hW hS (fun H locs hW hS => ?_)
  refine lv_aload_n hx hb dL_633 rfl (lv_at hl 2 rfl) ?_
  refine la_arg (j := 1) C hl hS (by omega) (by decide) dL_634 dL_635 dL_636 dL_637 dL_638 ?_
  refine la_call (k := 100) (me := 197) (d := 2) (xa := [xs (i + 1)]) (rest := [.int v]) (i4 := 1) (ci := 10) (σ' := (D2, E2)) C h2 rfl rfl rfl rfl (hasW_in (i := 1551) (by decide +kernel)) (by decide) dL_639 hl.1 (Nat.le_of_ble_eq_true rfl) hcs rfl hW hS (fun H locs hW hS => ?_)
  exact lv_icmp_eq (tgt := 1435) hx hb dL_642 (by decide) (fun _ => next (D2, E2) H locs h3 hW hS) (fun q => absurd rfl q)
theorem la_c15 (C : LC p s m c b L xs ad un cA dg adV) {i : Nat} (hi : i + 6 ≤ L) (hl : lv_has ls 4 (la_lv ad b i)) (hcs : cells ≤ 600000 ∧ slots ≤ 7302250) {σ : pSt} (hI : Inv σ.1) (hW : pWo Sh ad un cA dg σ H) (hS : va_S (fun q => s.heap.size ≤ q) s.heap H locs) (next : ∀ (σ' : pSt) (H' : Heap) (locs' : List Loc), Inv σ'.1 → pWo Sh ad un cA dg σ' H' → va_S (fun q => s.heap.size ≤ q) s.heap H' locs' → W p l e room_1 s m #[Value.ref b] below meth c H' locs' cells slots Q (F0 m 1435 ls [])) : W p l e room_1 s m #[Value.ref b] below meth c H locs cells slots Q (F0 m 647 ls []) := by
  obtain ⟨v, D1, E1, D2, E2, h1, h2, h3⟩ := L_best (xs (i + 1)) σ.1 σ.2 hI
  obtain ⟨hx, hb, -⟩ := id C
  refine lv_aload_n hx hb dL_647 rfl (lv_at hl 1 rfl) ?_
  refine la_arg (j := 1) C hl hS (by omega) (by decide) dL_648 dL_649 dL_650 dL_651 dL_652 ?_
  refine la_call (k := 0) (me := 117) (d := 10) (xa := [xs (i + 1)]) (rest := []) (i4 := 1) (ci := 9) (σ' := (D1, E1)) C h1 rfl rfl rfl rfl (hasW_in (i := 825) (by decide +kernel)) (by decide) dL_653 hl.1 (Nat.le_of_ble_eq_true rfl) hcs rfl hW hS (fun H locs hW hS => ?_)
  refine lv_aload_n hx hb dL_656 rfl (lv_at hl 2 rfl) ?_
  refine la_arg (j := 1) C hl hS (by omega) (by decide) dL_657 dL_658 dL_659 dL_660 dL_661 ?_
  refine la_call (k := 100) (me := 200) (d := 5) (xa := [xs (i + 1)]) (rest := [.int v]) (i4 := 1) (ci := 10) (σ' := (D2, E2)) C h2 rfl rfl rfl rfl (hasW_in (i := 1555) (by decide +kernel)) (by decide) dL_662 hl.1 (Nat.le_of_ble_eq_true rfl) hcs rfl hW hS (fun H locs hW hS => ?_)
  exact lv_icmp_eq (tgt := 1435) hx hb dL_665 (by decide) (fun _ => next (D2, E2) H locs h3 hW hS) (fun q => absurd rfl q)
theorem la_c16 (C : LC p s m c b L xs ad un cA dg adV) {i : Nat} (hi : i + 6 ≤ L) (hl : lv_has ls 4 (la_lv ad b i)) (hcs : cells ≤ 600000 ∧ slots ≤ 7302250) {σ : pSt} (hI : Inv σ.1) (hW : pWo Sh ad un cA dg σ H) (hS : va_S (fun q => s.heap.size ≤ q) s.heap H locs) (next : ∀ (σ' : pSt) (H' : Heap) (locs' : List Loc), Inv σ'.1 → pWo Sh ad un cA dg σ' H' → va_S (fun q => s.heap.size ≤ q) s.heap H' locs' → W p l e room_1 s m #[Value.ref b] below meth c H' locs' cells slots Q (F0 m 1435 ls [])) : W p l e room_1 s m #[Value.ref b] below meth c H locs cells slots Q (F0 m 670 ls []) := by
  obtain ⟨v, D1, E1, D2, E2, h1, h2, h3⟩ := L_exchange  σ.1 σ.2 hI
  obtain ⟨hx, hb, -⟩ := id C
  refine lv_aload_n hx hb dL_670 rfl (lv_at hl 1 rfl) ?_
  refine la_call (k := 0) (me := 118) (d := 6) (xa := []) (rest := []) (i4 := 0) (ci := 9) (σ' := (D1, E1)) C h1 rfl rfl rfl rfl (hasW_in (i := 899) (by decide +kernel)) (by decide) dL_671 hl.1 (Nat.le_of_ble_eq_true rfl) hcs rfl hW hS (fun H locs hW hS => ?_)
  refine lv_aload_n hx hb dL_674 rfl (lv_at hl 2 rfl) ?_
  refine la_call (k := 100) (me := 203) (d := 6) (xa := []) (rest := [.int v]) (i4 := 0) (ci := 10) (σ' := (D2, E2)) C h2 rfl rfl rfl rfl (hasW_in (i := 1571) (by decide +kernel)) (by decide) dL_675 hl.1 (Nat.le_of_ble_eq_true rfl) hcs rfl hW hS (fun H locs hW hS => ?_)
  exact lv_icmp_eq (tgt := 1435) hx hb dL_678 (by decide) (fun _ => next (D2, E2) H locs h3 hW hS) (fun q => absurd rfl q)
theorem la_c17 (C : LC p s m c b L xs ad un cA dg adV) {i : Nat} (hi : i + 6 ≤ L) (hl : lv_has ls 4 (la_lv ad b i)) (hcs : cells ≤ 600000 ∧ slots ≤ 7302250) {σ : pSt} (hI : Inv σ.1) (hW : pWo Sh ad un cA dg σ H) (hS : va_S (fun q => s.heap.size ≤ q) s.heap H locs) (next : ∀ (σ' : pSt) (H' : Heap) (locs' : List Loc), Inv σ'.1 → pWo Sh ad un cA dg σ' H' → va_S (fun q => s.heap.size ≤ q) s.heap H' locs' → W p l e room_1 s m #[Value.ref b] below meth c H' locs' cells slots Q (F0 m 1435 ls [])) : W p l e room_1 s m #[Value.ref b] below meth c H locs cells slots Q (F0 m 683 ls []) := by
  obtain ⟨v, D1, E1, D2, E2, h1, h2, h3⟩ := L_one (xs (i + 1)) σ.1 σ.2 hI
  obtain ⟨hx, hb, -⟩ := id C
  refine lv_aload_n hx hb dL_683 rfl (lv_at hl 1 rfl) ?_
  refine la_arg (j := 1) C hl hS (by omega) (by decide) dL_684 dL_685 dL_686 dL_687 dL_688 ?_
  refine la_call (k := 0) (me := 119) (d := 6) (xa := [xs (i + 1)]) (rest := []) (i4 := 1) (ci := 9) (σ' := (D1, E1)) C h1 rfl rfl rfl rfl (hasW_in (i := 917) (by decide +kernel)) (by decide) dL_689 hl.1 (Nat.le_of_ble_eq_true rfl) hcs rfl hW hS (fun H locs hW hS => ?_)
  refine lv_aload_n hx hb dL_692 rfl (lv_at hl 2 rfl) ?_
  refine la_arg (j := 1) C hl hS (by omega) (by decide) dL_693 dL_694 dL_695 dL_696 dL_697 ?_
  refine la_call (k := 100) (me := 207) (d := 4) (xa := [xs (i + 1)]) (rest := [.int v]) (i4 := 1) (ci := 10) (σ' := (D2, E2)) C h2 rfl rfl rfl rfl (hasW_in (i := 1580) (by decide +kernel)) (by decide) dL_698 hl.1 (Nat.le_of_ble_eq_true rfl) hcs rfl hW hS (fun H locs hW hS => ?_)
  exact lv_icmp_eq (tgt := 1435) hx hb dL_701 (by decide) (fun _ => next (D2, E2) H locs h3 hW hS) (fun q => absurd rfl q)
theorem la_c18 (C : LC p s m c b L xs ad un cA dg adV) {i : Nat} (hi : i + 6 ≤ L) (hl : lv_has ls 4 (la_lv ad b i)) (hcs : cells ≤ 600000 ∧ slots ≤ 7302250) {σ : pSt} (hI : Inv σ.1) (hW : pWo Sh ad un cA dg σ H) (hS : va_S (fun q => s.heap.size ≤ q) s.heap H locs) (next : ∀ (σ' : pSt) (H' : Heap) (locs' : List Loc), Inv σ'.1 → pWo Sh ad un cA dg σ' H' → va_S (fun q => s.heap.size ≤ q) s.heap H' locs' → W p l e room_1 s m #[Value.ref b] below meth c H' locs' cells slots Q (F0 m 1435 ls [])) : W p l e room_1 s m #[Value.ref b] below meth c H locs cells slots Q (F0 m 706 ls []) := by
  obtain ⟨v, D1, E1, D2, E2, h1, h2, h3⟩ := L_price (xs (i + 1)) σ.1 σ.2 hI
  obtain ⟨hx, hb, -⟩ := id C
  refine lv_aload_n hx hb dL_706 rfl (lv_at hl 1 rfl) ?_
  refine la_arg (j := 1) C hl hS (by omega) (by decide) dL_707 dL_708 dL_709 dL_710 dL_711 ?_
  refine la_call (k := 0) (me := 120) (d := 6) (xa := [xs (i + 1)]) (rest := []) (i4 := 1) (ci := 9) (σ' := (D1, E1)) C h1 rfl rfl rfl rfl (hasW_in (i := 929) (by decide +kernel)) (by decide) dL_712 hl.1 (Nat.le_of_ble_eq_true rfl) hcs rfl hW hS (fun H locs hW hS => ?_)
  refine lv_aload_n hx hb dL_715 rfl (lv_at hl 2 rfl) ?_
  refine la_arg (j := 1) C hl hS (by omega) (by decide) dL_716 dL_717 dL_718 dL_719 dL_720 ?_
  refine la_call (k := 100) (me := 208) (d := 4) (xa := [xs (i + 1)]) (rest := [.int v]) (i4 := 1) (ci := 10) (σ' := (D2, E2)) C h2 rfl rfl rfl rfl (hasW_in (i := 1596) (by decide +kernel)) (by decide) dL_721 hl.1 (Nat.le_of_ble_eq_true rfl) hcs rfl hW hS (fun H locs hW hS => ?_)
  exact lv_icmp_eq (tgt := 1435) hx hb dL_724 (by decide) (fun _ => next (D2, E2) H locs h3 hW hS) (fun q => absurd rfl q)
theorem la_c19 (C : LC p s m c b L xs ad un cA dg adV) {i : Nat} (hi : i + 6 ≤ L) (hl : lv_has ls 4 (la_lv ad b i)) (hcs : cells ≤ 600000 ∧ slots ≤ 7302250) {σ : pSt} (hI : Inv σ.1) (hW : pWo Sh ad un cA dg σ H) (hS : va_S (fun q => s.heap.size ≤ q) s.heap H locs) (next : ∀ (σ' : pSt) (H' : Heap) (locs' : List Loc), Inv σ'.1 → pWo Sh ad un cA dg σ' H' → va_S (fun q => s.heap.size ≤ q) s.heap H' locs' → W p l e room_1 s m #[Value.ref b] below meth c H' locs' cells slots Q (F0 m 1435 ls [])) : W p l e room_1 s m #[Value.ref b] below meth c H locs cells slots Q (F0 m 729 ls []) := by
  obtain ⟨v, D1, E1, D2, E2, h1, h2, h3⟩ := L_swap (xs (i + 1)) σ.1 σ.2 hI
  obtain ⟨hx, hb, -⟩ := id C
  refine lv_aload_n hx hb dL_729 rfl (lv_at hl 1 rfl) ?_
  refine la_arg (j := 1) C hl hS (by omega) (by decide) dL_730 dL_731 dL_732 dL_733 dL_734 ?_
  refine la_call (k := 0) (me := 121) (d := 1) (xa := [xs (i + 1)]) (rest := []) (i4 := 1) (ci := 9) (σ' := (D1, E1)) C h1 rfl rfl rfl rfl (hasW_in (i := 939) (by decide +kernel)) (by decide) dL_735 hl.1 (Nat.le_of_ble_eq_true rfl) hcs rfl hW hS (fun H locs hW hS => ?_)
  refine lv_aload_n hx hb dL_738 rfl (lv_at hl 2 rfl) ?_
  refine la_arg (j := 1) C hl hS (by omega) (by decide) dL_739 dL_740 dL_741 dL_742 dL_743 ?_
  refine la_call (k := 100) (me := 209) (d := 2) (xa := [xs (i + 1)]) (rest := [.int v]) (i4 := 1) (ci := 10) (σ' := (D2, E2)) C h2 rfl rfl rfl rfl (hasW_in (i := 1600) (by decide +kernel)) (by decide) dL_744 hl.1 (Nat.le_of_ble_eq_true rfl) hcs rfl hW hS (fun H locs hW hS => ?_)
  exact lv_icmp_eq (tgt := 1435) hx hb dL_747 (by decide) (fun _ => next (D2, E2) H locs h3 hW hS) (fun q => absurd rfl q)
theorem la_c20 (C : LC p s m c b L xs ad un cA dg adV) {i : Nat} (hi : i + 6 ≤ L) (hl : lv_has ls 4 (la_lv ad b i)) (hcs : cells ≤ 600000 ∧ slots ≤ 7302250) {σ : pSt} (hI : Inv σ.1) (hW : pWo Sh ad un cA dg σ H) (hS : va_S (fun q => s.heap.size ≤ q) s.heap H locs) (next : ∀ (σ' : pSt) (H' : Heap) (locs' : List Loc), Inv σ'.1 → pWo Sh ad un cA dg σ' H' → va_S (fun q => s.heap.size ≤ q) s.heap H' locs' → W p l e room_1 s m #[Value.ref b] below meth c H' locs' cells slots Q (F0 m 1435 ls [])) : W p l e room_1 s m #[Value.ref b] below meth c H locs cells slots Q (F0 m 752 ls []) := by
  obtain ⟨v, D1, E1, D2, E2, h1, h2, h3⟩ := L_mend (xs (i + 1)) σ.1 σ.2 hI
  obtain ⟨hx, hb, -⟩ := id C
  refine lv_aload_n hx hb dL_752 rfl (lv_at hl 1 rfl) ?_
  refine la_arg (j := 1) C hl hS (by omega) (by decide) dL_753 dL_754 dL_755 dL_756 dL_757 ?_
  refine la_call (k := 0) (me := 122) (d := 4) (xa := [xs (i + 1)]) (rest := []) (i4 := 1) (ci := 9) (σ' := (D1, E1)) C h1 rfl rfl rfl rfl (hasW_in (i := 947) (by decide +kernel)) (by decide) dL_758 hl.1 (Nat.le_of_ble_eq_true rfl) hcs rfl hW hS (fun H locs hW hS => ?_)
  refine lv_aload_n hx hb dL_761 rfl (lv_at hl 2 rfl) ?_
  refine la_arg (j := 1) C hl hS (by omega) (by decide) dL_762 dL_763 dL_764 dL_765 dL_766 ?_
  refine la_call (k := 100) (me := 210) (d := 3) (xa := [xs (i + 1)]) (rest := [.int v]) (i4 := 1) (ci := 10) (σ' := (D2, E2)) C h2 rfl rfl rfl rfl (hasW_in (i := 1604) (by decide +kernel)) (by decide) dL_767 hl.1 (Nat.le_of_ble_eq_true rfl) hcs rfl hW hS (fun H locs hW hS => ?_)
  exact lv_icmp_eq (tgt := 1435) hx hb dL_770 (by decide) (fun _ => next (D2, E2) H locs h3 hW hS) (fun q => absurd rfl q)
theorem la_c21 (C : LC p s m c b L xs ad un cA dg adV) {i : Nat} (hi : i + 6 ≤ L) (hl : lv_has ls 4 (la_lv ad b i)) (hcs : cells ≤ 600000 ∧ slots ≤ 7302250) {σ : pSt} (hI : Inv σ.1) (hW : pWo Sh ad un cA dg σ H) (hS : va_S (fun q => s.heap.size ≤ q) s.heap H locs) (next : ∀ (σ' : pSt) (H' : Heap) (locs' : List Loc), Inv σ'.1 → pWo Sh ad un cA dg σ' H' → va_S (fun q => s.heap.size ≤ q) s.heap H' locs' → W p l e room_1 s m #[Value.ref b] below meth c H' locs' cells slots Q (F0 m 1435 ls [])) : W p l e room_1 s m #[Value.ref b] below meth c H locs cells slots Q (F0 m 775 ls []) := by
  obtain ⟨v, D1, E1, D2, E2, h1, h2, h3⟩ := L_hears (xs (i + 1)) (xs (i + 2)) σ.1 σ.2 hI
  obtain ⟨hx, hb, -⟩ := id C
  refine lv_aload_n hx hb dL_775 rfl (lv_at hl 1 rfl) ?_
  refine la_arg (j := 1) C hl hS (by omega) (by decide) dL_776 dL_777 dL_778 dL_779 dL_780 ?_
  refine la_arg (j := 2) C hl hS (by omega) (by decide) dL_781 dL_782 dL_783 dL_784 dL_785 ?_
  refine la_call (k := 0) (me := 124) (d := 3) (xa := [xs (i + 1), xs (i + 2)]) (rest := []) (i4 := 2) (ci := 9) (σ' := (D1, E1)) C h1 rfl rfl rfl rfl (hasW_in (i := 961) (by decide +kernel)) (by decide) dL_786 hl.1 (Nat.le_of_ble_eq_true rfl) hcs rfl hW hS (fun H locs hW hS => ?_)
  refine lv_aload_n hx hb dL_789 rfl (lv_at hl 2 rfl) ?_
  refine la_arg (j := 1) C hl hS (by omega) (by decide) dL_790 dL_791 dL_792 dL_793 dL_794 ?_
  refine la_arg (j := 2) C hl hS (by omega) (by decide) dL_795 dL_796 dL_797 dL_798 dL_799 ?_
  refine la_call (k := 100) (me := 215) (d := 3) (xa := [xs (i + 1), xs (i + 2)]) (rest := [.int v]) (i4 := 2) (ci := 10) (σ' := (D2, E2)) C h2 rfl rfl rfl rfl (hasW_in (i := 1608) (by decide +kernel)) (by decide) dL_800 hl.1 (Nat.le_of_ble_eq_true rfl) hcs rfl hW hS (fun H locs hW hS => ?_)
  exact lv_icmp_eq (tgt := 1435) hx hb dL_803 (by decide) (fun _ => next (D2, E2) H locs h3 hW hS) (fun q => absurd rfl q)
theorem la_c22 (C : LC p s m c b L xs ad un cA dg adV) {i : Nat} (hi : i + 6 ≤ L) (hl : lv_has ls 4 (la_lv ad b i)) (hcs : cells ≤ 600000 ∧ slots ≤ 7302250) {σ : pSt} (hI : Inv σ.1) (hW : pWo Sh ad un cA dg σ H) (hS : va_S (fun q => s.heap.size ≤ q) s.heap H locs) (next : ∀ (σ' : pSt) (H' : Heap) (locs' : List Loc), Inv σ'.1 → pWo Sh ad un cA dg σ' H' → va_S (fun q => s.heap.size ≤ q) s.heap H' locs' → W p l e room_1 s m #[Value.ref b] below meth c H' locs' cells slots Q (F0 m 1435 ls [])) : W p l e room_1 s m #[Value.ref b] below meth c H locs cells slots Q (F0 m 808 ls []) := by
  obtain ⟨v, D1, E1, D2, E2, h1, h2, h3⟩ := L_back (xs (i + 1)) (xs (i + 2)) σ.1 σ.2 hI
  obtain ⟨hx, hb, -⟩ := id C
  refine lv_aload_n hx hb dL_808 rfl (lv_at hl 1 rfl) ?_
  refine la_arg (j := 1) C hl hS (by omega) (by decide) dL_809 dL_810 dL_811 dL_812 dL_813 ?_
  refine la_arg (j := 2) C hl hS (by omega) (by decide) dL_814 dL_815 dL_816 dL_817 dL_818 ?_
  refine la_call (k := 0) (me := 125) (d := 3) (xa := [xs (i + 1), xs (i + 2)]) (rest := []) (i4 := 2) (ci := 9) (σ' := (D1, E1)) C h1 rfl rfl rfl rfl (hasW_in (i := 973) (by decide +kernel)) (by decide) dL_819 hl.1 (Nat.le_of_ble_eq_true rfl) hcs rfl hW hS (fun H locs hW hS => ?_)
  refine lv_aload_n hx hb dL_822 rfl (lv_at hl 2 rfl) ?_
  refine la_arg (j := 1) C hl hS (by omega) (by decide) dL_823 dL_824 dL_825 dL_826 dL_827 ?_
  refine la_arg (j := 2) C hl hS (by omega) (by decide) dL_828 dL_829 dL_830 dL_831 dL_832 ?_
  refine la_call (k := 100) (me := 216) (d := 3) (xa := [xs (i + 1), xs (i + 2)]) (rest := [.int v]) (i4 := 2) (ci := 10) (σ' := (D2, E2)) C h2 rfl rfl rfl rfl (hasW_in (i := 1620) (by decide +kernel)) (by decide) dL_833 hl.1 (Nat.le_of_ble_eq_true rfl) hcs rfl hW hS (fun H locs hW hS => ?_)
  exact lv_icmp_eq (tgt := 1435) hx hb dL_836 (by decide) (fun _ => next (D2, E2) H locs h3 hW hS) (fun q => absurd rfl q)
theorem la_c23 (C : LC p s m c b L xs ad un cA dg adV) {i : Nat} (hi : i + 6 ≤ L) (hl : lv_has ls 4 (la_lv ad b i)) (hcs : cells ≤ 600000 ∧ slots ≤ 7302250) {σ : pSt} (hI : Inv σ.1) (hW : pWo Sh ad un cA dg σ H) (hS : va_S (fun q => s.heap.size ≤ q) s.heap H locs) (next : ∀ (σ' : pSt) (H' : Heap) (locs' : List Loc), Inv σ'.1 → pWo Sh ad un cA dg σ' H' → va_S (fun q => s.heap.size ≤ q) s.heap H' locs' → W p l e room_1 s m #[Value.ref b] below meth c H' locs' cells slots Q (F0 m 1435 ls [])) : W p l e room_1 s m #[Value.ref b] below meth c H locs cells slots Q (F0 m 841 ls []) := by
  obtain ⟨v, D1, E1, D2, E2, h1, h2, h3⟩ := L_laughs (xs (i + 1)) (xs (i + 2)) σ.1 σ.2 hI
  obtain ⟨hx, hb, -⟩ := id C
  refine lv_aload_n hx hb dL_841 rfl (lv_at hl 1 rfl) ?_
  refine la_arg (j := 1) C hl hS (by omega) (by decide) dL_842 dL_843 dL_844 dL_845 dL_846 ?_
  refine la_arg (j := 2) C hl hS (by omega) (by decide) dL_847 dL_848 dL_849 dL_850 dL_851 ?_
  refine la_call (k := 0) (me := 126) (d := 2) (xa := [xs (i + 1), xs (i + 2)]) (rest := []) (i4 := 2) (ci := 9) (σ' := (D1, E1)) C h1 rfl rfl rfl rfl (hasW_in (i := 981) (by decide +kernel)) (by decide) dL_852 hl.1 (Nat.le_of_ble_eq_true rfl) hcs rfl hW hS (fun H locs hW hS => ?_)
  refine lv_aload_n hx hb dL_855 rfl (lv_at hl 2 rfl) ?_
  refine la_arg (j := 1) C hl hS (by omega) (by decide) dL_856 dL_857 dL_858 dL_859 dL_860 ?_
  refine la_arg (j := 2) C hl hS (by omega) (by decide) dL_861 dL_862 dL_863 dL_864 dL_865 ?_
  refine la_call (k := 100) (me := 217) (d := 3) (xa := [xs (i + 1), xs (i + 2)]) (rest := [.int v]) (i4 := 2) (ci := 10) (σ' := (D2, E2)) C h2 rfl rfl rfl rfl (hasW_in (i := 1628) (by decide +kernel)) (by decide) dL_866 hl.1 (Nat.le_of_ble_eq_true rfl) hcs rfl hW hS (fun H locs hW hS => ?_)
  exact lv_icmp_eq (tgt := 1435) hx hb dL_869 (by decide) (fun _ => next (D2, E2) H locs h3 hW hS) (fun q => absurd rfl q)
theorem la_c24 (C : LC p s m c b L xs ad un cA dg adV) {i : Nat} (hi : i + 6 ≤ L) (hl : lv_has ls 4 (la_lv ad b i)) (hcs : cells ≤ 600000 ∧ slots ≤ 7302250) {σ : pSt} (hI : Inv σ.1) (hW : pWo Sh ad un cA dg σ H) (hS : va_S (fun q => s.heap.size ≤ q) s.heap H locs) (next : ∀ (σ' : pSt) (H' : Heap) (locs' : List Loc), Inv σ'.1 → pWo Sh ad un cA dg σ' H' → va_S (fun q => s.heap.size ≤ q) s.heap H' locs' → W p l e room_1 s m #[Value.ref b] below meth c H' locs' cells slots Q (F0 m 1435 ls [])) : W p l e room_1 s m #[Value.ref b] below meth c H locs cells slots Q (F0 m 874 ls []) := by
  obtain ⟨v, D1, E1, D2, E2, h1, h2, h3⟩ := L_hits (xs (i + 1)) σ.1 σ.2 hI
  obtain ⟨hx, hb, -⟩ := id C
  refine lv_aload_n hx hb dL_874 rfl (lv_at hl 1 rfl) ?_
  refine la_arg (j := 1) C hl hS (by omega) (by decide) dL_875 dL_876 dL_877 dL_878 dL_879 ?_
  refine la_call (k := 0) (me := 127) (d := 4) (xa := [xs (i + 1)]) (rest := []) (i4 := 1) (ci := 9) (σ' := (D1, E1)) C h1 rfl rfl rfl rfl (hasW_in (i := 985) (by decide +kernel)) (by decide) dL_880 hl.1 (Nat.le_of_ble_eq_true rfl) hcs rfl hW hS (fun H locs hW hS => ?_)
  refine lv_aload_n hx hb dL_883 rfl (lv_at hl 2 rfl) ?_
  refine la_arg (j := 1) C hl hS (by omega) (by decide) dL_884 dL_885 dL_886 dL_887 dL_888 ?_
  refine la_call (k := 100) (me := 219) (d := 4) (xa := [xs (i + 1)]) (rest := [.int v]) (i4 := 1) (ci := 10) (σ' := (D2, E2)) C h2 rfl rfl rfl rfl (hasW_in (i := 1636) (by decide +kernel)) (by decide) dL_889 hl.1 (Nat.le_of_ble_eq_true rfl) hcs rfl hW hS (fun H locs hW hS => ?_)
  exact lv_icmp_eq (tgt := 1435) hx hb dL_892 (by decide) (fun _ => next (D2, E2) H locs h3 hW hS) (fun q => absurd rfl q)
theorem la_c25 (C : LC p s m c b L xs ad un cA dg adV) {i : Nat} (hi : i + 6 ≤ L) (hl : lv_has ls 4 (la_lv ad b i)) (hcs : cells ≤ 600000 ∧ slots ≤ 7302250) {σ : pSt} (hI : Inv σ.1) (hW : pWo Sh ad un cA dg σ H) (hS : va_S (fun q => s.heap.size ≤ q) s.heap H locs) (next : ∀ (σ' : pSt) (H' : Heap) (locs' : List Loc), Inv σ'.1 → pWo Sh ad un cA dg σ' H' → va_S (fun q => s.heap.size ≤ q) s.heap H' locs' → W p l e room_1 s m #[Value.ref b] below meth c H' locs' cells slots Q (F0 m 1435 ls [])) : W p l e room_1 s m #[Value.ref b] below meth c H locs cells slots Q (F0 m 897 ls []) := by
  obtain ⟨v, D1, E1, D2, E2, h1, h2, h3⟩ := L_on (xs (i + 1)) (xs (i + 2)) (xs (i + 3)) σ.1 σ.2 hI
  obtain ⟨hx, hb, -⟩ := id C
  refine lv_aload_n hx hb dL_897 rfl (lv_at hl 1 rfl) ?_
  refine la_arg (j := 1) C hl hS (by omega) (by decide) dL_898 dL_899 dL_900 dL_901 dL_902 ?_
  refine la_arg (j := 2) C hl hS (by omega) (by decide) dL_903 dL_904 dL_905 dL_906 dL_907 ?_
  refine la_arg (j := 3) C hl hS (by omega) (by decide) dL_908 dL_909 dL_910 dL_911 dL_912 ?_
  refine la_call (k := 0) (me := 128) (d := 3) (xa := [xs (i + 1), xs (i + 2), xs (i + 3)]) (rest := []) (i4 := 3) (ci := 9) (σ' := (D1, E1)) C h1 rfl rfl rfl rfl (hasW_in (i := 995) (by decide +kernel)) (by decide) dL_913 hl.1 (Nat.le_of_ble_eq_true rfl) hcs rfl hW hS (fun H locs hW hS => ?_)
  refine lv_aload_n hx hb dL_916 rfl (lv_at hl 2 rfl) ?_
  refine la_arg (j := 1) C hl hS (by omega) (by decide) dL_917 dL_918 dL_919 dL_920 dL_921 ?_
  refine la_arg (j := 2) C hl hS (by omega) (by decide) dL_922 dL_923 dL_924 dL_925 dL_926 ?_
  refine la_arg (j := 3) C hl hS (by omega) (by decide) dL_927 dL_928 dL_929 dL_930 dL_931 ?_
  refine la_call (k := 100) (me := 220) (d := 3) (xa := [xs (i + 1), xs (i + 2), xs (i + 3)]) (rest := [.int v]) (i4 := 3) (ci := 10) (σ' := (D2, E2)) C h2 rfl rfl rfl rfl (hasW_in (i := 1644) (by decide +kernel)) (by decide) dL_932 hl.1 (Nat.le_of_ble_eq_true rfl) hcs rfl hW hS (fun H locs hW hS => ?_)
  exact lv_icmp_eq (tgt := 1435) hx hb dL_935 (by decide) (fun _ => next (D2, E2) H locs h3 hW hS) (fun q => absurd rfl q)
theorem la_c26 (C : LC p s m c b L xs ad un cA dg adV) {i : Nat} (hi : i + 6 ≤ L) (hl : lv_has ls 4 (la_lv ad b i)) (hcs : cells ≤ 600000 ∧ slots ≤ 7302250) {σ : pSt} (hI : Inv σ.1) (hW : pWo Sh ad un cA dg σ H) (hS : va_S (fun q => s.heap.size ≤ q) s.heap H locs) (next : ∀ (σ' : pSt) (H' : Heap) (locs' : List Loc), Inv σ'.1 → pWo Sh ad un cA dg σ' H' → va_S (fun q => s.heap.size ≤ q) s.heap H' locs' → W p l e room_1 s m #[Value.ref b] below meth c H' locs' cells slots Q (F0 m 1435 ls [])) : W p l e room_1 s m #[Value.ref b] below meth c H locs cells slots Q (F0 m 940 ls []) := by
  obtain ⟨v, D1, E1, D2, E2, h1, h2, h3⟩ := L_keep (xs (i + 1)) σ.1 σ.2 hI
  obtain ⟨hx, hb, -⟩ := id C
  refine lv_aload_n hx hb dL_940 rfl (lv_at hl 1 rfl) ?_
  refine la_arg (j := 1) C hl hS (by omega) (by decide) dL_941 dL_942 dL_943 dL_944 dL_945 ?_
  refine la_call (k := 0) (me := 129) (d := 5) (xa := [xs (i + 1)]) (rest := []) (i4 := 1) (ci := 9) (σ' := (D1, E1)) C h1 rfl rfl rfl rfl (hasW_in (i := 1004) (by decide +kernel)) (by decide) dL_946 hl.1 (Nat.le_of_ble_eq_true rfl) hcs rfl hW hS (fun H locs hW hS => ?_)
  refine lv_aload_n hx hb dL_949 rfl (lv_at hl 2 rfl) ?_
  refine la_arg (j := 1) C hl hS (by omega) (by decide) dL_950 dL_951 dL_952 dL_953 dL_954 ?_
  refine la_call (k := 100) (me := 224) (d := 5) (xa := [xs (i + 1)]) (rest := [.int v]) (i4 := 1) (ci := 10) (σ' := (D2, E2)) C h2 rfl rfl rfl rfl (hasW_in (i := 1648) (by decide +kernel)) (by decide) dL_955 hl.1 (Nat.le_of_ble_eq_true rfl) hcs rfl hW hS (fun H locs hW hS => ?_)
  exact lv_icmp_eq (tgt := 1435) hx hb dL_958 (by decide) (fun _ => next (D2, E2) H locs h3 hW hS) (fun q => absurd rfl q)
theorem la_c27 (C : LC p s m c b L xs ad un cA dg adV) {i : Nat} (hi : i + 6 ≤ L) (hl : lv_has ls 4 (la_lv ad b i)) (hcs : cells ≤ 600000 ∧ slots ≤ 7302250) {σ : pSt} (hI : Inv σ.1) (hW : pWo Sh ad un cA dg σ H) (hS : va_S (fun q => s.heap.size ≤ q) s.heap H locs) (next : ∀ (σ' : pSt) (H' : Heap) (locs' : List Loc), Inv σ'.1 → pWo Sh ad un cA dg σ' H' → va_S (fun q => s.heap.size ≤ q) s.heap H' locs' → W p l e room_1 s m #[Value.ref b] below meth c H' locs' cells slots Q (F0 m 1435 ls [])) : W p l e room_1 s m #[Value.ref b] below meth c H locs cells slots Q (F0 m 963 ls []) := by
  obtain ⟨v, D1, E1, D2, E2, h1, h2, h3⟩ := L_take (xs (i + 1)) σ.1 σ.2 hI
  obtain ⟨hx, hb, -⟩ := id C
  refine lv_aload_n hx hb dL_963 rfl (lv_at hl 1 rfl) ?_
  refine la_arg (j := 1) C hl hS (by omega) (by decide) dL_964 dL_965 dL_966 dL_967 dL_968 ?_
  refine la_call (k := 0) (me := 130) (d := 5) (xa := [xs (i + 1)]) (rest := []) (i4 := 1) (ci := 9) (σ' := (D1, E1)) C h1 rfl rfl rfl rfl (hasW_in (i := 1013) (by decide +kernel)) (by decide) dL_969 hl.1 (Nat.le_of_ble_eq_true rfl) hcs rfl hW hS (fun H locs hW hS => ?_)
  refine lv_aload_n hx hb dL_972 rfl (lv_at hl 2 rfl) ?_
  refine la_arg (j := 1) C hl hS (by omega) (by decide) dL_973 dL_974 dL_975 dL_976 dL_977 ?_
  refine la_call (k := 100) (me := 225) (d := 5) (xa := [xs (i + 1)]) (rest := [.int v]) (i4 := 1) (ci := 10) (σ' := (D2, E2)) C h2 rfl rfl rfl rfl (hasW_in (i := 1659) (by decide +kernel)) (by decide) dL_978 hl.1 (Nat.le_of_ble_eq_true rfl) hcs rfl hW hS (fun H locs hW hS => ?_)
  exact lv_icmp_eq (tgt := 1435) hx hb dL_981 (by decide) (fun _ => next (D2, E2) H locs h3 hW hS) (fun q => absurd rfl q)
theorem la_c28 (C : LC p s m c b L xs ad un cA dg adV) {i : Nat} (hi : i + 6 ≤ L) (hl : lv_has ls 4 (la_lv ad b i)) (hcs : cells ≤ 600000 ∧ slots ≤ 7302250) {σ : pSt} (hI : Inv σ.1) (hW : pWo Sh ad un cA dg σ H) (hS : va_S (fun q => s.heap.size ≤ q) s.heap H locs) (next : ∀ (σ' : pSt) (H' : Heap) (locs' : List Loc), Inv σ'.1 → pWo Sh ad un cA dg σ' H' → va_S (fun q => s.heap.size ≤ q) s.heap H' locs' → W p l e room_1 s m #[Value.ref b] below meth c H' locs' cells slots Q (F0 m 1435 ls [])) : W p l e room_1 s m #[Value.ref b] below meth c H locs cells slots Q (F0 m 986 ls []) := by
  obtain ⟨v, D1, E1, D2, E2, h1, h2, h3⟩ := L_nearer (xs (i + 1)) (xs (i + 2)) (xs (i + 3)) σ.1 σ.2 hI
  obtain ⟨hx, hb, -⟩ := id C
  refine lv_aload_n hx hb dL_986 rfl (lv_at hl 1 rfl) ?_
  refine la_arg (j := 1) C hl hS (by omega) (by decide) dL_987 dL_988 dL_989 dL_990 dL_991 ?_
  refine la_arg (j := 2) C hl hS (by omega) (by decide) dL_992 dL_993 dL_994 dL_995 dL_996 ?_
  refine la_arg (j := 3) C hl hS (by omega) (by decide) dL_997 dL_998 dL_999 dL_1000 dL_1001 ?_
  refine la_call (k := 0) (me := 131) (d := 5) (xa := [xs (i + 1), xs (i + 2), xs (i + 3)]) (rest := []) (i4 := 3) (ci := 9) (σ' := (D1, E1)) C h1 rfl rfl rfl rfl (hasW_in (i := 1017) (by decide +kernel)) (by decide) dL_1002 hl.1 (Nat.le_of_ble_eq_true rfl) hcs rfl hW hS (fun H locs hW hS => ?_)
  refine lv_aload_n hx hb dL_1005 rfl (lv_at hl 2 rfl) ?_
  refine la_arg (j := 1) C hl hS (by omega) (by decide) dL_1006 dL_1007 dL_1008 dL_1009 dL_1010 ?_
  refine la_arg (j := 2) C hl hS (by omega) (by decide) dL_1011 dL_1012 dL_1013 dL_1014 dL_1015 ?_
  refine la_arg (j := 3) C hl hS (by omega) (by decide) dL_1016 dL_1017 dL_1018 dL_1019 dL_1020 ?_
  refine la_call (k := 100) (me := 226) (d := 5) (xa := [xs (i + 1), xs (i + 2), xs (i + 3)]) (rest := [.int v]) (i4 := 3) (ci := 10) (σ' := (D2, E2)) C h2 rfl rfl rfl rfl (hasW_in (i := 1667) (by decide +kernel)) (by decide) dL_1021 hl.1 (Nat.le_of_ble_eq_true rfl) hcs rfl hW hS (fun H locs hW hS => ?_)
  exact lv_icmp_eq (tgt := 1435) hx hb dL_1024 (by decide) (fun _ => next (D2, E2) H locs h3 hW hS) (fun q => absurd rfl q)
theorem la_c29 (C : LC p s m c b L xs ad un cA dg adV) {i : Nat} (hi : i + 6 ≤ L) (hl : lv_has ls 4 (la_lv ad b i)) (hcs : cells ≤ 600000 ∧ slots ≤ 7302250) {σ : pSt} (hI : Inv σ.1) (hW : pWo Sh ad un cA dg σ H) (hS : va_S (fun q => s.heap.size ≤ q) s.heap H locs) (next : ∀ (σ' : pSt) (H' : Heap) (locs' : List Loc), Inv σ'.1 → pWo Sh ad un cA dg σ' H' → va_S (fun q => s.heap.size ≤ q) s.heap H' locs' → W p l e room_1 s m #[Value.ref b] below meth c H' locs' cells slots Q (F0 m 1435 ls [])) : W p l e room_1 s m #[Value.ref b] below meth c H locs cells slots Q (F0 m 1029 ls []) := by
  obtain ⟨v, D1, E1, D2, E2, h1, h2, h3⟩ := L_gives (xs (i + 1)) (xs (i + 2)) (xs (i + 3)) (xs (i + 4)) σ.1 σ.2 hI
  obtain ⟨hx, hb, -⟩ := id C
  refine lv_aload_n hx hb dL_1029 rfl (lv_at hl 1 rfl) ?_
  refine la_arg (j := 1) C hl hS (by omega) (by decide) dL_1030 dL_1031 dL_1032 dL_1033 dL_1034 ?_
  refine la_arg (j := 2) C hl hS (by omega) (by decide) dL_1035 dL_1036 dL_1037 dL_1038 dL_1039 ?_
  refine la_arg (j := 3) C hl hS (by omega) (by decide) dL_1040 dL_1041 dL_1042 dL_1043 dL_1044 ?_
  refine la_arg (j := 4) C hl hS (by omega) (by decide) dL_1045 dL_1046 dL_1047 dL_1048 dL_1049 ?_
  refine la_call (k := 0) (me := 132) (d := 2) (xa := [xs (i + 1), xs (i + 2), xs (i + 3), xs (i + 4)]) (rest := []) (i4 := 4) (ci := 9) (σ' := (D1, E1)) C h1 rfl rfl rfl rfl (hasW_in (i := 1021) (by decide +kernel)) (by decide) dL_1050 hl.1 (Nat.le_of_ble_eq_true rfl) hcs rfl hW hS (fun H locs hW hS => ?_)
  refine lv_aload_n hx hb dL_1053 rfl (lv_at hl 2 rfl) ?_
  refine la_arg (j := 1) C hl hS (by omega) (by decide) dL_1054 dL_1055 dL_1056 dL_1057 dL_1058 ?_
  refine la_arg (j := 2) C hl hS (by omega) (by decide) dL_1059 dL_1060 dL_1061 dL_1062 dL_1063 ?_
  refine la_arg (j := 3) C hl hS (by omega) (by decide) dL_1064 dL_1065 dL_1066 dL_1067 dL_1068 ?_
  refine la_arg (j := 4) C hl hS (by omega) (by decide) dL_1069 dL_1070 dL_1071 dL_1072 dL_1073 ?_
  refine la_call (k := 100) (me := 228) (d := 2) (xa := [xs (i + 1), xs (i + 2), xs (i + 3), xs (i + 4)]) (rest := [.int v]) (i4 := 4) (ci := 10) (σ' := (D2, E2)) C h2 rfl rfl rfl rfl (hasW_in (i := 1671) (by decide +kernel)) (by decide) dL_1074 hl.1 (Nat.le_of_ble_eq_true rfl) hcs rfl hW hS (fun H locs hW hS => ?_)
  exact lv_icmp_eq (tgt := 1435) hx hb dL_1077 (by decide) (fun _ => next (D2, E2) H locs h3 hW hS) (fun q => absurd rfl q)
theorem la_c30 (C : LC p s m c b L xs ad un cA dg adV) {i : Nat} (hi : i + 6 ≤ L) (hl : lv_has ls 4 (la_lv ad b i)) (hcs : cells ≤ 600000 ∧ slots ≤ 7302250) {σ : pSt} (hI : Inv σ.1) (hW : pWo Sh ad un cA dg σ H) (hS : va_S (fun q => s.heap.size ≤ q) s.heap H locs) (next : ∀ (σ' : pSt) (H' : Heap) (locs' : List Loc), Inv σ'.1 → pWo Sh ad un cA dg σ' H' → va_S (fun q => s.heap.size ≤ q) s.heap H' locs' → W p l e room_1 s m #[Value.ref b] below meth c H' locs' cells slots Q (F0 m 1435 ls [])) : W p l e room_1 s m #[Value.ref b] below meth c H locs cells slots Q (F0 m 1082 ls []) := by
  obtain ⟨v, D1, E1, D2, E2, h1, h2, h3⟩ := L_agree (xs (i + 1)) σ.1 σ.2 hI
  obtain ⟨hx, hb, -⟩ := id C
  refine lv_aload_n hx hb dL_1082 rfl (lv_at hl 1 rfl) ?_
  refine la_arg (j := 1) C hl hS (by omega) (by decide) dL_1083 dL_1084 dL_1085 dL_1086 dL_1087 ?_
  refine la_call (k := 0) (me := 133) (d := 3) (xa := [xs (i + 1)]) (rest := []) (i4 := 1) (ci := 9) (σ' := (D1, E1)) C h1 rfl rfl rfl rfl (hasW_in (i := 1032) (by decide +kernel)) (by decide) dL_1088 hl.1 (Nat.le_of_ble_eq_true rfl) hcs rfl hW hS (fun H locs hW hS => ?_)
  refine lv_aload_n hx hb dL_1091 rfl (lv_at hl 2 rfl) ?_
  refine la_arg (j := 1) C hl hS (by omega) (by decide) dL_1092 dL_1093 dL_1094 dL_1095 dL_1096 ?_
  refine la_call (k := 100) (me := 229) (d := 2) (xa := [xs (i + 1)]) (rest := [.int v]) (i4 := 1) (ci := 10) (σ' := (D2, E2)) C h2 rfl rfl rfl rfl (hasW_in (i := 1678) (by decide +kernel)) (by decide) dL_1097 hl.1 (Nat.le_of_ble_eq_true rfl) hcs rfl hW hS (fun H locs hW hS => ?_)
  exact lv_icmp_eq (tgt := 1435) hx hb dL_1100 (by decide) (fun _ => next (D2, E2) H locs h3 hW hS) (fun q => absurd rfl q)
theorem la_c31 (C : LC p s m c b L xs ad un cA dg adV) {i : Nat} (hi : i + 6 ≤ L) (hl : lv_has ls 4 (la_lv ad b i)) (hcs : cells ≤ 600000 ∧ slots ≤ 7302250) {σ : pSt} (hI : Inv σ.1) (hW : pWo Sh ad un cA dg σ H) (hS : va_S (fun q => s.heap.size ≤ q) s.heap H locs) (next : ∀ (σ' : pSt) (H' : Heap) (locs' : List Loc), Inv σ'.1 → pWo Sh ad un cA dg σ' H' → va_S (fun q => s.heap.size ≤ q) s.heap H' locs' → W p l e room_1 s m #[Value.ref b] below meth c H' locs' cells slots Q (F0 m 1435 ls [])) : W p l e room_1 s m #[Value.ref b] below meth c H locs cells slots Q (F0 m 1105 ls []) := by
  obtain ⟨v, D1, E1, D2, E2, h1, h2, h3⟩ := L_moves (xs (i + 1)) (xs (i + 2)) (xs (i + 3)) σ.1 σ.2 hI
  obtain ⟨hx, hb, -⟩ := id C
  refine lv_aload_n hx hb dL_1105 rfl (lv_at hl 1 rfl) ?_
  refine la_arg (j := 1) C hl hS (by omega) (by decide) dL_1106 dL_1107 dL_1108 dL_1109 dL_1110 ?_
  refine la_arg (j := 2) C hl hS (by omega) (by decide) dL_1111 dL_1112 dL_1113 dL_1114 dL_1115 ?_
  refine la_arg (j := 3) C hl hS (by omega) (by decide) dL_1116 dL_1117 dL_1118 dL_1119 dL_1120 ?_
  refine la_call (k := 0) (me := 134) (d := 1) (xa := [xs (i + 1), xs (i + 2), xs (i + 3)]) (rest := []) (i4 := 3) (ci := 9) (σ' := (D1, E1)) C h1 rfl rfl rfl rfl (hasW_in (i := 1045) (by decide +kernel)) (by decide) dL_1121 hl.1 (Nat.le_of_ble_eq_true rfl) hcs rfl hW hS (fun H locs hW hS => ?_)
  refine lv_aload_n hx hb dL_1124 rfl (lv_at hl 2 rfl) ?_
  refine la_arg (j := 1) C hl hS (by omega) (by decide) dL_1125 dL_1126 dL_1127 dL_1128 dL_1129 ?_
  refine la_arg (j := 2) C hl hS (by omega) (by decide) dL_1130 dL_1131 dL_1132 dL_1133 dL_1134 ?_
  refine la_arg (j := 3) C hl hS (by omega) (by decide) dL_1135 dL_1136 dL_1137 dL_1138 dL_1139 ?_
  refine la_call (k := 100) (me := 230) (d := 2) (xa := [xs (i + 1), xs (i + 2), xs (i + 3)]) (rest := [.int v]) (i4 := 3) (ci := 10) (σ' := (D2, E2)) C h2 rfl rfl rfl rfl (hasW_in (i := 1682) (by decide +kernel)) (by decide) dL_1140 hl.1 (Nat.le_of_ble_eq_true rfl) hcs rfl hW hS (fun H locs hW hS => ?_)
  exact lv_icmp_eq (tgt := 1435) hx hb dL_1143 (by decide) (fun _ => next (D2, E2) H locs h3 hW hS) (fun q => absurd rfl q)
theorem la_c32 (C : LC p s m c b L xs ad un cA dg adV) {i : Nat} (hi : i + 6 ≤ L) (hl : lv_has ls 4 (la_lv ad b i)) (hcs : cells ≤ 600000 ∧ slots ≤ 7302250) {σ : pSt} (hI : Inv σ.1) (hW : pWo Sh ad un cA dg σ H) (hS : va_S (fun q => s.heap.size ≤ q) s.heap H locs) (next : ∀ (σ' : pSt) (H' : Heap) (locs' : List Loc), Inv σ'.1 → pWo Sh ad un cA dg σ' H' → va_S (fun q => s.heap.size ≤ q) s.heap H' locs' → W p l e room_1 s m #[Value.ref b] below meth c H' locs' cells slots Q (F0 m 1435 ls [])) : W p l e room_1 s m #[Value.ref b] below meth c H locs cells slots Q (F0 m 1148 ls []) := by
  obtain ⟨v, D1, E1, D2, E2, h1, h2, h3⟩ := L_lostIn (xs (i + 1)) σ.1 σ.2 hI
  obtain ⟨hx, hb, -⟩ := id C
  refine lv_aload_n hx hb dL_1148 rfl (lv_at hl 1 rfl) ?_
  refine la_arg (j := 1) C hl hS (by omega) (by decide) dL_1149 dL_1150 dL_1151 dL_1152 dL_1153 ?_
  refine la_call (k := 0) (me := 135) (d := 5) (xa := [xs (i + 1)]) (rest := []) (i4 := 1) (ci := 9) (σ' := (D1, E1)) C h1 rfl rfl rfl rfl (hasW_in (i := 1062) (by decide +kernel)) (by decide) dL_1154 hl.1 (Nat.le_of_ble_eq_true rfl) hcs rfl hW hS (fun H locs hW hS => ?_)
  refine lv_aload_n hx hb dL_1157 rfl (lv_at hl 2 rfl) ?_
  refine la_arg (j := 1) C hl hS (by omega) (by decide) dL_1158 dL_1159 dL_1160 dL_1161 dL_1162 ?_
  refine la_call (k := 100) (me := 231) (d := 5) (xa := [xs (i + 1)]) (rest := [.int v]) (i4 := 1) (ci := 10) (σ' := (D2, E2)) C h2 rfl rfl rfl rfl (hasW_in (i := 1687) (by decide +kernel)) (by decide) dL_1163 hl.1 (Nat.le_of_ble_eq_true rfl) hcs rfl hW hS (fun H locs hW hS => ?_)
  exact lv_icmp_eq (tgt := 1435) hx hb dL_1166 (by decide) (fun _ => next (D2, E2) H locs h3 hW hS) (fun q => absurd rfl q)
theorem la_c33 (C : LC p s m c b L xs ad un cA dg adV) {i : Nat} (hi : i + 6 ≤ L) (hl : lv_has ls 4 (la_lv ad b i)) (hcs : cells ≤ 600000 ∧ slots ≤ 7302250) {σ : pSt} (hI : Inv σ.1) (hW : pWo Sh ad un cA dg σ H) (hS : va_S (fun q => s.heap.size ≤ q) s.heap H locs) (next : ∀ (σ' : pSt) (H' : Heap) (locs' : List Loc), Inv σ'.1 → pWo Sh ad un cA dg σ' H' → va_S (fun q => s.heap.size ≤ q) s.heap H' locs' → W p l e room_1 s m #[Value.ref b] below meth c H' locs' cells slots Q (F0 m 1435 ls [])) : W p l e room_1 s m #[Value.ref b] below meth c H locs cells slots Q (F0 m 1171 ls []) := by
  obtain ⟨v, D1, E1, D2, E2, h1, h2, h3⟩ := L_turned (xs (i + 1)) σ.1 σ.2 hI
  obtain ⟨hx, hb, -⟩ := id C
  refine lv_aload_n hx hb dL_1171 rfl (lv_at hl 1 rfl) ?_
  refine la_arg (j := 1) C hl hS (by omega) (by decide) dL_1172 dL_1173 dL_1174 dL_1175 dL_1176 ?_
  refine la_call (k := 0) (me := 136) (d := 5) (xa := [xs (i + 1)]) (rest := []) (i4 := 1) (ci := 9) (σ' := (D1, E1)) C h1 rfl rfl rfl rfl (hasW_in (i := 1074) (by decide +kernel)) (by decide) dL_1177 hl.1 (Nat.le_of_ble_eq_true rfl) hcs rfl hW hS (fun H locs hW hS => ?_)
  refine lv_aload_n hx hb dL_1180 rfl (lv_at hl 2 rfl) ?_
  refine la_arg (j := 1) C hl hS (by omega) (by decide) dL_1181 dL_1182 dL_1183 dL_1184 dL_1185 ?_
  refine la_call (k := 100) (me := 232) (d := 4) (xa := [xs (i + 1)]) (rest := [.int v]) (i4 := 1) (ci := 10) (σ' := (D2, E2)) C h2 rfl rfl rfl rfl (hasW_in (i := 1691) (by decide +kernel)) (by decide) dL_1186 hl.1 (Nat.le_of_ble_eq_true rfl) hcs rfl hW hS (fun H locs hW hS => ?_)
  exact lv_icmp_eq (tgt := 1435) hx hb dL_1189 (by decide) (fun _ => next (D2, E2) H locs h3 hW hS) (fun q => absurd rfl q)
theorem la_c34 (C : LC p s m c b L xs ad un cA dg adV) {i : Nat} (hi : i + 6 ≤ L) (hl : lv_has ls 4 (la_lv ad b i)) (hcs : cells ≤ 600000 ∧ slots ≤ 7302250) {σ : pSt} (hI : Inv σ.1) (hW : pWo Sh ad un cA dg σ H) (hS : va_S (fun q => s.heap.size ≤ q) s.heap H locs) (next : ∀ (σ' : pSt) (H' : Heap) (locs' : List Loc), Inv σ'.1 → pWo Sh ad un cA dg σ' H' → va_S (fun q => s.heap.size ≤ q) s.heap H' locs' → W p l e room_1 s m #[Value.ref b] below meth c H' locs' cells slots Q (F0 m 1435 ls [])) : W p l e room_1 s m #[Value.ref b] below meth c H locs cells slots Q (F0 m 1194 ls []) := by
  obtain ⟨v, D1, E1, D2, E2, h1, h2, h3⟩ := L_until (xs (i + 1)) σ.1 σ.2 hI
  obtain ⟨hx, hb, -⟩ := id C
  refine lv_aload_n hx hb dL_1194 rfl (lv_at hl 1 rfl) ?_
  refine la_arg (j := 1) C hl hS (by omega) (by decide) dL_1195 dL_1196 dL_1197 dL_1198 dL_1199 ?_
  refine la_call (k := 0) (me := 137) (d := 6) (xa := [xs (i + 1)]) (rest := []) (i4 := 1) (ci := 9) (σ' := (D1, E1)) C h1 rfl rfl rfl rfl (hasW_in (i := 1084) (by decide +kernel)) (by decide) dL_1200 hl.1 (Nat.le_of_ble_eq_true rfl) hcs rfl hW hS (fun H locs hW hS => ?_)
  refine lv_aload_n hx hb dL_1203 rfl (lv_at hl 2 rfl) ?_
  refine la_arg (j := 1) C hl hS (by omega) (by decide) dL_1204 dL_1205 dL_1206 dL_1207 dL_1208 ?_
  refine la_call (k := 100) (me := 233) (d := 5) (xa := [xs (i + 1)]) (rest := [.int v]) (i4 := 1) (ci := 10) (σ' := (D2, E2)) C h2 rfl rfl rfl rfl (hasW_in (i := 1695) (by decide +kernel)) (by decide) dL_1209 hl.1 (Nat.le_of_ble_eq_true rfl) hcs rfl hW hS (fun H locs hW hS => ?_)
  exact lv_icmp_eq (tgt := 1435) hx hb dL_1212 (by decide) (fun _ => next (D2, E2) H locs h3 hW hS) (fun q => absurd rfl q)
theorem la_c35 (C : LC p s m c b L xs ad un cA dg adV) {i : Nat} (hi : i + 6 ≤ L) (hl : lv_has ls 4 (la_lv ad b i)) (hcs : cells ≤ 600000 ∧ slots ≤ 7302250) {σ : pSt} (hI : Inv σ.1) (hW : pWo Sh ad un cA dg σ H) (hS : va_S (fun q => s.heap.size ≤ q) s.heap H locs) (next : ∀ (σ' : pSt) (H' : Heap) (locs' : List Loc), Inv σ'.1 → pWo Sh ad un cA dg σ' H' → va_S (fun q => s.heap.size ≤ q) s.heap H' locs' → W p l e room_1 s m #[Value.ref b] below meth c H' locs' cells slots Q (F0 m 1435 ls [])) : W p l e room_1 s m #[Value.ref b] below meth c H locs cells slots Q (F0 m 1217 ls []) := by
  obtain ⟨v, D1, E1, D2, E2, h1, h2, h3⟩ := L_heard (xs (i + 1)) (xs (i + 2)) (xs (i + 3)) (xs (i + 4)) σ.1 σ.2 hI
  obtain ⟨hx, hb, -⟩ := id C
  refine lv_aload_n hx hb dL_1217 rfl (lv_at hl 1 rfl) ?_
  refine la_arg (j := 1) C hl hS (by omega) (by decide) dL_1218 dL_1219 dL_1220 dL_1221 dL_1222 ?_
  refine la_arg (j := 2) C hl hS (by omega) (by decide) dL_1223 dL_1224 dL_1225 dL_1226 dL_1227 ?_
  refine la_arg (j := 3) C hl hS (by omega) (by decide) dL_1228 dL_1229 dL_1230 dL_1231 dL_1232 ?_
  refine la_arg (j := 4) C hl hS (by omega) (by decide) dL_1233 dL_1234 dL_1235 dL_1236 dL_1237 ?_
  refine la_call (k := 0) (me := 139) (d := 2) (xa := [xs (i + 1), xs (i + 2), xs (i + 3), xs (i + 4)]) (rest := []) (i4 := 4) (ci := 9) (σ' := (D1, E1)) C h1 rfl rfl rfl rfl (hasW_in (i := 1093) (by decide +kernel)) (by decide) dL_1238 hl.1 (Nat.le_of_ble_eq_true rfl) hcs rfl hW hS (fun H locs hW hS => ?_)
  refine lv_aload_n hx hb dL_1241 rfl (lv_at hl 2 rfl) ?_
  refine la_arg (j := 1) C hl hS (by omega) (by decide) dL_1242 dL_1243 dL_1244 dL_1245 dL_1246 ?_
  refine la_arg (j := 2) C hl hS (by omega) (by decide) dL_1247 dL_1248 dL_1249 dL_1250 dL_1251 ?_
  refine la_arg (j := 3) C hl hS (by omega) (by decide) dL_1252 dL_1253 dL_1254 dL_1255 dL_1256 ?_
  refine la_arg (j := 4) C hl hS (by omega) (by decide) dL_1257 dL_1258 dL_1259 dL_1260 dL_1261 ?_
  refine la_call (k := 100) (me := 234) (d := 3) (xa := [xs (i + 1), xs (i + 2), xs (i + 3), xs (i + 4)]) (rest := [.int v]) (i4 := 4) (ci := 10) (σ' := (D2, E2)) C h2 rfl rfl rfl rfl (hasW_in (i := 1699) (by decide +kernel)) (by decide) dL_1262 hl.1 (Nat.le_of_ble_eq_true rfl) hcs rfl hW hS (fun H locs hW hS => ?_)
  exact lv_icmp_eq (tgt := 1435) hx hb dL_1265 (by decide) (fun _ => next (D2, E2) H locs h3 hW hS) (fun q => absurd rfl q)
theorem la_c36 (C : LC p s m c b L xs ad un cA dg adV) {i : Nat} (hi : i + 6 ≤ L) (hl : lv_has ls 4 (la_lv ad b i)) (hcs : cells ≤ 600000 ∧ slots ≤ 7302250) {σ : pSt} (hI : Inv σ.1) (hW : pWo Sh ad un cA dg σ H) (hS : va_S (fun q => s.heap.size ≤ q) s.heap H locs) (next : ∀ (σ' : pSt) (H' : Heap) (locs' : List Loc), Inv σ'.1 → pWo Sh ad un cA dg σ' H' → va_S (fun q => s.heap.size ≤ q) s.heap H' locs' → W p l e room_1 s m #[Value.ref b] below meth c H' locs' cells slots Q (F0 m 1435 ls [])) : W p l e room_1 s m #[Value.ref b] below meth c H locs cells slots Q (F0 m 1270 ls []) := by
  obtain ⟨v, D1, E1, D2, E2, h1, h2, h3⟩ := L_right (xs (i + 1)) (xs (i + 2)) (xs (i + 3)) σ.1 σ.2 hI
  obtain ⟨hx, hb, -⟩ := id C
  refine lv_aload_n hx hb dL_1270 rfl (lv_at hl 1 rfl) ?_
  refine la_arg (j := 1) C hl hS (by omega) (by decide) dL_1271 dL_1272 dL_1273 dL_1274 dL_1275 ?_
  refine la_arg (j := 2) C hl hS (by omega) (by decide) dL_1276 dL_1277 dL_1278 dL_1279 dL_1280 ?_
  refine la_arg (j := 3) C hl hS (by omega) (by decide) dL_1281 dL_1282 dL_1283 dL_1284 dL_1285 ?_
  refine la_call (k := 0) (me := 140) (d := 1) (xa := [xs (i + 1), xs (i + 2), xs (i + 3)]) (rest := []) (i4 := 3) (ci := 9) (σ' := (D1, E1)) C h1 rfl rfl rfl rfl (hasW_in (i := 1109) (by decide +kernel)) (by decide) dL_1286 hl.1 (Nat.le_of_ble_eq_true rfl) hcs rfl hW hS (fun H locs hW hS => ?_)
  refine lv_aload_n hx hb dL_1289 rfl (lv_at hl 2 rfl) ?_
  refine la_arg (j := 1) C hl hS (by omega) (by decide) dL_1290 dL_1291 dL_1292 dL_1293 dL_1294 ?_
  refine la_arg (j := 2) C hl hS (by omega) (by decide) dL_1295 dL_1296 dL_1297 dL_1298 dL_1299 ?_
  refine la_arg (j := 3) C hl hS (by omega) (by decide) dL_1300 dL_1301 dL_1302 dL_1303 dL_1304 ?_
  refine la_call (k := 100) (me := 235) (d := 1) (xa := [xs (i + 1), xs (i + 2), xs (i + 3)]) (rest := [.int v]) (i4 := 3) (ci := 10) (σ' := (D2, E2)) C h2 rfl rfl rfl rfl (hasW_in (i := 1703) (by decide +kernel)) (by decide) dL_1305 hl.1 (Nat.le_of_ble_eq_true rfl) hcs rfl hW hS (fun H locs hW hS => ?_)
  exact lv_icmp_eq (tgt := 1435) hx hb dL_1308 (by decide) (fun _ => next (D2, E2) H locs h3 hW hS) (fun q => absurd rfl q)
theorem la_c37 (C : LC p s m c b L xs ad un cA dg adV) {i : Nat} (hi : i + 6 ≤ L) (hl : lv_has ls 4 (la_lv ad b i)) (hcs : cells ≤ 600000 ∧ slots ≤ 7302250) {σ : pSt} (hI : Inv σ.1) (hW : pWo Sh ad un cA dg σ H) (hS : va_S (fun q => s.heap.size ≤ q) s.heap H locs) (next : ∀ (σ' : pSt) (H' : Heap) (locs' : List Loc), Inv σ'.1 → pWo Sh ad un cA dg σ' H' → va_S (fun q => s.heap.size ≤ q) s.heap H' locs' → W p l e room_1 s m #[Value.ref b] below meth c H' locs' cells slots Q (F0 m 1435 ls [])) : W p l e room_1 s m #[Value.ref b] below meth c H locs cells slots Q (F0 m 1313 ls []) := by
  obtain ⟨v, D1, E1, D2, E2, h1, h2, h3⟩ := L_fit (xs (i + 1)) (xs (i + 2)) σ.1 σ.2 hI
  obtain ⟨hx, hb, -⟩ := id C
  refine lv_aload_n hx hb dL_1313 rfl (lv_at hl 1 rfl) ?_
  refine la_arg (j := 1) C hl hS (by omega) (by decide) dL_1314 dL_1315 dL_1316 dL_1317 dL_1318 ?_
  refine la_arg (j := 2) C hl hS (by omega) (by decide) dL_1319 dL_1320 dL_1321 dL_1322 dL_1323 ?_
  refine la_call (k := 0) (me := 141) (d := 2) (xa := [xs (i + 1), xs (i + 2)]) (rest := []) (i4 := 2) (ci := 9) (σ' := (D1, E1)) C h1 rfl rfl rfl rfl (hasW_in (i := 1121) (by decide +kernel)) (by decide) dL_1324 hl.1 (Nat.le_of_ble_eq_true rfl) hcs rfl hW hS (fun H locs hW hS => ?_)
  refine lv_aload_n hx hb dL_1327 rfl (lv_at hl 2 rfl) ?_
  refine la_arg (j := 1) C hl hS (by omega) (by decide) dL_1328 dL_1329 dL_1330 dL_1331 dL_1332 ?_
  refine la_arg (j := 2) C hl hS (by omega) (by decide) dL_1333 dL_1334 dL_1335 dL_1336 dL_1337 ?_
  refine la_call (k := 100) (me := 238) (d := 2) (xa := [xs (i + 1), xs (i + 2)]) (rest := [.int v]) (i4 := 2) (ci := 10) (σ' := (D2, E2)) C h2 rfl rfl rfl rfl (hasW_in (i := 1707) (by decide +kernel)) (by decide) dL_1338 hl.1 (Nat.le_of_ble_eq_true rfl) hcs rfl hW hS (fun H locs hW hS => ?_)
  exact lv_icmp_eq (tgt := 1435) hx hb dL_1341 (by decide) (fun _ => next (D2, E2) H locs h3 hW hS) (fun q => absurd rfl q)
theorem la_c38 (C : LC p s m c b L xs ad un cA dg adV) {i : Nat} (hi : i + 6 ≤ L) (hl : lv_has ls 4 (la_lv ad b i)) (hcs : cells ≤ 600000 ∧ slots ≤ 7302250) {σ : pSt} (hI : Inv σ.1) (hW : pWo Sh ad un cA dg σ H) (hS : va_S (fun q => s.heap.size ≤ q) s.heap H locs) (next : ∀ (σ' : pSt) (H' : Heap) (locs' : List Loc), Inv σ'.1 → pWo Sh ad un cA dg σ' H' → va_S (fun q => s.heap.size ≤ q) s.heap H' locs' → W p l e room_1 s m #[Value.ref b] below meth c H' locs' cells slots Q (F0 m 1435 ls [])) : W p l e room_1 s m #[Value.ref b] below meth c H locs cells slots Q (F0 m 1346 ls []) := by
  obtain ⟨v, D1, E1, D2, E2, h1, h2, h3⟩ := L_surely (xs (i + 1)) (xs (i + 2)) (xs (i + 3)) σ.1 σ.2 hI
  obtain ⟨hx, hb, -⟩ := id C
  refine lv_aload_n hx hb dL_1346 rfl (lv_at hl 1 rfl) ?_
  refine la_arg (j := 1) C hl hS (by omega) (by decide) dL_1347 dL_1348 dL_1349 dL_1350 dL_1351 ?_
  refine la_arg (j := 2) C hl hS (by omega) (by decide) dL_1352 dL_1353 dL_1354 dL_1355 dL_1356 ?_
  refine la_arg (j := 3) C hl hS (by omega) (by decide) dL_1357 dL_1358 dL_1359 dL_1360 dL_1361 ?_
  refine la_call (k := 0) (me := 142) (d := 2) (xa := [xs (i + 1), xs (i + 2), xs (i + 3)]) (rest := []) (i4 := 3) (ci := 9) (σ' := (D1, E1)) C h1 rfl rfl rfl rfl (hasW_in (i := 1137) (by decide +kernel)) (by decide) dL_1362 hl.1 (Nat.le_of_ble_eq_true rfl) hcs rfl hW hS (fun H locs hW hS => ?_)
  refine lv_aload_n hx hb dL_1365 rfl (lv_at hl 2 rfl) ?_
  refine la_arg (j := 1) C hl hS (by omega) (by decide) dL_1366 dL_1367 dL_1368 dL_1369 dL_1370 ?_
  refine la_arg (j := 2) C hl hS (by omega) (by decide) dL_1371 dL_1372 dL_1373 dL_1374 dL_1375 ?_
  refine la_arg (j := 3) C hl hS (by omega) (by decide) dL_1376 dL_1377 dL_1378 dL_1379 dL_1380 ?_
  refine la_call (k := 100) (me := 239) (d := 2) (xa := [xs (i + 1), xs (i + 2), xs (i + 3)]) (rest := [.int v]) (i4 := 3) (ci := 10) (σ' := (D2, E2)) C h2 rfl rfl rfl rfl (hasW_in (i := 1718) (by decide +kernel)) (by decide) dL_1381 hl.1 (Nat.le_of_ble_eq_true rfl) hcs rfl hW hS (fun H locs hW hS => ?_)
  exact lv_icmp_eq (tgt := 1435) hx hb dL_1384 (by decide) (fun _ => next (D2, E2) H locs h3 hW hS) (fun q => absurd rfl q)
theorem la_c39 (C : LC p s m c b L xs ad un cA dg adV) {i : Nat} (hi : i + 6 ≤ L) (hl : lv_has ls 4 (la_lv ad b i)) (hcs : cells ≤ 600000 ∧ slots ≤ 7302250) {σ : pSt} (hI : Inv σ.1) (hW : pWo Sh ad un cA dg σ H) (hS : va_S (fun q => s.heap.size ≤ q) s.heap H locs) (next : ∀ (σ' : pSt) (H' : Heap) (locs' : List Loc), Inv σ'.1 → pWo Sh ad un cA dg σ' H' → va_S (fun q => s.heap.size ≤ q) s.heap H' locs' → W p l e room_1 s m #[Value.ref b] below meth c H' locs' cells slots Q (F0 m 1435 ls [])) : W p l e room_1 s m #[Value.ref b] below meth c H locs cells slots Q (F0 m 1389 ls []) := by
  obtain ⟨v, D1, E1, D2, E2, h1, h2, h3⟩ := L_next (xs (i + 1)) σ.1 σ.2 hI
  obtain ⟨hx, hb, -⟩ := id C
  refine lv_aload_n hx hb dL_1389 rfl (lv_at hl 1 rfl) ?_
  refine la_arg (j := 1) C hl hS (by omega) (by decide) dL_1390 dL_1391 dL_1392 dL_1393 dL_1394 ?_
  refine la_call (k := 0) (me := 143) (d := 2) (xa := [xs (i + 1)]) (rest := []) (i4 := 1) (ci := 9) (σ' := (D1, E1)) C h1 rfl rfl rfl rfl (hasW_in (i := 1145) (by decide +kernel)) (by decide) dL_1395 hl.1 (Nat.le_of_ble_eq_true rfl) hcs rfl hW hS (fun H locs hW hS => ?_)
  refine lv_aload_n hx hb dL_1398 rfl (lv_at hl 2 rfl) ?_
  refine la_arg (j := 1) C hl hS (by omega) (by decide) dL_1399 dL_1400 dL_1401 dL_1402 dL_1403 ?_
  refine la_call (k := 100) (me := 240) (d := 2) (xa := [xs (i + 1)]) (rest := [.int v]) (i4 := 1) (ci := 10) (σ' := (D2, E2)) C h2 rfl rfl rfl rfl (hasW_in (i := 1722) (by decide +kernel)) (by decide) dL_1404 hl.1 (Nat.le_of_ble_eq_true rfl) hcs rfl hW hS (fun H locs hW hS => ?_)
  exact lv_icmp_eq (tgt := 1435) hx hb dL_1407 (by decide) (fun _ => next (D2, E2) H locs h3 hW hS) (fun q => absurd rfl q)
theorem la_c40 (C : LC p s m c b L xs ad un cA dg adV) {i : Nat} (hi : i + 6 ≤ L) (hl : lv_has ls 4 (la_lv ad b i)) (hcs : cells ≤ 600000 ∧ slots ≤ 7302250) {σ : pSt} (hI : Inv σ.1) (hW : pWo Sh ad un cA dg σ H) (hS : va_S (fun q => s.heap.size ≤ q) s.heap H locs) (next : ∀ (σ' : pSt) (H' : Heap) (locs' : List Loc), Inv σ'.1 → pWo Sh ad un cA dg σ' H' → va_S (fun q => s.heap.size ≤ q) s.heap H' locs' → W p l e room_1 s m #[Value.ref b] below meth c H' locs' cells slots Q (F0 m 1435 ls [])) : W p l e room_1 s m #[Value.ref b] below meth c H locs cells slots Q (F0 m 1412 ls []) := by
  obtain ⟨v, D1, E1, D2, E2, h1, h2, h3⟩ := L_count (xs (i + 1)) σ.1 σ.2 hI
  obtain ⟨hx, hb, -⟩ := id C
  refine lv_aload_n hx hb dL_1412 rfl (lv_at hl 1 rfl) ?_
  refine la_arg (j := 1) C hl hS (by omega) (by decide) dL_1413 dL_1414 dL_1415 dL_1416 dL_1417 ?_
  refine la_call (k := 0) (me := 145) (d := 2) (xa := [xs (i + 1)]) (rest := []) (i4 := 1) (ci := 9) (σ' := (D1, E1)) C h1 rfl rfl rfl rfl (hasW_in (i := 1154) (by decide +kernel)) (by decide) dL_1418 hl.1 (Nat.le_of_ble_eq_true rfl) hcs rfl hW hS (fun H locs hW hS => ?_)
  refine lv_aload_n hx hb dL_1421 rfl (lv_at hl 2 rfl) ?_
  refine la_arg (j := 1) C hl hS (by omega) (by decide) dL_1422 dL_1423 dL_1424 dL_1425 dL_1426 ?_
  refine la_call (k := 100) (me := 241) (d := 2) (xa := [xs (i + 1)]) (rest := [.int v]) (i4 := 1) (ci := 10) (σ' := (D2, E2)) C h2 rfl rfl rfl rfl (hasW_in (i := 1726) (by decide +kernel)) (by decide) dL_1427 hl.1 (Nat.le_of_ble_eq_true rfl) hcs rfl hW hS (fun H locs hW hS => ?_)
  exact lv_icmp_eq (tgt := 1435) hx hb dL_1430 (by decide) (fun _ => next (D2, E2) H locs h3 hW hS) (fun q => absurd rfl q)
end CASES
