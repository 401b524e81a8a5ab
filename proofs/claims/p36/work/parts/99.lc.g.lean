-- 99.lc
section
/-! ===== the law, case by case (by program) ===== -/
theorem lwk {i : Nat} {a b c : Option Value} : ∀ j v, xl_n (lwL i) j = some (some v) → xl_n [some (.float 99), some (.ref 0), some (.ref 138), some (.ref 137), some (xi i), a, b, c] j = some (some v)
  | 0, _, h => h
  | 1, _, h => h
  | 2, _, h => h
  | 3, _, h => h
  | 4, _, h => h
  | 5, _, h => by cases h
  | 6, _, h => by cases h
  | 7, _, h => by cases h
  | j + 8, _, h => by cases h
theorem atZ (x : LSt) (m : MS) (out : Nat → Int) : xl_n (encZ x m out) 137 = some (xL 1 out) := by
  have := xl_n_mid (encL x) (xL 1 out) (encM m)
  rw [lenL137] at this
  exact this
theorem lg_cmp0 (a : Int64) : lg_cmp a a = 0 := by
  unfold lg_cmp
  simp
theorem wI_xb (a : Int) : xb (wI a) := xb_of _
theorem wI_iI (a : Int) : iI (wI a) = iI a := iI_of _
theorem wI_long (a : Int) : (iI a).toInt64 = lI (wI a) := by rw [← wI_iI a, iI_long (wI_xb a)]
theorem xup_0 (g : Nat → Int) (q : Int) : xup g 0 q 0 = q := if_pos rfl
theorem law_c0 {N : Nat} {z : Nat → Int} {Nn rc rs : Nat} {Po : Option (Option Value) → XH → Prop} (i : Nat) (hi : i + 5 ≤ N) (hN : N ≤ 3000) (x : LSt) (m : MS) (out : Nat → Int) (hbx : bdL x) (hbm : bdM m) {Post : LSt → MS → Prop} (hs : sX2_sign (z (i + 1)) x (fun v x' => ∃ q, v = [pI q] ∧ sX3_sign (z (i + 1)) m (fun w m' => (∃ q, w = [pI q]) ∧ Post x' m'))) (kk : ∀ x' m' out', bdL x' → bdM m' → Post x' m' → xn_W (some (N, fun j => iI (z j), xt_E)) Nn mL_law rc rs 1299 (lwL i) [] (encZ x' m' out') Po) : xn_W (some (N, fun j => iI (z j), xt_E)) Nn mL_law rc rs 200 (lwL i) [] (encZ x m out) Po := by
  refine xn_aload_n iL_law_200 rfl ?_
  refine lwA (jn := 1) iL_law_201 iL_law_202 iL_law_204 iL_law_205 iL_law_206 rfl rfl rfl (by omega) hN ?_
  refine lwX (as := [pI (z (i + 1))]) (rest := []) (K := (fun v x' => ∃ q, v = [pI q] ∧ sX3_sign (z (i + 1)) m (fun w m' => (∃ q, w = [pI q]) ∧ Post x' m'))) iL_law_207 vX2_sign mX2_sign_ok lcl rfl rfl (Nat.le_of_ble_eq_true rfl) hbx hs (fun v x' hK hbx' => ?_)
  obtain ⟨q, rfl, hm⟩ := hK
  refine xn_pop iL_law_210 rfl ?_
  refine xn_aload_n iL_law_211 rfl ?_
  refine lwA (jn := 1) iL_law_212 iL_law_213 iL_law_215 iL_law_216 iL_law_217 rfl rfl rfl (by omega) hN ?_
  refine lwM (as := [pI (z (i + 1))]) (rest := []) (K := (fun w m' => (∃ q, w = [pI q]) ∧ Post x' m')) iL_law_218 vX3_sign mX3_sign_ok mcl rfl rfl (Nat.le_of_ble_eq_true rfl) hbm hm (fun w m' hK hbm' => ?_)
  obtain ⟨⟨q2, rfl⟩, hP⟩ := hK
  refine xn_pop iL_law_221 rfl ?_
  exact xn_goto iL_law_222 (kk x' m' out hbx' hbm' hP)
theorem law_c1 {N : Nat} {z : Nat → Int} {Nn rc rs : Nat} {Po : Option (Option Value) → XH → Prop} (i : Nat) (hi : i + 5 ≤ N) (hN : N ≤ 3000) (x : LSt) (m : MS) (out : Nat → Int) (hbx : bdL x) (hbm : bdM m) {Post : LSt → MS → Prop} (hs : sX2_end (z (i + 1)) x (fun v x' => ∃ q, v = [pI q] ∧ sX3_end (z (i + 1)) m (fun w m' => (∃ q, w = [pI q]) ∧ Post x' m'))) (kk : ∀ x' m' out', bdL x' → bdM m' → Post x' m' → xn_W (some (N, fun j => iI (z j), xt_E)) Nn mL_law rc rs 1299 (lwL i) [] (encZ x' m' out') Po) : xn_W (some (N, fun j => iI (z j), xt_E)) Nn mL_law rc rs 225 (lwL i) [] (encZ x m out) Po := by
  refine xn_aload_n iL_law_225 rfl ?_
  refine lwA (jn := 1) iL_law_226 iL_law_227 iL_law_229 iL_law_230 iL_law_231 rfl rfl rfl (by omega) hN ?_
  refine lwX (as := [pI (z (i + 1))]) (rest := []) (K := (fun v x' => ∃ q, v = [pI q] ∧ sX3_end (z (i + 1)) m (fun w m' => (∃ q, w = [pI q]) ∧ Post x' m'))) iL_law_232 vX2_end mX2_end_ok lcl rfl rfl (Nat.le_of_ble_eq_true rfl) hbx hs (fun v x' hK hbx' => ?_)
  obtain ⟨q, rfl, hm⟩ := hK
  refine xn_pop iL_law_235 rfl ?_
  refine xn_aload_n iL_law_236 rfl ?_
  refine lwA (jn := 1) iL_law_237 iL_law_238 iL_law_240 iL_law_241 iL_law_242 rfl rfl rfl (by omega) hN ?_
  refine lwM (as := [pI (z (i + 1))]) (rest := []) (K := (fun w m' => (∃ q, w = [pI q]) ∧ Post x' m')) iL_law_243 vX3_end mX3_end_ok mcl rfl rfl (Nat.le_of_ble_eq_true rfl) hbm hm (fun w m' hK hbm' => ?_)
  obtain ⟨⟨q2, rfl⟩, hP⟩ := hK
  refine xn_pop iL_law_246 rfl ?_
  exact xn_goto iL_law_247 (kk x' m' out hbx' hbm' hP)
theorem law_c2 {N : Nat} {z : Nat → Int} {Nn rc rs : Nat} {Po : Option (Option Value) → XH → Prop} (i : Nat) (hi : i + 5 ≤ N) (hN : N ≤ 3000) (x : LSt) (m : MS) (out : Nat → Int) (hbx : bdL x) (hbm : bdM m) {Post : LSt → MS → Prop} (hs : sX2_start (z (i + 1)) (z (i + 2)) (z (i + 3)) (z (i + 4)) x (fun v x' => ∃ q, v = [pI q] ∧ sX3_start (z (i + 1)) (z (i + 2)) (z (i + 3)) (z (i + 4)) m (fun w m' => (∃ q, w = [pI q]) ∧ Post x' m'))) (kk : ∀ x' m' out', bdL x' → bdM m' → Post x' m' → xn_W (some (N, fun j => iI (z j), xt_E)) Nn mL_law rc rs 1299 (lwL i) [] (encZ x' m' out') Po) : xn_W (some (N, fun j => iI (z j), xt_E)) Nn mL_law rc rs 250 (lwL i) [] (encZ x m out) Po := by
  refine xn_aload_n iL_law_250 rfl ?_
  refine lwA (jn := 1) iL_law_251 iL_law_252 iL_law_254 iL_law_255 iL_law_256 rfl rfl rfl (by omega) hN ?_
  refine lwA (jn := 2) iL_law_257 iL_law_258 iL_law_260 iL_law_261 iL_law_262 rfl rfl rfl (by omega) hN ?_
  refine lwA (jn := 3) iL_law_263 iL_law_264 iL_law_266 iL_law_267 iL_law_268 rfl rfl rfl (by omega) hN ?_
  refine lwA (jn := 4) iL_law_269 iL_law_270 iL_law_272 iL_law_273 iL_law_274 rfl rfl rfl (by omega) hN ?_
  refine lwX (as := [pI (z (i + 1)), pI (z (i + 2)), pI (z (i + 3)), pI (z (i + 4))]) (rest := []) (K := (fun v x' => ∃ q, v = [pI q] ∧ sX3_start (z (i + 1)) (z (i + 2)) (z (i + 3)) (z (i + 4)) m (fun w m' => (∃ q, w = [pI q]) ∧ Post x' m'))) iL_law_275 vX2_start mX2_start_ok lcl rfl rfl (Nat.le_of_ble_eq_true rfl) hbx hs (fun v x' hK hbx' => ?_)
  obtain ⟨q, rfl, hm⟩ := hK
  refine xn_pop iL_law_278 rfl ?_
  refine xn_aload_n iL_law_279 rfl ?_
  refine lwA (jn := 1) iL_law_280 iL_law_281 iL_law_283 iL_law_284 iL_law_285 rfl rfl rfl (by omega) hN ?_
  refine lwA (jn := 2) iL_law_286 iL_law_287 iL_law_289 iL_law_290 iL_law_291 rfl rfl rfl (by omega) hN ?_
  refine lwA (jn := 3) iL_law_292 iL_law_293 iL_law_295 iL_law_296 iL_law_297 rfl rfl rfl (by omega) hN ?_
  refine lwA (jn := 4) iL_law_298 iL_law_299 iL_law_301 iL_law_302 iL_law_303 rfl rfl rfl (by omega) hN ?_
  refine lwM (as := [pI (z (i + 1)), pI (z (i + 2)), pI (z (i + 3)), pI (z (i + 4))]) (rest := []) (K := (fun w m' => (∃ q, w = [pI q]) ∧ Post x' m')) iL_law_304 vX3_start mX3_start_ok mcl rfl rfl (Nat.le_of_ble_eq_true rfl) hbm hm (fun w m' hK hbm' => ?_)
  obtain ⟨⟨q2, rfl⟩, hP⟩ := hK
  refine xn_pop iL_law_307 rfl ?_
  exact xn_goto iL_law_308 (kk x' m' out hbx' hbm' hP)
theorem law_c3 {N : Nat} {z : Nat → Int} {Nn rc rs : Nat} {Po : Option (Option Value) → XH → Prop} (i : Nat) (hi : i + 5 ≤ N) (hN : N ≤ 3000) (x : LSt) (m : MS) (out : Nat → Int) (hbx : bdL x) (hbm : bdM m) {Post : LSt → MS → Prop} (hs : sX2_delays (z (i + 1)) (z (i + 2)) x (fun v x' => ∃ q, v = [pI q] ∧ sX3_delays (z (i + 1)) (z (i + 2)) m (fun w m' => (∃ q, w = [pI q]) ∧ Post x' m'))) (kk : ∀ x' m' out', bdL x' → bdM m' → Post x' m' → xn_W (some (N, fun j => iI (z j), xt_E)) Nn mL_law rc rs 1299 (lwL i) [] (encZ x' m' out') Po) : xn_W (some (N, fun j => iI (z j), xt_E)) Nn mL_law rc rs 311 (lwL i) [] (encZ x m out) Po := by
  refine xn_aload_n iL_law_311 rfl ?_
  refine lwA (jn := 1) iL_law_312 iL_law_313 iL_law_315 iL_law_316 iL_law_317 rfl rfl rfl (by omega) hN ?_
  refine lwA (jn := 2) iL_law_318 iL_law_319 iL_law_321 iL_law_322 iL_law_323 rfl rfl rfl (by omega) hN ?_
  refine lwX (as := [pI (z (i + 1)), pI (z (i + 2))]) (rest := []) (K := (fun v x' => ∃ q, v = [pI q] ∧ sX3_delays (z (i + 1)) (z (i + 2)) m (fun w m' => (∃ q, w = [pI q]) ∧ Post x' m'))) iL_law_324 vX2_delays mX2_delays_ok lcl rfl rfl (Nat.le_of_ble_eq_true rfl) hbx hs (fun v x' hK hbx' => ?_)
  obtain ⟨q, rfl, hm⟩ := hK
  refine xn_pop iL_law_327 rfl ?_
  refine xn_aload_n iL_law_328 rfl ?_
  refine lwA (jn := 1) iL_law_329 iL_law_330 iL_law_332 iL_law_333 iL_law_334 rfl rfl rfl (by omega) hN ?_
  refine lwA (jn := 2) iL_law_335 iL_law_336 iL_law_338 iL_law_339 iL_law_340 rfl rfl rfl (by omega) hN ?_
  refine lwM (as := [pI (z (i + 1)), pI (z (i + 2))]) (rest := []) (K := (fun w m' => (∃ q, w = [pI q]) ∧ Post x' m')) iL_law_341 vX3_delays mX3_delays_ok mcl rfl rfl (Nat.le_of_ble_eq_true rfl) hbm hm (fun w m' hK hbm' => ?_)
  obtain ⟨⟨q2, rfl⟩, hP⟩ := hK
  refine xn_pop iL_law_344 rfl ?_
  exact xn_goto iL_law_345 (kk x' m' out hbx' hbm' hP)
theorem law_c4 {N : Nat} {z : Nat → Int} {Nn rc rs : Nat} {Po : Option (Option Value) → XH → Prop} (i : Nat) (hi : i + 5 ≤ N) (hN : N ≤ 3000) (x : LSt) (m : MS) (out : Nat → Int) (hbx : bdL x) (hbm : bdM m) {Post : LSt → MS → Prop} (hs : sX2_event (z (i + 1)) (z (i + 2)) (z (i + 3)) (z (i + 4)) x (fun v x' => ∃ q, v = [pI q] ∧ sX3_event (z (i + 1)) (z (i + 2)) (z (i + 3)) (z (i + 4)) m (fun w m' => (∃ q, w = [pI q]) ∧ Post x' m'))) (kk : ∀ x' m' out', bdL x' → bdM m' → Post x' m' → xn_W (some (N, fun j => iI (z j), xt_E)) Nn mL_law rc rs 1299 (lwL i) [] (encZ x' m' out') Po) : xn_W (some (N, fun j => iI (z j), xt_E)) Nn mL_law rc rs 348 (lwL i) [] (encZ x m out) Po := by
  refine xn_aload_n iL_law_348 rfl ?_
  refine lwA (jn := 1) iL_law_349 iL_law_350 iL_law_352 iL_law_353 iL_law_354 rfl rfl rfl (by omega) hN ?_
  refine lwA (jn := 2) iL_law_355 iL_law_356 iL_law_358 iL_law_359 iL_law_360 rfl rfl rfl (by omega) hN ?_
  refine lwA (jn := 3) iL_law_361 iL_law_362 iL_law_364 iL_law_365 iL_law_366 rfl rfl rfl (by omega) hN ?_
  refine lwA (jn := 4) iL_law_367 iL_law_368 iL_law_370 iL_law_371 iL_law_372 rfl rfl rfl (by omega) hN ?_
  refine lwX (as := [pI (z (i + 1)), pI (z (i + 2)), pI (z (i + 3)), pI (z (i + 4))]) (rest := []) (K := (fun v x' => ∃ q, v = [pI q] ∧ sX3_event (z (i + 1)) (z (i + 2)) (z (i + 3)) (z (i + 4)) m (fun w m' => (∃ q, w = [pI q]) ∧ Post x' m'))) iL_law_373 vX2_event mX2_event_ok lcl rfl rfl (Nat.le_of_ble_eq_true rfl) hbx hs (fun v x' hK hbx' => ?_)
  obtain ⟨q, rfl, hm⟩ := hK
  refine xn_pop iL_law_376 rfl ?_
  refine xn_aload_n iL_law_377 rfl ?_
  refine lwA (jn := 1) iL_law_378 iL_law_379 iL_law_381 iL_law_382 iL_law_383 rfl rfl rfl (by omega) hN ?_
  refine lwA (jn := 2) iL_law_384 iL_law_385 iL_law_387 iL_law_388 iL_law_389 rfl rfl rfl (by omega) hN ?_
  refine lwA (jn := 3) iL_law_390 iL_law_391 iL_law_393 iL_law_394 iL_law_395 rfl rfl rfl (by omega) hN ?_
  refine lwA (jn := 4) iL_law_396 iL_law_397 iL_law_399 iL_law_400 iL_law_401 rfl rfl rfl (by omega) hN ?_
  refine lwM (as := [pI (z (i + 1)), pI (z (i + 2)), pI (z (i + 3)), pI (z (i + 4))]) (rest := []) (K := (fun w m' => (∃ q, w = [pI q]) ∧ Post x' m')) iL_law_402 vX3_event mX3_event_ok mcl rfl rfl (Nat.le_of_ble_eq_true rfl) hbm hm (fun w m' hK hbm' => ?_)
  obtain ⟨⟨q2, rfl⟩, hP⟩ := hK
  refine xn_pop iL_law_405 rfl ?_
  exact xn_goto iL_law_406 (kk x' m' out hbx' hbm' hP)
theorem law_c5 {N : Nat} {z : Nat → Int} {Nn rc rs : Nat} {Po : Option (Option Value) → XH → Prop} (i : Nat) (hi : i + 5 ≤ N) (hN : N ≤ 3000) (x : LSt) (m : MS) (out : Nat → Int) (hbx : bdL x) (hbm : bdM m) {Post : LSt → MS → Prop} (hs : sX2_events x (fun v x' => ∃ q, v = [pI q] ∧ sX3_events m (fun w m' => (∃ q, w = [pI q]) ∧ Post x' m'))) (kk : ∀ x' m' out', bdL x' → bdM m' → Post x' m' → xn_W (some (N, fun j => iI (z j), xt_E)) Nn mL_law rc rs 1299 (lwL i) [] (encZ x' m' out') Po) : xn_W (some (N, fun j => iI (z j), xt_E)) Nn mL_law rc rs 409 (lwL i) [] (encZ x m out) Po := by
  refine xn_aload_n iL_law_409 rfl ?_
  refine lwX (as := []) (rest := []) (K := (fun v x' => ∃ q, v = [pI q] ∧ sX3_events  m (fun w m' => (∃ q, w = [pI q]) ∧ Post x' m'))) iL_law_410 vX2_events mX2_events_ok lcl rfl rfl (Nat.le_of_ble_eq_true rfl) hbx hs (fun v x' hK hbx' => ?_)
  obtain ⟨q, rfl, hm⟩ := hK
  refine xn_pop iL_law_413 rfl ?_
  refine xn_aload_n iL_law_414 rfl ?_
  refine lwM (as := []) (rest := []) (K := (fun w m' => (∃ q, w = [pI q]) ∧ Post x' m')) iL_law_415 vX3_events mX3_events_ok mcl rfl rfl (Nat.le_of_ble_eq_true rfl) hbm hm (fun w m' hK hbm' => ?_)
  obtain ⟨⟨q2, rfl⟩, hP⟩ := hK
  refine xn_pop iL_law_418 rfl ?_
  exact xn_goto iL_law_419 (kk x' m' out hbx' hbm' hP)
theorem law_c6 {N : Nat} {z : Nat → Int} {Nn rc rs : Nat} {Po : Option (Option Value) → XH → Prop} (i : Nat) (hi : i + 5 ≤ N) (hN : N ≤ 3000) (x : LSt) (m : MS) (out : Nat → Int) (hbx : bdL x) (hbm : bdM m) {Post : LSt → MS → Prop} (hs : sX2_marks (z (i + 1)) (z (i + 2)) x (fun v x' => ∃ q, v = [pI q] ∧ sX3_marks (z (i + 1)) (z (i + 2)) m (fun w m' => (∃ q, w = [pI q]) ∧ Post x' m'))) (kk : ∀ x' m' out', bdL x' → bdM m' → Post x' m' → xn_W (some (N, fun j => iI (z j), xt_E)) Nn mL_law rc rs 1299 (lwL i) [] (encZ x' m' out') Po) : xn_W (some (N, fun j => iI (z j), xt_E)) Nn mL_law rc rs 422 (lwL i) [] (encZ x m out) Po := by
  refine xn_aload_n iL_law_422 rfl ?_
  refine lwA (jn := 1) iL_law_423 iL_law_424 iL_law_426 iL_law_427 iL_law_428 rfl rfl rfl (by omega) hN ?_
  refine lwA (jn := 2) iL_law_429 iL_law_430 iL_law_432 iL_law_433 iL_law_434 rfl rfl rfl (by omega) hN ?_
  refine lwX (as := [pI (z (i + 1)), pI (z (i + 2))]) (rest := []) (K := (fun v x' => ∃ q, v = [pI q] ∧ sX3_marks (z (i + 1)) (z (i + 2)) m (fun w m' => (∃ q, w = [pI q]) ∧ Post x' m'))) iL_law_435 vX2_marks mX2_marks_ok lcl rfl rfl (Nat.le_of_ble_eq_true rfl) hbx hs (fun v x' hK hbx' => ?_)
  obtain ⟨q, rfl, hm⟩ := hK
  refine xn_pop iL_law_438 rfl ?_
  refine xn_aload_n iL_law_439 rfl ?_
  refine lwA (jn := 1) iL_law_440 iL_law_441 iL_law_443 iL_law_444 iL_law_445 rfl rfl rfl (by omega) hN ?_
  refine lwA (jn := 2) iL_law_446 iL_law_447 iL_law_449 iL_law_450 iL_law_451 rfl rfl rfl (by omega) hN ?_
  refine lwM (as := [pI (z (i + 1)), pI (z (i + 2))]) (rest := []) (K := (fun w m' => (∃ q, w = [pI q]) ∧ Post x' m')) iL_law_452 vX3_marks mX3_marks_ok mcl rfl rfl (Nat.le_of_ble_eq_true rfl) hbm hm (fun w m' hK hbm' => ?_)
  obtain ⟨⟨q2, rfl⟩, hP⟩ := hK
  refine xn_pop iL_law_455 rfl ?_
  exact xn_goto iL_law_456 (kk x' m' out hbx' hbm' hP)
theorem law_c7 {N : Nat} {z : Nat → Int} {Nn rc rs : Nat} {Po : Option (Option Value) → XH → Prop} (i : Nat) (hi : i + 5 ≤ N) (hN : N ≤ 3000) (x : LSt) (m : MS) (out : Nat → Int) (hbx : bdL x) (hbm : bdM m) {Post : LSt → MS → Prop} (hs : sX2_idles (z (i + 1)) x (fun v x' => ∃ q, v = [pI q] ∧ sX3_idles (z (i + 1)) m (fun w m' => (∃ q, w = [pI q]) ∧ Post x' m'))) (kk : ∀ x' m' out', bdL x' → bdM m' → Post x' m' → xn_W (some (N, fun j => iI (z j), xt_E)) Nn mL_law rc rs 1299 (lwL i) [] (encZ x' m' out') Po) : xn_W (some (N, fun j => iI (z j), xt_E)) Nn mL_law rc rs 459 (lwL i) [] (encZ x m out) Po := by
  refine xn_aload_n iL_law_459 rfl ?_
  refine lwA (jn := 1) iL_law_460 iL_law_461 iL_law_463 iL_law_464 iL_law_465 rfl rfl rfl (by omega) hN ?_
  refine lwX (as := [pI (z (i + 1))]) (rest := []) (K := (fun v x' => ∃ q, v = [pI q] ∧ sX3_idles (z (i + 1)) m (fun w m' => (∃ q, w = [pI q]) ∧ Post x' m'))) iL_law_466 vX2_idles mX2_idles_ok lcl rfl rfl (Nat.le_of_ble_eq_true rfl) hbx hs (fun v x' hK hbx' => ?_)
  obtain ⟨q, rfl, hm⟩ := hK
  refine xn_pop iL_law_469 rfl ?_
  refine xn_aload_n iL_law_470 rfl ?_
  refine lwA (jn := 1) iL_law_471 iL_law_472 iL_law_474 iL_law_475 iL_law_476 rfl rfl rfl (by omega) hN ?_
  refine lwM (as := [pI (z (i + 1))]) (rest := []) (K := (fun w m' => (∃ q, w = [pI q]) ∧ Post x' m')) iL_law_477 vX3_idles mX3_idles_ok mcl rfl rfl (Nat.le_of_ble_eq_true rfl) hbm hm (fun w m' hK hbm' => ?_)
  obtain ⟨⟨q2, rfl⟩, hP⟩ := hK
  refine xn_pop iL_law_480 rfl ?_
  exact xn_goto iL_law_481 (kk x' m' out hbx' hbm' hP)
theorem vL_source : wr_V mL_source [(0, 10, 13, 13)] := ⟨cwL_source, stL_source, xl_iL, by decide +kernel, by decide +kernel, by decide +kernel, rfl, rfl⟩
theorem hL_source (x : LSt) (out : Nat → Int) (hbx : bdL x) (a b : Int) (ha : xB a) (hb : xB b) : wr_C mL_source [(0, 10, 13, 13)] [.ref 0, xi a, xi b, .ref 137] (encL x ++ [xL 1 out]) (fun v h' => (∃ q, xb q ∧ ((lSrc x (a) ∧ 0 ≤ b ∧ b ≤ 5) ∧ q = wI (fSource x a b)) ∧ v = some (xi 0) ∧ h' = encL x ++ [xL 1 (xup out 0 q)]) ∨ (¬ (lSrc x (a) ∧ 0 ≤ b ∧ b ≤ 5) ∧ v = some (xi 1) ∧ h' = encL x ++ [xL 1 out])) := by
  have g := X2_source_t (K := fun v s' => ((lSrc x (a) ∧ 0 ≤ b ∧ b ≤ 5) ∧ v = [pI (fSource x a b)]) ∧ s' = x) (Pt := fun s' => ¬ (lSrc x (a) ∧ 0 ≤ b ∧ b ≤ 5) ∧ s' = x) a b x ha hb (fun h => ⟨h, rfl⟩) (fun h => ⟨⟨h, rfl⟩, rfl⟩)
  rw [wX_lt (by decide)] at g
  have hc := xt_con (As := [.ref 0, xi a, xi b]) kX2_source yX2_source_y rfl (by decide) (by decide) [some (.ref 0), some (xi a), some (xi b), none] rfl (Nat.le_of_ble_eq_true rfl) (g hbx)
  refine wr2_con FL_source vX2_source rfl rfl (by decide) a b x out hc (fun v h' q => ?_) (fun h' q => ?_)
  · obtain ⟨v', s', e1, e3, -, -, ⟨hc, rfl⟩, e4⟩ := q
    rw [e4] at e3
    match v, e1 with
    | some w, e1 =>
      have e2 : w = .int (iI (fSource x a b)) := (List.cons.inj e1).1
      subst e2
      exact ⟨wI (fSource x a b), wI_xb _, ⟨hc, rfl⟩, by rw [show xi (wI (fSource x a b)) = Value.int (iI (wI (fSource x a b))) from rfl, wI_iI], e3⟩
  · obtain ⟨s', e3, -, hc, e4⟩ := q
    rw [e4] at e3
    exact ⟨hc, e3⟩
theorem law_c8 {N : Nat} {z : Nat → Int} {Nn rc rs : Nat} {Po : Option (Option Value) → XH → Prop} (i : Nat) (hi : i + 5 ≤ N) (hN : N ≤ 3000) (x : LSt) (m : MS) (out : Nat → Int) (hbx : bdL x) (hbm : bdM m) {Post : LSt → MS → Prop} (hz : ∀ j, xB (z (i + j))) (hs : (lSrc x (z (i + 1)) ∧ 0 ≤ z (i + 2) ∧ z (i + 2) ≤ 5 → sX3_source (z (i + 1)) (z (i + 2)) m (fun w m' => (∃ q, w = [pI q]) ∧ Post x m')) ∧ (¬ (lSrc x (z (i + 1)) ∧ 0 ≤ z (i + 2) ∧ z (i + 2) ≤ 5) → sX3_source (z (i + 1)) (z (i + 2)) m (fun w m' => (∃ q, w = [pI q]) ∧ Post x m'))) (kk : ∀ x' m' out', bdL x' → bdM m' → Post x' m' → xn_W (some (N, fun j => iI (z j), xt_E)) Nn mL_law rc rs 1299 (lwL i) [] (encZ x' m' out') Po) : xn_W (some (N, fun j => iI (z j), xt_E)) Nn mL_law (rc + 1) (rs + 6) 484 (lwL i) [] (encZ x m out) Po := by
  refine xn_aload_n iL_law_484 rfl ?_
  refine lwA (jn := 1) iL_law_485 iL_law_486 iL_law_488 iL_law_489 iL_law_490 rfl rfl rfl (by omega) hN ?_
  refine lwA (jn := 2) iL_law_491 iL_law_492 iL_law_494 iL_law_495 iL_law_496 rfl rfl rfl (by omega) hN ?_
  refine xn_aload_n iL_law_497 rfl ?_
  refine lwW (As := [.ref 0, xi (z (i + 1)), xi (z (i + 2)), .ref 137]) (rest := []) iL_law_498 vL_source rfl (Nat.le_of_ble_eq_true rfl) (hL_source x out hbx (z (i + 1)) (z (i + 2)) (hz 1) (hz 2)) (fun q hq hOk => ?_) (fun hbad => ?_)
  · refine xn_istore iL_law_501 rfl (by decide) ?_
    refine xn_aload_n iL_law_503 rfl ?_
    refine lwA (jn := 1) iL_law_504 iL_law_505 iL_law_507 iL_law_508 iL_law_509 rfl rfl rfl (by omega) hN ?_
    refine lwA (jn := 2) iL_law_510 iL_law_511 iL_law_513 iL_law_514 iL_law_515 rfl rfl rfl (by omega) hN ?_
    refine lwM (as := [pI (z (i + 1)), pI (z (i + 2))]) (rest := []) (K := (fun w m' => (∃ q, w = [pI q]) ∧ Post x m')) iL_law_516 vX3_source mX3_source_ok mcl rfl rfl (Nat.le_of_ble_eq_true rfl) hbm (hs.1 hOk.1) (fun w m' hK hbm' => ?_)
    obtain ⟨⟨q2, rfl⟩, hP⟩ := hK
    refine xn_istore iL_law_519 rfl (by decide) ?_
    refine xn_goto iL_law_521 ?_
    exact xn_weak lwk (kk x m' _ hbx hbm' hP)
  · refine xn_istore iL_law_501 rfl (by decide) ?_
    refine xn_aload_n iL_law_503 rfl ?_
    refine lwA (jn := 1) iL_law_504 iL_law_505 iL_law_507 iL_law_508 iL_law_509 rfl rfl rfl (by omega) hN ?_
    refine lwA (jn := 2) iL_law_510 iL_law_511 iL_law_513 iL_law_514 iL_law_515 rfl rfl rfl (by omega) hN ?_
    refine lwM (as := [pI (z (i + 1)), pI (z (i + 2))]) (rest := []) (K := (fun w m' => (∃ q, w = [pI q]) ∧ Post x m')) iL_law_516 vX3_source mX3_source_ok mcl rfl rfl (Nat.le_of_ble_eq_true rfl) hbm (hs.2 hbad) (fun w m' hK hbm' => ?_)
    obtain ⟨⟨q2, rfl⟩, hP⟩ := hK
    refine xn_istore iL_law_519 rfl (by decide) ?_
    refine xn_goto iL_law_521 ?_
    exact xn_weak lwk (kk x m' _ hbx hbm' hP)
theorem vL_session : wr_V mL_session [(0, 10, 13, 13)] := ⟨cwL_session, stL_session, xl_iL, by decide +kernel, by decide +kernel, by decide +kernel, rfl, rfl⟩
theorem hL_session (x : LSt) (out : Nat → Int) (hbx : bdL x) (a b : Int) (ha : xB a) (hb : xB b) : wr_C mL_session [(0, 10, 13, 13)] [.ref 0, xi a, xi b, .ref 137] (encL x ++ [xL 1 out]) (fun v h' => (∃ q, xb q ∧ (((0 ≤ a ∧ a < wZ (x.2.2 0) 1) ∧ 0 ≤ b ∧ b ≤ 7) ∧ q = wI (fSession x a b)) ∧ v = some (xi 0) ∧ h' = encL x ++ [xL 1 (xup out 0 q)]) ∨ (¬ ((0 ≤ a ∧ a < wZ (x.2.2 0) 1) ∧ 0 ≤ b ∧ b ≤ 7) ∧ v = some (xi 1) ∧ h' = encL x ++ [xL 1 out])) := by
  have g := X2_session_t (K := fun v s' => (((0 ≤ a ∧ a < wZ (x.2.2 0) 1) ∧ 0 ≤ b ∧ b ≤ 7) ∧ v = [pI (fSession x a b)]) ∧ s' = x) (Pt := fun s' => ¬ ((0 ≤ a ∧ a < wZ (x.2.2 0) 1) ∧ 0 ≤ b ∧ b ≤ 7) ∧ s' = x) a b x ha hb (fun h => ⟨h, rfl⟩) (fun h => ⟨⟨h, rfl⟩, rfl⟩)
  rw [wX_lt (by decide)] at g
  have hc := xt_con (As := [.ref 0, xi a, xi b]) kX2_session yX2_session_y rfl (by decide) (by decide) [some (.ref 0), some (xi a), some (xi b)] rfl (Nat.le_of_ble_eq_true rfl) (g hbx)
  refine wr2_con FL_session vX2_session rfl rfl (by decide) a b x out hc (fun v h' q => ?_) (fun h' q => ?_)
  · obtain ⟨v', s', e1, e3, -, -, ⟨hc, rfl⟩, e4⟩ := q
    rw [e4] at e3
    match v, e1 with
    | some w, e1 =>
      have e2 : w = .int (iI (fSession x a b)) := (List.cons.inj e1).1
      subst e2
      exact ⟨wI (fSession x a b), wI_xb _, ⟨hc, rfl⟩, by rw [show xi (wI (fSession x a b)) = Value.int (iI (wI (fSession x a b))) from rfl, wI_iI], e3⟩
  · obtain ⟨s', e3, -, hc, e4⟩ := q
    rw [e4] at e3
    exact ⟨hc, e3⟩
theorem law_c9 {N : Nat} {z : Nat → Int} {Nn rc rs : Nat} {Po : Option (Option Value) → XH → Prop} (i : Nat) (hi : i + 5 ≤ N) (hN : N ≤ 3000) (x : LSt) (m : MS) (out : Nat → Int) (hbx : bdL x) (hbm : bdM m) {Post : LSt → MS → Prop} (hz : ∀ j, xB (z (i + j))) (hs : ((0 ≤ z (i + 1) ∧ z (i + 1) < wZ (x.2.2 0) 1) ∧ 0 ≤ z (i + 2) ∧ z (i + 2) ≤ 7 → sX3_session (z (i + 1)) (z (i + 2)) m (fun w m' => (∃ q, w = [pI q]) ∧ Post x m')) ∧ (¬ ((0 ≤ z (i + 1) ∧ z (i + 1) < wZ (x.2.2 0) 1) ∧ 0 ≤ z (i + 2) ∧ z (i + 2) ≤ 7) → sX3_session (z (i + 1)) (z (i + 2)) m (fun w m' => (∃ q, w = [pI q]) ∧ Post x m'))) (kk : ∀ x' m' out', bdL x' → bdM m' → Post x' m' → xn_W (some (N, fun j => iI (z j), xt_E)) Nn mL_law rc rs 1299 (lwL i) [] (encZ x' m' out') Po) : xn_W (some (N, fun j => iI (z j), xt_E)) Nn mL_law (rc + 1) (rs + 6) 524 (lwL i) [] (encZ x m out) Po := by
  refine xn_aload_n iL_law_524 rfl ?_
  refine lwA (jn := 1) iL_law_525 iL_law_526 iL_law_528 iL_law_529 iL_law_530 rfl rfl rfl (by omega) hN ?_
  refine lwA (jn := 2) iL_law_531 iL_law_532 iL_law_534 iL_law_535 iL_law_536 rfl rfl rfl (by omega) hN ?_
  refine xn_aload_n iL_law_537 rfl ?_
  refine lwW (As := [.ref 0, xi (z (i + 1)), xi (z (i + 2)), .ref 137]) (rest := []) iL_law_538 vL_session rfl (Nat.le_of_ble_eq_true rfl) (hL_session x out hbx (z (i + 1)) (z (i + 2)) (hz 1) (hz 2)) (fun q hq hOk => ?_) (fun hbad => ?_)
  · refine xn_istore iL_law_541 rfl (by decide) ?_
    refine xn_aload_n iL_law_543 rfl ?_
    refine lwA (jn := 1) iL_law_544 iL_law_545 iL_law_547 iL_law_548 iL_law_549 rfl rfl rfl (by omega) hN ?_
    refine lwA (jn := 2) iL_law_550 iL_law_551 iL_law_553 iL_law_554 iL_law_555 rfl rfl rfl (by omega) hN ?_
    refine lwM (as := [pI (z (i + 1)), pI (z (i + 2))]) (rest := []) (K := (fun w m' => (∃ q, w = [pI q]) ∧ Post x m')) iL_law_556 vX3_session mX3_session_ok mcl rfl rfl (Nat.le_of_ble_eq_true rfl) hbm (hs.1 hOk.1) (fun w m' hK hbm' => ?_)
    obtain ⟨⟨q2, rfl⟩, hP⟩ := hK
    refine xn_istore iL_law_559 rfl (by decide) ?_
    refine xn_goto iL_law_561 ?_
    exact xn_weak lwk (kk x m' _ hbx hbm' hP)
  · refine xn_istore iL_law_541 rfl (by decide) ?_
    refine xn_aload_n iL_law_543 rfl ?_
    refine lwA (jn := 1) iL_law_544 iL_law_545 iL_law_547 iL_law_548 iL_law_549 rfl rfl rfl (by omega) hN ?_
    refine lwA (jn := 2) iL_law_550 iL_law_551 iL_law_553 iL_law_554 iL_law_555 rfl rfl rfl (by omega) hN ?_
    refine lwM (as := [pI (z (i + 1)), pI (z (i + 2))]) (rest := []) (K := (fun w m' => (∃ q, w = [pI q]) ∧ Post x m')) iL_law_556 vX3_session mX3_session_ok mcl rfl rfl (Nat.le_of_ble_eq_true rfl) hbm (hs.2 hbad) (fun w m' hK hbm' => ?_)
    obtain ⟨⟨q2, rfl⟩, hP⟩ := hK
    refine xn_istore iL_law_559 rfl (by decide) ?_
    refine xn_goto iL_law_561 ?_
    exact xn_weak lwk (kk x m' _ hbx hbm' hP)
theorem law_c10 {N : Nat} {z : Nat → Int} {Nn rc rs : Nat} {Po : Option (Option Value) → XH → Prop} (i : Nat) (hi : i + 5 ≤ N) (hN : N ≤ 3000) (x : LSt) (m : MS) (out : Nat → Int) (hbx : bdL x) (hbm : bdM m) {Post : LSt → MS → Prop} (hs : sX2_at (z (i + 1)) (z (i + 2)) x (fun v x' => ∃ q, v = [pI q] ∧ sX3_at (z (i + 1)) (z (i + 2)) m (fun w m' => (∃ q, w = [pI q]) ∧ Post x' m'))) (kk : ∀ x' m' out', bdL x' → bdM m' → Post x' m' → xn_W (some (N, fun j => iI (z j), xt_E)) Nn mL_law rc rs 1299 (lwL i) [] (encZ x' m' out') Po) : xn_W (some (N, fun j => iI (z j), xt_E)) Nn mL_law rc rs 564 (lwL i) [] (encZ x m out) Po := by
  refine xn_aload_n iL_law_564 rfl ?_
  refine lwA (jn := 1) iL_law_565 iL_law_566 iL_law_568 iL_law_569 iL_law_570 rfl rfl rfl (by omega) hN ?_
  refine lwA (jn := 2) iL_law_571 iL_law_572 iL_law_574 iL_law_575 iL_law_576 rfl rfl rfl (by omega) hN ?_
  refine lwX (as := [pI (z (i + 1)), pI (z (i + 2))]) (rest := []) (K := (fun v x' => ∃ q, v = [pI q] ∧ sX3_at (z (i + 1)) (z (i + 2)) m (fun w m' => (∃ q, w = [pI q]) ∧ Post x' m'))) iL_law_577 vX2_at mX2_at_ok lcl rfl rfl (Nat.le_of_ble_eq_true rfl) hbx hs (fun v x' hK hbx' => ?_)
  obtain ⟨q, rfl, hm⟩ := hK
  refine xn_pop iL_law_580 rfl ?_
  refine xn_aload_n iL_law_581 rfl ?_
  refine lwA (jn := 1) iL_law_582 iL_law_583 iL_law_585 iL_law_586 iL_law_587 rfl rfl rfl (by omega) hN ?_
  refine lwA (jn := 2) iL_law_588 iL_law_589 iL_law_591 iL_law_592 iL_law_593 rfl rfl rfl (by omega) hN ?_
  refine lwM (as := [pI (z (i + 1)), pI (z (i + 2))]) (rest := []) (K := (fun w m' => (∃ q, w = [pI q]) ∧ Post x' m')) iL_law_594 vX3_at mX3_at_ok mcl rfl rfl (Nat.le_of_ble_eq_true rfl) hbm hm (fun w m' hK hbm' => ?_)
  obtain ⟨⟨q2, rfl⟩, hP⟩ := hK
  refine xn_pop iL_law_597 rfl ?_
  exact xn_goto iL_law_598 (kk x' m' out hbx' hbm' hP)
theorem vL_message : wr_V mL_message [(0, 10, 13, 13)] := ⟨cwL_message, stL_message, xl_iL, by decide +kernel, by decide +kernel, by decide +kernel, rfl, rfl⟩
theorem hL_message (x : LSt) (out : Nat → Int) (hbx : bdL x) (a b : Int) (ha : xB a) (hb : xB b) : wr_C mL_message [(0, 10, 13, 13)] [.ref 0, xi a, xi b, .ref 137] (encL x ++ [xL 1 out]) (fun v h' => (∃ q, xb q ∧ ((ofLatest (a) ((x.2.2 0).1 4) 60 ∧ 0 ≤ b ∧ b < 6) ∧ q = wI (fMessage x a b)) ∧ v = some (xi 0) ∧ h' = encL x ++ [xL 1 (xup out 0 q)]) ∨ (¬ (ofLatest (a) ((x.2.2 0).1 4) 60 ∧ 0 ≤ b ∧ b < 6) ∧ v = some (xi 1) ∧ h' = encL x ++ [xL 1 out])) := by
  have g := X2_message_t (K := fun v s' => ((ofLatest (a) ((x.2.2 0).1 4) 60 ∧ 0 ≤ b ∧ b < 6) ∧ v = [pI (fMessage x a b)]) ∧ s' = x) (Pt := fun s' => ¬ (ofLatest (a) ((x.2.2 0).1 4) 60 ∧ 0 ≤ b ∧ b < 6) ∧ s' = x) a b x ha hb (fun h => ⟨h, rfl⟩) (fun h => ⟨⟨h, rfl⟩, rfl⟩)
  rw [wX_lt (by decide)] at g
  have hc := xt_con (As := [.ref 0, xi a, xi b]) kX2_message yX2_message_y rfl (by decide) (by decide) [some (.ref 0), some (xi a), some (xi b), none, none] rfl (Nat.le_of_ble_eq_true rfl) (g hbx)
  refine wr2_con FL_message vX2_message rfl rfl (by decide) a b x out hc (fun v h' q => ?_) (fun h' q => ?_)
  · obtain ⟨v', s', e1, e3, -, -, ⟨hc, rfl⟩, e4⟩ := q
    rw [e4] at e3
    match v, e1 with
    | some w, e1 =>
      have e2 : w = .int (iI (fMessage x a b)) := (List.cons.inj e1).1
      subst e2
      exact ⟨wI (fMessage x a b), wI_xb _, ⟨hc, rfl⟩, by rw [show xi (wI (fMessage x a b)) = Value.int (iI (wI (fMessage x a b))) from rfl, wI_iI], e3⟩
  · obtain ⟨s', e3, -, hc, e4⟩ := q
    rw [e4] at e3
    exact ⟨hc, e3⟩
theorem law_c11 {N : Nat} {z : Nat → Int} {Nn rc rs : Nat} {Po : Option (Option Value) → XH → Prop} (i : Nat) (hi : i + 5 ≤ N) (hN : N ≤ 3000) (x : LSt) (m : MS) (out : Nat → Int) (hbx : bdL x) (hbm : bdM m) {Post : LSt → MS → Prop} (hz : ∀ j, xB (z (i + j))) (hs : (ofLatest (z (i + 1)) ((x.2.2 0).1 4) 60 ∧ 0 ≤ z (i + 2) ∧ z (i + 2) < 6 → sX3_message (z (i + 1)) (z (i + 2)) m (fun w m' => (∃ q, w = [pI q]) ∧ Post x m')) ∧ (¬ (ofLatest (z (i + 1)) ((x.2.2 0).1 4) 60 ∧ 0 ≤ z (i + 2) ∧ z (i + 2) < 6) → sX3_message (z (i + 1)) (z (i + 2)) m (fun w m' => (∃ q, w = [pI q]) ∧ Post x m'))) (kk : ∀ x' m' out', bdL x' → bdM m' → Post x' m' → xn_W (some (N, fun j => iI (z j), xt_E)) Nn mL_law rc rs 1299 (lwL i) [] (encZ x' m' out') Po) : xn_W (some (N, fun j => iI (z j), xt_E)) Nn mL_law (rc + 1) (rs + 6) 601 (lwL i) [] (encZ x m out) Po := by
  refine xn_aload_n iL_law_601 rfl ?_
  refine lwA (jn := 1) iL_law_602 iL_law_603 iL_law_605 iL_law_606 iL_law_607 rfl rfl rfl (by omega) hN ?_
  refine lwA (jn := 2) iL_law_608 iL_law_609 iL_law_611 iL_law_612 iL_law_613 rfl rfl rfl (by omega) hN ?_
  refine xn_aload_n iL_law_614 rfl ?_
  refine lwW (As := [.ref 0, xi (z (i + 1)), xi (z (i + 2)), .ref 137]) (rest := []) iL_law_615 vL_message rfl (Nat.le_of_ble_eq_true rfl) (hL_message x out hbx (z (i + 1)) (z (i + 2)) (hz 1) (hz 2)) (fun q hq hOk => ?_) (fun hbad => ?_)
  · refine xn_istore iL_law_618 rfl (by decide) ?_
    refine xn_aload_n iL_law_620 rfl ?_
    refine lwA (jn := 1) iL_law_621 iL_law_622 iL_law_624 iL_law_625 iL_law_626 rfl rfl rfl (by omega) hN ?_
    refine lwA (jn := 2) iL_law_627 iL_law_628 iL_law_630 iL_law_631 iL_law_632 rfl rfl rfl (by omega) hN ?_
    refine lwM (as := [pI (z (i + 1)), pI (z (i + 2))]) (rest := []) (K := (fun w m' => (∃ q, w = [pI q]) ∧ Post x m')) iL_law_633 vX3_message mX3_message_ok mcl rfl rfl (Nat.le_of_ble_eq_true rfl) hbm (hs.1 hOk.1) (fun w m' hK hbm' => ?_)
    obtain ⟨⟨q2, rfl⟩, hP⟩ := hK
    refine xn_istore iL_law_636 rfl (by decide) ?_
    refine xn_goto iL_law_638 ?_
    exact xn_weak lwk (kk x m' _ hbx hbm' hP)
  · refine xn_istore iL_law_618 rfl (by decide) ?_
    refine xn_aload_n iL_law_620 rfl ?_
    refine lwA (jn := 1) iL_law_621 iL_law_622 iL_law_624 iL_law_625 iL_law_626 rfl rfl rfl (by omega) hN ?_
    refine lwA (jn := 2) iL_law_627 iL_law_628 iL_law_630 iL_law_631 iL_law_632 rfl rfl rfl (by omega) hN ?_
    refine lwM (as := [pI (z (i + 1)), pI (z (i + 2))]) (rest := []) (K := (fun w m' => (∃ q, w = [pI q]) ∧ Post x m')) iL_law_633 vX3_message mX3_message_ok mcl rfl rfl (Nat.le_of_ble_eq_true rfl) hbm (hs.2 hbad) (fun w m' hK hbm' => ?_)
    obtain ⟨⟨q2, rfl⟩, hP⟩ := hK
    refine xn_istore iL_law_636 rfl (by decide) ?_
    refine xn_goto iL_law_638 ?_
    exact xn_weak lwk (kk x m' _ hbx hbm' hP)
theorem law_c12 {N : Nat} {z : Nat → Int} {Nn rc rs : Nat} {Po : Option (Option Value) → XH → Prop} (i : Nat) (hi : i + 5 ≤ N) (hN : N ≤ 3000) (x : LSt) (m : MS) (out : Nat → Int) (hbx : bdL x) (hbm : bdM m) {Post : LSt → MS → Prop} (hs : sX2_sent (z (i + 1)) x (fun v x' => ∃ q, v = [pI q] ∧ sX3_sent (z (i + 1)) m (fun w m' => (∃ q, w = [pI q]) ∧ Post x' m'))) (kk : ∀ x' m' out', bdL x' → bdM m' → Post x' m' → xn_W (some (N, fun j => iI (z j), xt_E)) Nn mL_law rc rs 1299 (lwL i) [] (encZ x' m' out') Po) : xn_W (some (N, fun j => iI (z j), xt_E)) Nn mL_law rc rs 641 (lwL i) [] (encZ x m out) Po := by
  refine xn_aload_n iL_law_641 rfl ?_
  refine lwA (jn := 1) iL_law_642 iL_law_643 iL_law_645 iL_law_646 iL_law_647 rfl rfl rfl (by omega) hN ?_
  refine lwX (as := [pI (z (i + 1))]) (rest := []) (K := (fun v x' => ∃ q, v = [pI q] ∧ sX3_sent (z (i + 1)) m (fun w m' => (∃ q, w = [pI q]) ∧ Post x' m'))) iL_law_648 vX2_sent mX2_sent_ok lcl rfl rfl (Nat.le_of_ble_eq_true rfl) hbx hs (fun v x' hK hbx' => ?_)
  obtain ⟨q, rfl, hm⟩ := hK
  refine xn_pop iL_law_651 rfl ?_
  refine xn_aload_n iL_law_652 rfl ?_
  refine lwA (jn := 1) iL_law_653 iL_law_654 iL_law_656 iL_law_657 iL_law_658 rfl rfl rfl (by omega) hN ?_
  refine lwM (as := [pI (z (i + 1))]) (rest := []) (K := (fun w m' => (∃ q, w = [pI q]) ∧ Post x' m')) iL_law_659 vX3_sent mX3_sent_ok mcl rfl rfl (Nat.le_of_ble_eq_true rfl) hbm hm (fun w m' hK hbm' => ?_)
  obtain ⟨⟨q2, rfl⟩, hP⟩ := hK
  refine xn_pop iL_law_662 rfl ?_
  exact xn_goto iL_law_663 (kk x' m' out hbx' hbm' hP)
theorem law_c13 {N : Nat} {z : Nat → Int} {Nn rc rs : Nat} {Po : Option (Option Value) → XH → Prop} (i : Nat) (hi : i + 5 ≤ N) (hN : N ≤ 3000) (x : LSt) (m : MS) (out : Nat → Int) (hbx : bdL x) (hbm : bdM m) {Post : LSt → MS → Prop} (hs : sX2_stands x (fun v x' => ∃ q, v = [pI q] ∧ sX3_stands m (fun w m' => (∃ q, w = [pI q]) ∧ Post x' m'))) (kk : ∀ x' m' out', bdL x' → bdM m' → Post x' m' → xn_W (some (N, fun j => iI (z j), xt_E)) Nn mL_law rc rs 1299 (lwL i) [] (encZ x' m' out') Po) : xn_W (some (N, fun j => iI (z j), xt_E)) Nn mL_law rc rs 666 (lwL i) [] (encZ x m out) Po := by
  refine xn_aload_n iL_law_666 rfl ?_
  refine lwX (as := []) (rest := []) (K := (fun v x' => ∃ q, v = [pI q] ∧ sX3_stands  m (fun w m' => (∃ q, w = [pI q]) ∧ Post x' m'))) iL_law_667 vX2_stands mX2_stands_ok lcl rfl rfl (Nat.le_of_ble_eq_true rfl) hbx hs (fun v x' hK hbx' => ?_)
  obtain ⟨q, rfl, hm⟩ := hK
  refine xn_pop iL_law_670 rfl ?_
  refine xn_aload_n iL_law_671 rfl ?_
  refine lwM (as := []) (rest := []) (K := (fun w m' => (∃ q, w = [pI q]) ∧ Post x' m')) iL_law_672 vX3_stands mX3_stands_ok mcl rfl rfl (Nat.le_of_ble_eq_true rfl) hbm hm (fun w m' hK hbm' => ?_)
  obtain ⟨⟨q2, rfl⟩, hP⟩ := hK
  refine xn_pop iL_law_675 rfl ?_
  exact xn_goto iL_law_676 (kk x' m' out hbx' hbm' hP)
theorem law_c14 {N : Nat} {z : Nat → Int} {Nn rc rs : Nat} {Po : Option (Option Value) → XH → Prop} (i : Nat) (hi : i + 5 ≤ N) (hN : N ≤ 3000) (x : LSt) (m : MS) (out : Nat → Int) (hbx : bdL x) (hbm : bdM m) {Post : LSt → MS → Prop} (hs : sX2_closed (z (i + 1)) x (fun v x' => ∃ q, v = [pI q] ∧ sX3_closed (z (i + 1)) m (fun w m' => (∃ q, w = [pI q]) ∧ Post x' m'))) (kk : ∀ x' m' out', bdL x' → bdM m' → Post x' m' → xn_W (some (N, fun j => iI (z j), xt_E)) Nn mL_law rc rs 1299 (lwL i) [] (encZ x' m' out') Po) : xn_W (some (N, fun j => iI (z j), xt_E)) Nn mL_law rc rs 679 (lwL i) [] (encZ x m out) Po := by
  refine xn_aload_n iL_law_679 rfl ?_
  refine lwA (jn := 1) iL_law_680 iL_law_681 iL_law_683 iL_law_684 iL_law_685 rfl rfl rfl (by omega) hN ?_
  refine lwX (as := [pI (z (i + 1))]) (rest := []) (K := (fun v x' => ∃ q, v = [pI q] ∧ sX3_closed (z (i + 1)) m (fun w m' => (∃ q, w = [pI q]) ∧ Post x' m'))) iL_law_686 vX2_closed mX2_closed_ok lcl rfl rfl (Nat.le_of_ble_eq_true rfl) hbx hs (fun v x' hK hbx' => ?_)
  obtain ⟨q, rfl, hm⟩ := hK
  refine xn_pop iL_law_689 rfl ?_
  refine xn_aload_n iL_law_690 rfl ?_
  refine lwA (jn := 1) iL_law_691 iL_law_692 iL_law_694 iL_law_695 iL_law_696 rfl rfl rfl (by omega) hN ?_
  refine lwM (as := [pI (z (i + 1))]) (rest := []) (K := (fun w m' => (∃ q, w = [pI q]) ∧ Post x' m')) iL_law_697 vX3_closed mX3_closed_ok mcl rfl rfl (Nat.le_of_ble_eq_true rfl) hbm hm (fun w m' hK hbm' => ?_)
  obtain ⟨⟨q2, rfl⟩, hP⟩ := hK
  refine xn_pop iL_law_700 rfl ?_
  exact xn_goto iL_law_701 (kk x' m' out hbx' hbm' hP)
theorem vL_finals : wr_V mL_finals [(0, 10, 13, 13)] := ⟨cwL_finals, stL_finals, xl_iL, by decide +kernel, by decide +kernel, by decide +kernel, rfl, rfl⟩
theorem hL_finals (x : LSt) (out : Nat → Int) (hbx : bdL x) (a b : Int) (ha : xB a) (hb : xB b) : wr_C mL_finals [(0, 10, 13, 13)] [.ref 0, xi a, xi b, .ref 137] (encL x ++ [xL 1 out]) (fun v h' => (∃ q, xb q ∧ ((ofLatest (a) ((x.2.2 0).1 5) 40 ∧ 0 ≤ b ∧ b < 7) ∧ q = wI (fFinals x a b)) ∧ v = some (xi 0) ∧ h' = encL x ++ [xL 1 (xup out 0 q)]) ∨ (¬ (ofLatest (a) ((x.2.2 0).1 5) 40 ∧ 0 ≤ b ∧ b < 7) ∧ v = some (xi 1) ∧ h' = encL x ++ [xL 1 out])) := by
  have g := X2_finals_t (K := fun v s' => ((ofLatest (a) ((x.2.2 0).1 5) 40 ∧ 0 ≤ b ∧ b < 7) ∧ v = [pI (fFinals x a b)]) ∧ s' = x) (Pt := fun s' => ¬ (ofLatest (a) ((x.2.2 0).1 5) 40 ∧ 0 ≤ b ∧ b < 7) ∧ s' = x) a b x ha hb (fun h => ⟨h, rfl⟩) (fun h => ⟨⟨h, rfl⟩, rfl⟩)
  rw [wX_lt (by decide)] at g
  have hc := xt_con (As := [.ref 0, xi a, xi b]) kX2_finals yX2_finals_y rfl (by decide) (by decide) [some (.ref 0), some (xi a), some (xi b), none] rfl (Nat.le_of_ble_eq_true rfl) (g hbx)
  refine wr2_con FL_finals vX2_finals rfl rfl (by decide) a b x out hc (fun v h' q => ?_) (fun h' q => ?_)
  · obtain ⟨v', s', e1, e3, -, -, ⟨hc, rfl⟩, e4⟩ := q
    rw [e4] at e3
    match v, e1 with
    | some w, e1 =>
      have e2 : w = .int (iI (fFinals x a b)) := (List.cons.inj e1).1
      subst e2
      exact ⟨wI (fFinals x a b), wI_xb _, ⟨hc, rfl⟩, by rw [show xi (wI (fFinals x a b)) = Value.int (iI (wI (fFinals x a b))) from rfl, wI_iI], e3⟩
  · obtain ⟨s', e3, -, hc, e4⟩ := q
    rw [e4] at e3
    exact ⟨hc, e3⟩
theorem law_c15 {N : Nat} {z : Nat → Int} {Nn rc rs : Nat} {Po : Option (Option Value) → XH → Prop} (i : Nat) (hi : i + 5 ≤ N) (hN : N ≤ 3000) (x : LSt) (m : MS) (out : Nat → Int) (hbx : bdL x) (hbm : bdM m) {Post : LSt → MS → Prop} (hz : ∀ j, xB (z (i + j))) (hs : (ofLatest (z (i + 1)) ((x.2.2 0).1 5) 40 ∧ 0 ≤ z (i + 2) ∧ z (i + 2) < 7 → sX3_finals (z (i + 1)) (z (i + 2)) m (fun w m' => (∃ q, w = [pI q]) ∧ Post x m')) ∧ (¬ (ofLatest (z (i + 1)) ((x.2.2 0).1 5) 40 ∧ 0 ≤ z (i + 2) ∧ z (i + 2) < 7) → sX3_finals (z (i + 1)) (z (i + 2)) m (fun w m' => (∃ q, w = [pI q]) ∧ Post x m'))) (kk : ∀ x' m' out', bdL x' → bdM m' → Post x' m' → xn_W (some (N, fun j => iI (z j), xt_E)) Nn mL_law rc rs 1299 (lwL i) [] (encZ x' m' out') Po) : xn_W (some (N, fun j => iI (z j), xt_E)) Nn mL_law (rc + 1) (rs + 6) 704 (lwL i) [] (encZ x m out) Po := by
  refine xn_aload_n iL_law_704 rfl ?_
  refine lwA (jn := 1) iL_law_705 iL_law_706 iL_law_708 iL_law_709 iL_law_710 rfl rfl rfl (by omega) hN ?_
  refine lwA (jn := 2) iL_law_711 iL_law_712 iL_law_714 iL_law_715 iL_law_716 rfl rfl rfl (by omega) hN ?_
  refine xn_aload_n iL_law_717 rfl ?_
  refine lwW (As := [.ref 0, xi (z (i + 1)), xi (z (i + 2)), .ref 137]) (rest := []) iL_law_718 vL_finals rfl (Nat.le_of_ble_eq_true rfl) (hL_finals x out hbx (z (i + 1)) (z (i + 2)) (hz 1) (hz 2)) (fun q hq hOk => ?_) (fun hbad => ?_)
  · refine xn_istore iL_law_721 rfl (by decide) ?_
    refine xn_aload_n iL_law_723 rfl ?_
    refine lwA (jn := 1) iL_law_724 iL_law_725 iL_law_727 iL_law_728 iL_law_729 rfl rfl rfl (by omega) hN ?_
    refine lwA (jn := 2) iL_law_730 iL_law_731 iL_law_733 iL_law_734 iL_law_735 rfl rfl rfl (by omega) hN ?_
    refine lwM (as := [pI (z (i + 1)), pI (z (i + 2))]) (rest := []) (K := (fun w m' => (∃ q, w = [pI q]) ∧ Post x m')) iL_law_736 vX3_finals mX3_finals_ok mcl rfl rfl (Nat.le_of_ble_eq_true rfl) hbm (hs.1 hOk.1) (fun w m' hK hbm' => ?_)
    obtain ⟨⟨q2, rfl⟩, hP⟩ := hK
    refine xn_istore iL_law_739 rfl (by decide) ?_
    refine xn_goto iL_law_741 ?_
    exact xn_weak lwk (kk x m' _ hbx hbm' hP)
  · refine xn_istore iL_law_721 rfl (by decide) ?_
    refine xn_aload_n iL_law_723 rfl ?_
    refine lwA (jn := 1) iL_law_724 iL_law_725 iL_law_727 iL_law_728 iL_law_729 rfl rfl rfl (by omega) hN ?_
    refine lwA (jn := 2) iL_law_730 iL_law_731 iL_law_733 iL_law_734 iL_law_735 rfl rfl rfl (by omega) hN ?_
    refine lwM (as := [pI (z (i + 1)), pI (z (i + 2))]) (rest := []) (K := (fun w m' => (∃ q, w = [pI q]) ∧ Post x m')) iL_law_736 vX3_finals mX3_finals_ok mcl rfl rfl (Nat.le_of_ble_eq_true rfl) hbm (hs.2 hbad) (fun w m' hK hbm' => ?_)
    obtain ⟨⟨q2, rfl⟩, hP⟩ := hK
    refine xn_istore iL_law_739 rfl (by decide) ?_
    refine xn_goto iL_law_741 ?_
    exact xn_weak lwk (kk x m' _ hbx hbm' hP)
theorem law_c16 {N : Nat} {z : Nat → Int} {Nn rc rs : Nat} {Po : Option (Option Value) → XH → Prop} (i : Nat) (hi : i + 5 ≤ N) (hN : N ≤ 3000) (x : LSt) (m : MS) (out : Nat → Int) (hbx : bdL x) (hbm : bdM m) {Post : LSt → MS → Prop} (hs : sX2_kinds (z (i + 1)) x (fun v x' => ∃ q, v = [pI q] ∧ sX3_kinds (z (i + 1)) m (fun w m' => (∃ q, w = [pI q]) ∧ Post x' m'))) (kk : ∀ x' m' out', bdL x' → bdM m' → Post x' m' → xn_W (some (N, fun j => iI (z j), xt_E)) Nn mL_law rc rs 1299 (lwL i) [] (encZ x' m' out') Po) : xn_W (some (N, fun j => iI (z j), xt_E)) Nn mL_law rc rs 744 (lwL i) [] (encZ x m out) Po := by
  refine xn_aload_n iL_law_744 rfl ?_
  refine lwA (jn := 1) iL_law_745 iL_law_746 iL_law_748 iL_law_749 iL_law_750 rfl rfl rfl (by omega) hN ?_
  refine lwX (as := [pI (z (i + 1))]) (rest := []) (K := (fun v x' => ∃ q, v = [pI q] ∧ sX3_kinds (z (i + 1)) m (fun w m' => (∃ q, w = [pI q]) ∧ Post x' m'))) iL_law_751 vX2_kinds mX2_kinds_ok lcl rfl rfl (Nat.le_of_ble_eq_true rfl) hbx hs (fun v x' hK hbx' => ?_)
  obtain ⟨q, rfl, hm⟩ := hK
  refine xn_pop iL_law_754 rfl ?_
  refine xn_aload_n iL_law_755 rfl ?_
  refine lwA (jn := 1) iL_law_756 iL_law_757 iL_law_759 iL_law_760 iL_law_761 rfl rfl rfl (by omega) hN ?_
  refine lwM (as := [pI (z (i + 1))]) (rest := []) (K := (fun w m' => (∃ q, w = [pI q]) ∧ Post x' m')) iL_law_762 vX3_kinds mX3_kinds_ok mcl rfl rfl (Nat.le_of_ble_eq_true rfl) hbm hm (fun w m' hK hbm' => ?_)
  obtain ⟨⟨q2, rfl⟩, hP⟩ := hK
  refine xn_pop iL_law_765 rfl ?_
  exact xn_goto iL_law_766 (kk x' m' out hbx' hbm' hP)
theorem law_c17 {N : Nat} {z : Nat → Int} {Nn rc rs : Nat} {Po : Option (Option Value) → XH → Prop} (i : Nat) (hi : i + 5 ≤ N) (hN : N ≤ 3000) (x : LSt) (m : MS) (out : Nat → Int) (hbx : bdL x) (hbm : bdM m) {Post : LSt → MS → Prop} (hs : sX2_slow x (fun v x' => ∃ q, v = [pI q] ∧ sX3_slow m (fun w m' => (∃ q, w = [pI q]) ∧ Post x' m'))) (kk : ∀ x' m' out', bdL x' → bdM m' → Post x' m' → xn_W (some (N, fun j => iI (z j), xt_E)) Nn mL_law rc rs 1299 (lwL i) [] (encZ x' m' out') Po) : xn_W (some (N, fun j => iI (z j), xt_E)) Nn mL_law rc rs 769 (lwL i) [] (encZ x m out) Po := by
  refine xn_aload_n iL_law_769 rfl ?_
  refine lwX (as := []) (rest := []) (K := (fun v x' => ∃ q, v = [pI q] ∧ sX3_slow  m (fun w m' => (∃ q, w = [pI q]) ∧ Post x' m'))) iL_law_770 vX2_slow mX2_slow_ok lcl rfl rfl (Nat.le_of_ble_eq_true rfl) hbx hs (fun v x' hK hbx' => ?_)
  obtain ⟨q, rfl, hm⟩ := hK
  refine xn_pop iL_law_773 rfl ?_
  refine xn_aload_n iL_law_774 rfl ?_
  refine lwM (as := []) (rest := []) (K := (fun w m' => (∃ q, w = [pI q]) ∧ Post x' m')) iL_law_775 vX3_slow mX3_slow_ok mcl rfl rfl (Nat.le_of_ble_eq_true rfl) hbm hm (fun w m' hK hbm' => ?_)
  obtain ⟨⟨q2, rfl⟩, hP⟩ := hK
  refine xn_pop iL_law_778 rfl ?_
  exact xn_goto iL_law_779 (kk x' m' out hbx' hbm' hP)
theorem law_c18 {N : Nat} {z : Nat → Int} {Nn rc rs : Nat} {Po : Option (Option Value) → XH → Prop} (i : Nat) (hi : i + 5 ≤ N) (hN : N ≤ 3000) (x : LSt) (m : MS) (out : Nat → Int) (hbx : bdL x) (hbm : bdM m) {Post : LSt → MS → Prop} (hs : sX2_span (z (i + 1)) (z (i + 2)) x (fun v x' => ∃ q, v = [pI q] ∧ sX3_span (z (i + 1)) (z (i + 2)) m (fun w m' => (∃ q, w = [pI q]) ∧ Post x' m'))) (kk : ∀ x' m' out', bdL x' → bdM m' → Post x' m' → xn_W (some (N, fun j => iI (z j), xt_E)) Nn mL_law rc rs 1299 (lwL i) [] (encZ x' m' out') Po) : xn_W (some (N, fun j => iI (z j), xt_E)) Nn mL_law rc rs 782 (lwL i) [] (encZ x m out) Po := by
  refine xn_aload_n iL_law_782 rfl ?_
  refine lwA (jn := 1) iL_law_783 iL_law_784 iL_law_786 iL_law_787 iL_law_788 rfl rfl rfl (by omega) hN ?_
  refine lwA (jn := 2) iL_law_789 iL_law_790 iL_law_792 iL_law_793 iL_law_794 rfl rfl rfl (by omega) hN ?_
  refine lwX (as := [pI (z (i + 1)), pI (z (i + 2))]) (rest := []) (K := (fun v x' => ∃ q, v = [pI q] ∧ sX3_span (z (i + 1)) (z (i + 2)) m (fun w m' => (∃ q, w = [pI q]) ∧ Post x' m'))) iL_law_795 vX2_span mX2_span_ok lcl rfl rfl (Nat.le_of_ble_eq_true rfl) hbx hs (fun v x' hK hbx' => ?_)
  obtain ⟨q, rfl, hm⟩ := hK
  refine xn_pop iL_law_798 rfl ?_
  refine xn_aload_n iL_law_799 rfl ?_
  refine lwA (jn := 1) iL_law_800 iL_law_801 iL_law_803 iL_law_804 iL_law_805 rfl rfl rfl (by omega) hN ?_
  refine lwA (jn := 2) iL_law_806 iL_law_807 iL_law_809 iL_law_810 iL_law_811 rfl rfl rfl (by omega) hN ?_
  refine lwM (as := [pI (z (i + 1)), pI (z (i + 2))]) (rest := []) (K := (fun w m' => (∃ q, w = [pI q]) ∧ Post x' m')) iL_law_812 vX3_span mX3_span_ok mcl rfl rfl (Nat.le_of_ble_eq_true rfl) hbm hm (fun w m' hK hbm' => ?_)
  obtain ⟨⟨q2, rfl⟩, hP⟩ := hK
  refine xn_pop iL_law_815 rfl ?_
  exact xn_goto iL_law_816 (kk x' m' out hbx' hbm' hP)
theorem law_c19 {N : Nat} {z : Nat → Int} {Nn rc rs : Nat} {Po : Option (Option Value) → XH → Prop} (i : Nat) (hi : i + 5 ≤ N) (hN : N ≤ 3000) (x : LSt) (m : MS) (out : Nat → Int) (hbx : bdL x) (hbm : bdM m) {Post : LSt → MS → Prop} (hs : sX2_taken x (fun v x' => ∃ q, v = [pI q] ∧ sX3_taken m (fun w m' => (∃ q, w = [pI q]) ∧ Post x' m'))) (kk : ∀ x' m' out', bdL x' → bdM m' → Post x' m' → xn_W (some (N, fun j => iI (z j), xt_E)) Nn mL_law rc rs 1299 (lwL i) [] (encZ x' m' out') Po) : xn_W (some (N, fun j => iI (z j), xt_E)) Nn mL_law rc rs 819 (lwL i) [] (encZ x m out) Po := by
  refine xn_aload_n iL_law_819 rfl ?_
  refine lwX (as := []) (rest := []) (K := (fun v x' => ∃ q, v = [pI q] ∧ sX3_taken  m (fun w m' => (∃ q, w = [pI q]) ∧ Post x' m'))) iL_law_820 vX2_taken mX2_taken_ok lcl rfl rfl (Nat.le_of_ble_eq_true rfl) hbx hs (fun v x' hK hbx' => ?_)
  obtain ⟨q, rfl, hm⟩ := hK
  refine xn_pop iL_law_823 rfl ?_
  refine xn_aload_n iL_law_824 rfl ?_
  refine lwM (as := []) (rest := []) (K := (fun w m' => (∃ q, w = [pI q]) ∧ Post x' m')) iL_law_825 vX3_taken mX3_taken_ok mcl rfl rfl (Nat.le_of_ble_eq_true rfl) hbm hm (fun w m' hK hbm' => ?_)
  obtain ⟨⟨q2, rfl⟩, hP⟩ := hK
  refine xn_pop iL_law_828 rfl ?_
  exact xn_goto iL_law_829 (kk x' m' out hbx' hbm' hP)
theorem law_c20 {N : Nat} {z : Nat → Int} {Nn rc rs : Nat} {Po : Option (Option Value) → XH → Prop} (i : Nat) (hi : i + 5 ≤ N) (hN : N ≤ 3000) (x : LSt) (m : MS) (out : Nat → Int) (hbx : bdL x) (hbm : bdM m) {Post : LSt → MS → Prop} (hs : sX2_holds x (fun v x' => ∃ q, v = [pI q] ∧ sX3_holds m (fun w m' => (∃ q, w = [pI q]) ∧ Post x' m'))) (kk : ∀ x' m' out', bdL x' → bdM m' → Post x' m' → xn_W (some (N, fun j => iI (z j), xt_E)) Nn mL_law rc rs 1299 (lwL i) [] (encZ x' m' out') Po) : xn_W (some (N, fun j => iI (z j), xt_E)) Nn mL_law rc rs 832 (lwL i) [] (encZ x m out) Po := by
  refine xn_aload_n iL_law_832 rfl ?_
  refine lwX (as := []) (rest := []) (K := (fun v x' => ∃ q, v = [pI q] ∧ sX3_holds  m (fun w m' => (∃ q, w = [pI q]) ∧ Post x' m'))) iL_law_833 vX2_holds mX2_holds_ok lcl rfl rfl (Nat.le_of_ble_eq_true rfl) hbx hs (fun v x' hK hbx' => ?_)
  obtain ⟨q, rfl, hm⟩ := hK
  refine xn_pop iL_law_836 rfl ?_
  refine xn_aload_n iL_law_837 rfl ?_
  refine lwM (as := []) (rest := []) (K := (fun w m' => (∃ q, w = [pI q]) ∧ Post x' m')) iL_law_838 vX3_holds mX3_holds_ok mcl rfl rfl (Nat.le_of_ble_eq_true rfl) hbm hm (fun w m' hK hbm' => ?_)
  obtain ⟨⟨q2, rfl⟩, hP⟩ := hK
  refine xn_pop iL_law_841 rfl ?_
  exact xn_goto iL_law_842 (kk x' m' out hbx' hbm' hP)
theorem law_c21 {N : Nat} {z : Nat → Int} {Nn rc rs : Nat} {Po : Option (Option Value) → XH → Prop} (i : Nat) (hi : i + 5 ≤ N) (hN : N ≤ 3000) (x : LSt) (m : MS) (out : Nat → Int) (hbx : bdL x) (hbm : bdM m) {Post : LSt → MS → Prop} (hs : sX2_next x (fun v x' => ∃ q, v = [pI q] ∧ sX3_next m (fun w m' => (∃ q, w = [pI q]) ∧ Post x' m'))) (kk : ∀ x' m' out', bdL x' → bdM m' → Post x' m' → xn_W (some (N, fun j => iI (z j), xt_E)) Nn mL_law rc rs 1299 (lwL i) [] (encZ x' m' out') Po) : xn_W (some (N, fun j => iI (z j), xt_E)) Nn mL_law rc rs 845 (lwL i) [] (encZ x m out) Po := by
  refine xn_aload_n iL_law_845 rfl ?_
  refine lwX (as := []) (rest := []) (K := (fun v x' => ∃ q, v = [pI q] ∧ sX3_next  m (fun w m' => (∃ q, w = [pI q]) ∧ Post x' m'))) iL_law_846 vX2_next mX2_next_ok lcl rfl rfl (Nat.le_of_ble_eq_true rfl) hbx hs (fun v x' hK hbx' => ?_)
  obtain ⟨q, rfl, hm⟩ := hK
  refine xn_pop iL_law_849 rfl ?_
  refine xn_aload_n iL_law_850 rfl ?_
  refine lwM (as := []) (rest := []) (K := (fun w m' => (∃ q, w = [pI q]) ∧ Post x' m')) iL_law_851 vX3_next mX3_next_ok mcl rfl rfl (Nat.le_of_ble_eq_true rfl) hbm hm (fun w m' hK hbm' => ?_)
  obtain ⟨⟨q2, rfl⟩, hP⟩ := hK
  refine xn_pop iL_law_854 rfl ?_
  exact xn_goto iL_law_855 (kk x' m' out hbx' hbm' hP)
theorem law_c22 {N : Nat} {z : Nat → Int} {Nn rc rs : Nat} {Po : Option (Option Value) → XH → Prop} (i : Nat) (hi : i + 5 ≤ N) (hN : N ≤ 3000) (x : LSt) (m : MS) (out : Nat → Int) (hbx : bdL x) (hbm : bdM m) {Post : LSt → MS → Prop} (hs : sX2_ahead (z (i + 1)) x (fun v x' => ∃ q, v = [pI q] ∧ sX3_ahead (z (i + 1)) m (fun w m' => (∃ q, w = [pI q]) ∧ Post x' m'))) (kk : ∀ x' m' out', bdL x' → bdM m' → Post x' m' → xn_W (some (N, fun j => iI (z j), xt_E)) Nn mL_law rc rs 1299 (lwL i) [] (encZ x' m' out') Po) : xn_W (some (N, fun j => iI (z j), xt_E)) Nn mL_law rc rs 858 (lwL i) [] (encZ x m out) Po := by
  refine xn_aload_n iL_law_858 rfl ?_
  refine lwA (jn := 1) iL_law_859 iL_law_860 iL_law_862 iL_law_863 iL_law_864 rfl rfl rfl (by omega) hN ?_
  refine lwX (as := [pI (z (i + 1))]) (rest := []) (K := (fun v x' => ∃ q, v = [pI q] ∧ sX3_ahead (z (i + 1)) m (fun w m' => (∃ q, w = [pI q]) ∧ Post x' m'))) iL_law_865 vX2_ahead mX2_ahead_ok lcl rfl rfl (Nat.le_of_ble_eq_true rfl) hbx hs (fun v x' hK hbx' => ?_)
  obtain ⟨q, rfl, hm⟩ := hK
  refine xn_pop iL_law_868 rfl ?_
  refine xn_aload_n iL_law_869 rfl ?_
  refine lwA (jn := 1) iL_law_870 iL_law_871 iL_law_873 iL_law_874 iL_law_875 rfl rfl rfl (by omega) hN ?_
  refine lwM (as := [pI (z (i + 1))]) (rest := []) (K := (fun w m' => (∃ q, w = [pI q]) ∧ Post x' m')) iL_law_876 vX3_ahead mX3_ahead_ok mcl rfl rfl (Nat.le_of_ble_eq_true rfl) hbm hm (fun w m' hK hbm' => ?_)
  obtain ⟨⟨q2, rfl⟩, hP⟩ := hK
  refine xn_pop iL_law_879 rfl ?_
  exact xn_goto iL_law_880 (kk x' m' out hbx' hbm' hP)
theorem law_c23 {N : Nat} {z : Nat → Int} {Nn rc rs : Nat} {Po : Option (Option Value) → XH → Prop} (i : Nat) (hi : i + 5 ≤ N) (hN : N ≤ 3000) (x : LSt) (m : MS) (out : Nat → Int) (hbx : bdL x) (hbm : bdM m) {Post : LSt → MS → Prop} (hs : sX2_would (z (i + 1)) (z (i + 2)) (z (i + 3)) (z (i + 4)) x (fun v x' => ∃ q, v = [pI q] ∧ sX3_would (z (i + 1)) (z (i + 2)) (z (i + 3)) (z (i + 4)) m (fun w m' => (∃ q, w = [pI q]) ∧ Post x' m'))) (kk : ∀ x' m' out', bdL x' → bdM m' → Post x' m' → xn_W (some (N, fun j => iI (z j), xt_E)) Nn mL_law rc rs 1299 (lwL i) [] (encZ x' m' out') Po) : xn_W (some (N, fun j => iI (z j), xt_E)) Nn mL_law rc rs 883 (lwL i) [] (encZ x m out) Po := by
  refine xn_aload_n iL_law_883 rfl ?_
  refine lwA (jn := 1) iL_law_884 iL_law_885 iL_law_887 iL_law_888 iL_law_889 rfl rfl rfl (by omega) hN ?_
  refine lwA (jn := 2) iL_law_890 iL_law_891 iL_law_893 iL_law_894 iL_law_895 rfl rfl rfl (by omega) hN ?_
  refine lwA (jn := 3) iL_law_896 iL_law_897 iL_law_899 iL_law_900 iL_law_901 rfl rfl rfl (by omega) hN ?_
  refine lwA (jn := 4) iL_law_902 iL_law_903 iL_law_905 iL_law_906 iL_law_907 rfl rfl rfl (by omega) hN ?_
  refine lwX (as := [pI (z (i + 1)), pI (z (i + 2)), pI (z (i + 3)), pI (z (i + 4))]) (rest := []) (K := (fun v x' => ∃ q, v = [pI q] ∧ sX3_would (z (i + 1)) (z (i + 2)) (z (i + 3)) (z (i + 4)) m (fun w m' => (∃ q, w = [pI q]) ∧ Post x' m'))) iL_law_908 vX2_would mX2_would_ok lcl rfl rfl (Nat.le_of_ble_eq_true rfl) hbx hs (fun v x' hK hbx' => ?_)
  obtain ⟨q, rfl, hm⟩ := hK
  refine xn_pop iL_law_911 rfl ?_
  refine xn_aload_n iL_law_912 rfl ?_
  refine lwA (jn := 1) iL_law_913 iL_law_914 iL_law_916 iL_law_917 iL_law_918 rfl rfl rfl (by omega) hN ?_
  refine lwA (jn := 2) iL_law_919 iL_law_920 iL_law_922 iL_law_923 iL_law_924 rfl rfl rfl (by omega) hN ?_
  refine lwA (jn := 3) iL_law_925 iL_law_926 iL_law_928 iL_law_929 iL_law_930 rfl rfl rfl (by omega) hN ?_
  refine lwA (jn := 4) iL_law_931 iL_law_932 iL_law_934 iL_law_935 iL_law_936 rfl rfl rfl (by omega) hN ?_
  refine lwM (as := [pI (z (i + 1)), pI (z (i + 2)), pI (z (i + 3)), pI (z (i + 4))]) (rest := []) (K := (fun w m' => (∃ q, w = [pI q]) ∧ Post x' m')) iL_law_937 vX3_would mX3_would_ok mcl rfl rfl (Nat.le_of_ble_eq_true rfl) hbm hm (fun w m' hK hbm' => ?_)
  obtain ⟨⟨q2, rfl⟩, hP⟩ := hK
  refine xn_pop iL_law_940 rfl ?_
  exact xn_goto iL_law_941 (kk x' m' out hbx' hbm' hP)
theorem law_c24 {N : Nat} {z : Nat → Int} {Nn rc rs : Nat} {Po : Option (Option Value) → XH → Prop} (i : Nat) (hi : i + 5 ≤ N) (hN : N ≤ 3000) (x : LSt) (m : MS) (out : Nat → Int) (hbx : bdL x) (hbm : bdM m) {Post : LSt → MS → Prop} (hs : sX2_batch (z (i + 1)) x (fun v x' => ∃ q, v = [pI q] ∧ sX3_batch (z (i + 1)) m (fun w m' => (∃ q, w = [pI q]) ∧ Post x' m'))) (kk : ∀ x' m' out', bdL x' → bdM m' → Post x' m' → xn_W (some (N, fun j => iI (z j), xt_E)) Nn mL_law rc rs 1299 (lwL i) [] (encZ x' m' out') Po) : xn_W (some (N, fun j => iI (z j), xt_E)) Nn mL_law rc rs 944 (lwL i) [] (encZ x m out) Po := by
  refine xn_aload_n iL_law_944 rfl ?_
  refine lwA (jn := 1) iL_law_945 iL_law_946 iL_law_948 iL_law_949 iL_law_950 rfl rfl rfl (by omega) hN ?_
  refine lwX (as := [pI (z (i + 1))]) (rest := []) (K := (fun v x' => ∃ q, v = [pI q] ∧ sX3_batch (z (i + 1)) m (fun w m' => (∃ q, w = [pI q]) ∧ Post x' m'))) iL_law_951 vX2_batch mX2_batch_ok lcl rfl rfl (Nat.le_of_ble_eq_true rfl) hbx hs (fun v x' hK hbx' => ?_)
  obtain ⟨q, rfl, hm⟩ := hK
  refine xn_pop iL_law_954 rfl ?_
  refine xn_aload_n iL_law_955 rfl ?_
  refine lwA (jn := 1) iL_law_956 iL_law_957 iL_law_959 iL_law_960 iL_law_961 rfl rfl rfl (by omega) hN ?_
  refine lwM (as := [pI (z (i + 1))]) (rest := []) (K := (fun w m' => (∃ q, w = [pI q]) ∧ Post x' m')) iL_law_962 vX3_batch mX3_batch_ok mcl rfl rfl (Nat.le_of_ble_eq_true rfl) hbm hm (fun w m' hK hbm' => ?_)
  obtain ⟨⟨q2, rfl⟩, hP⟩ := hK
  refine xn_pop iL_law_965 rfl ?_
  exact xn_goto iL_law_966 (kk x' m' out hbx' hbm' hP)
theorem law_c25 {N : Nat} {z : Nat → Int} {Nn rc rs : Nat} {Po : Option (Option Value) → XH → Prop} (i : Nat) (hi : i + 5 ≤ N) (hN : N ≤ 3000) (x : LSt) (m : MS) (out : Nat → Int) (hbx : bdL x) (hbm : bdM m) {Post : LSt → MS → Prop} (hs : sX2_latest x (fun v x' => ∃ q, v = [pI q] ∧ sX3_latest m (fun w m' => (∃ q, w = [pI q]) ∧ Post x' m'))) (kk : ∀ x' m' out', bdL x' → bdM m' → Post x' m' → xn_W (some (N, fun j => iI (z j), xt_E)) Nn mL_law rc rs 1299 (lwL i) [] (encZ x' m' out') Po) : xn_W (some (N, fun j => iI (z j), xt_E)) Nn mL_law rc rs 969 (lwL i) [] (encZ x m out) Po := by
  refine xn_aload_n iL_law_969 rfl ?_
  refine lwX (as := []) (rest := []) (K := (fun v x' => ∃ q, v = [pI q] ∧ sX3_latest  m (fun w m' => (∃ q, w = [pI q]) ∧ Post x' m'))) iL_law_970 vX2_latest mX2_latest_ok lcl rfl rfl (Nat.le_of_ble_eq_true rfl) hbx hs (fun v x' hK hbx' => ?_)
  obtain ⟨q, rfl, hm⟩ := hK
  refine xn_pop iL_law_973 rfl ?_
  refine xn_aload_n iL_law_974 rfl ?_
  refine lwM (as := []) (rest := []) (K := (fun w m' => (∃ q, w = [pI q]) ∧ Post x' m')) iL_law_975 vX3_latest mX3_latest_ok mcl rfl rfl (Nat.le_of_ble_eq_true rfl) hbm hm (fun w m' hK hbm' => ?_)
  obtain ⟨⟨q2, rfl⟩, hP⟩ := hK
  refine xn_pop iL_law_978 rfl ?_
  exact xn_goto iL_law_979 (kk x' m' out hbx' hbm' hP)
theorem law_c26 {N : Nat} {z : Nat → Int} {Nn rc rs : Nat} {Po : Option (Option Value) → XH → Prop} (i : Nat) (hi : i + 5 ≤ N) (hN : N ≤ 3000) (x : LSt) (m : MS) (out : Nat → Int) (hbx : bdL x) (hbm : bdM m) {Post : LSt → MS → Prop} (hs : sX2_parts (z (i + 1)) (z (i + 2)) x (fun v x' => ∃ q, v = [pI q] ∧ sX3_parts (z (i + 1)) (z (i + 2)) m (fun w m' => (∃ q, w = [pI q]) ∧ Post x' m'))) (kk : ∀ x' m' out', bdL x' → bdM m' → Post x' m' → xn_W (some (N, fun j => iI (z j), xt_E)) Nn mL_law rc rs 1299 (lwL i) [] (encZ x' m' out') Po) : xn_W (some (N, fun j => iI (z j), xt_E)) Nn mL_law rc rs 982 (lwL i) [] (encZ x m out) Po := by
  refine xn_aload_n iL_law_982 rfl ?_
  refine lwA (jn := 1) iL_law_983 iL_law_984 iL_law_986 iL_law_987 iL_law_988 rfl rfl rfl (by omega) hN ?_
  refine lwA (jn := 2) iL_law_989 iL_law_990 iL_law_992 iL_law_993 iL_law_994 rfl rfl rfl (by omega) hN ?_
  refine lwX (as := [pI (z (i + 1)), pI (z (i + 2))]) (rest := []) (K := (fun v x' => ∃ q, v = [pI q] ∧ sX3_parts (z (i + 1)) (z (i + 2)) m (fun w m' => (∃ q, w = [pI q]) ∧ Post x' m'))) iL_law_995 vX2_parts mX2_parts_ok lcl rfl rfl (Nat.le_of_ble_eq_true rfl) hbx hs (fun v x' hK hbx' => ?_)
  obtain ⟨q, rfl, hm⟩ := hK
  refine xn_pop iL_law_998 rfl ?_
  refine xn_aload_n iL_law_999 rfl ?_
  refine lwA (jn := 1) iL_law_1000 iL_law_1001 iL_law_1003 iL_law_1004 iL_law_1005 rfl rfl rfl (by omega) hN ?_
  refine lwA (jn := 2) iL_law_1006 iL_law_1007 iL_law_1009 iL_law_1010 iL_law_1011 rfl rfl rfl (by omega) hN ?_
  refine lwM (as := [pI (z (i + 1)), pI (z (i + 2))]) (rest := []) (K := (fun w m' => (∃ q, w = [pI q]) ∧ Post x' m')) iL_law_1012 vX3_parts mX3_parts_ok mcl rfl rfl (Nat.le_of_ble_eq_true rfl) hbm hm (fun w m' hK hbm' => ?_)
  obtain ⟨⟨q2, rfl⟩, hP⟩ := hK
  refine xn_pop iL_law_1015 rfl ?_
  exact xn_goto iL_law_1016 (kk x' m' out hbx' hbm' hP)
theorem law_c27 {N : Nat} {z : Nat → Int} {Nn rc rs : Nat} {Po : Option (Option Value) → XH → Prop} (i : Nat) (hi : i + 5 ≤ N) (hN : N ≤ 3000) (x : LSt) (m : MS) (out : Nat → Int) (hbx : bdL x) (hbm : bdM m) {Post : LSt → MS → Prop} (hs : sX2_again (z (i + 1)) (z (i + 2)) (z (i + 3)) x (fun v x' => ∃ q, v = [pI q] ∧ sX3_again (z (i + 1)) (z (i + 2)) (z (i + 3)) m (fun w m' => (∃ q, w = [pI q]) ∧ Post x' m'))) (kk : ∀ x' m' out', bdL x' → bdM m' → Post x' m' → xn_W (some (N, fun j => iI (z j), xt_E)) Nn mL_law rc rs 1299 (lwL i) [] (encZ x' m' out') Po) : xn_W (some (N, fun j => iI (z j), xt_E)) Nn mL_law rc rs 1019 (lwL i) [] (encZ x m out) Po := by
  refine xn_aload_n iL_law_1019 rfl ?_
  refine lwA (jn := 1) iL_law_1020 iL_law_1021 iL_law_1023 iL_law_1024 iL_law_1025 rfl rfl rfl (by omega) hN ?_
  refine lwA (jn := 2) iL_law_1026 iL_law_1027 iL_law_1029 iL_law_1030 iL_law_1031 rfl rfl rfl (by omega) hN ?_
  refine lwA (jn := 3) iL_law_1032 iL_law_1033 iL_law_1035 iL_law_1036 iL_law_1037 rfl rfl rfl (by omega) hN ?_
  refine lwX (as := [pI (z (i + 1)), pI (z (i + 2)), pI (z (i + 3))]) (rest := []) (K := (fun v x' => ∃ q, v = [pI q] ∧ sX3_again (z (i + 1)) (z (i + 2)) (z (i + 3)) m (fun w m' => (∃ q, w = [pI q]) ∧ Post x' m'))) iL_law_1038 vX2_again mX2_again_ok lcl rfl rfl (Nat.le_of_ble_eq_true rfl) hbx hs (fun v x' hK hbx' => ?_)
  obtain ⟨q, rfl, hm⟩ := hK
  refine xn_pop iL_law_1041 rfl ?_
  refine xn_aload_n iL_law_1042 rfl ?_
  refine lwA (jn := 1) iL_law_1043 iL_law_1044 iL_law_1046 iL_law_1047 iL_law_1048 rfl rfl rfl (by omega) hN ?_
  refine lwA (jn := 2) iL_law_1049 iL_law_1050 iL_law_1052 iL_law_1053 iL_law_1054 rfl rfl rfl (by omega) hN ?_
  refine lwA (jn := 3) iL_law_1055 iL_law_1056 iL_law_1058 iL_law_1059 iL_law_1060 rfl rfl rfl (by omega) hN ?_
  refine lwM (as := [pI (z (i + 1)), pI (z (i + 2)), pI (z (i + 3))]) (rest := []) (K := (fun w m' => (∃ q, w = [pI q]) ∧ Post x' m')) iL_law_1061 vX3_again mX3_again_ok mcl rfl rfl (Nat.le_of_ble_eq_true rfl) hbm hm (fun w m' hK hbm' => ?_)
  obtain ⟨⟨q2, rfl⟩, hP⟩ := hK
  refine xn_pop iL_law_1064 rfl ?_
  exact xn_goto iL_law_1065 (kk x' m' out hbx' hbm' hP)
theorem law_c28 {N : Nat} {z : Nat → Int} {Nn rc rs : Nat} {Po : Option (Option Value) → XH → Prop} (i : Nat) (hi : i + 5 ≤ N) (hN : N ≤ 3000) (x : LSt) (m : MS) (out : Nat → Int) (hbx : bdL x) (hbm : bdM m) {Post : LSt → MS → Prop} (hs : sX2_without (z (i + 1)) x (fun v x' => ∃ q, v = [pI q] ∧ sX3_without (z (i + 1)) m (fun w m' => (∃ q, w = [pI q]) ∧ Post x' m'))) (kk : ∀ x' m' out', bdL x' → bdM m' → Post x' m' → xn_W (some (N, fun j => iI (z j), xt_E)) Nn mL_law rc rs 1299 (lwL i) [] (encZ x' m' out') Po) : xn_W (some (N, fun j => iI (z j), xt_E)) Nn mL_law rc rs 1068 (lwL i) [] (encZ x m out) Po := by
  refine xn_aload_n iL_law_1068 rfl ?_
  refine lwA (jn := 1) iL_law_1069 iL_law_1070 iL_law_1072 iL_law_1073 iL_law_1074 rfl rfl rfl (by omega) hN ?_
  refine lwX (as := [pI (z (i + 1))]) (rest := []) (K := (fun v x' => ∃ q, v = [pI q] ∧ sX3_without (z (i + 1)) m (fun w m' => (∃ q, w = [pI q]) ∧ Post x' m'))) iL_law_1075 vX2_without mX2_without_ok lcl rfl rfl (Nat.le_of_ble_eq_true rfl) hbx hs (fun v x' hK hbx' => ?_)
  obtain ⟨q, rfl, hm⟩ := hK
  refine xn_pop iL_law_1078 rfl ?_
  refine xn_aload_n iL_law_1079 rfl ?_
  refine lwA (jn := 1) iL_law_1080 iL_law_1081 iL_law_1083 iL_law_1084 iL_law_1085 rfl rfl rfl (by omega) hN ?_
  refine lwM (as := [pI (z (i + 1))]) (rest := []) (K := (fun w m' => (∃ q, w = [pI q]) ∧ Post x' m')) iL_law_1086 vX3_without mX3_without_ok mcl rfl rfl (Nat.le_of_ble_eq_true rfl) hbm hm (fun w m' hK hbm' => ?_)
  obtain ⟨⟨q2, rfl⟩, hP⟩ := hK
  refine xn_pop iL_law_1089 rfl ?_
  exact xn_goto iL_law_1090 (kk x' m' out hbx' hbm' hP)
theorem vL_input : wr_V mL_input [(0, 10, 13, 13)] := ⟨cwL_input, stL_input, xl_iL, by decide +kernel, by decide +kernel, by decide +kernel, rfl, rfl⟩
theorem hL_input (x : LSt) (out : Nat → Int) (hbx : bdL x) (a b : Int) (ha : xB a) (hb : xB b) : wr_C mL_input [(0, 10, 13, 13)] [.ref 0, xi a, xi b, .ref 137] (encL x ++ [xL 1 out]) (fun v h' => (∃ q, xb q ∧ (((0 ≤ a ∧ a < wZ (x.2.2 0) 4) ∧ 0 ≤ b ∧ b ≤ 3) ∧ q = wI (fInput x a b)) ∧ v = some (xi 0) ∧ h' = encL x ++ [xL 1 (xup out 0 q)]) ∨ (¬ ((0 ≤ a ∧ a < wZ (x.2.2 0) 4) ∧ 0 ≤ b ∧ b ≤ 3) ∧ v = some (xi 1) ∧ h' = encL x ++ [xL 1 out])) := by
  have g := X2_input_t (K := fun v s' => (((0 ≤ a ∧ a < wZ (x.2.2 0) 4) ∧ 0 ≤ b ∧ b ≤ 3) ∧ v = [pI (fInput x a b)]) ∧ s' = x) (Pt := fun s' => ¬ ((0 ≤ a ∧ a < wZ (x.2.2 0) 4) ∧ 0 ≤ b ∧ b ≤ 3) ∧ s' = x) a b x ha hb (fun h => ⟨h, rfl⟩) (fun h => ⟨⟨h, rfl⟩, rfl⟩)
  rw [wX_lt (by decide)] at g
  have hc := xt_con (As := [.ref 0, xi a, xi b]) kX2_input yX2_input_y rfl (by decide) (by decide) [some (.ref 0), some (xi a), some (xi b)] rfl (Nat.le_of_ble_eq_true rfl) (g hbx)
  refine wr2_con FL_input vX2_input rfl rfl (by decide) a b x out hc (fun v h' q => ?_) (fun h' q => ?_)
  · obtain ⟨v', s', e1, e3, -, -, ⟨hc, rfl⟩, e4⟩ := q
    rw [e4] at e3
    match v, e1 with
    | some w, e1 =>
      have e2 : w = .int (iI (fInput x a b)) := (List.cons.inj e1).1
      subst e2
      exact ⟨wI (fInput x a b), wI_xb _, ⟨hc, rfl⟩, by rw [show xi (wI (fInput x a b)) = Value.int (iI (wI (fInput x a b))) from rfl, wI_iI], e3⟩
  · obtain ⟨s', e3, -, hc, e4⟩ := q
    rw [e4] at e3
    exact ⟨hc, e3⟩
theorem law_c29 {N : Nat} {z : Nat → Int} {Nn rc rs : Nat} {Po : Option (Option Value) → XH → Prop} (i : Nat) (hi : i + 5 ≤ N) (hN : N ≤ 3000) (x : LSt) (m : MS) (out : Nat → Int) (hbx : bdL x) (hbm : bdM m) {Post : LSt → MS → Prop} (hz : ∀ j, xB (z (i + j))) (hs : ((0 ≤ z (i + 1) ∧ z (i + 1) < wZ (x.2.2 0) 4) ∧ 0 ≤ z (i + 2) ∧ z (i + 2) ≤ 3 → sX3_input (z (i + 1)) (z (i + 2)) m (fun w m' => (∃ q, w = [pI q]) ∧ Post x m')) ∧ (¬ ((0 ≤ z (i + 1) ∧ z (i + 1) < wZ (x.2.2 0) 4) ∧ 0 ≤ z (i + 2) ∧ z (i + 2) ≤ 3) → sX3_input (z (i + 1)) (z (i + 2)) m (fun w m' => (∃ q, w = [pI q]) ∧ Post x m'))) (kk : ∀ x' m' out', bdL x' → bdM m' → Post x' m' → xn_W (some (N, fun j => iI (z j), xt_E)) Nn mL_law rc rs 1299 (lwL i) [] (encZ x' m' out') Po) : xn_W (some (N, fun j => iI (z j), xt_E)) Nn mL_law (rc + 1) (rs + 6) 1093 (lwL i) [] (encZ x m out) Po := by
  refine xn_aload_n iL_law_1093 rfl ?_
  refine lwA (jn := 1) iL_law_1094 iL_law_1095 iL_law_1097 iL_law_1098 iL_law_1099 rfl rfl rfl (by omega) hN ?_
  refine lwA (jn := 2) iL_law_1100 iL_law_1101 iL_law_1103 iL_law_1104 iL_law_1105 rfl rfl rfl (by omega) hN ?_
  refine xn_aload_n iL_law_1106 rfl ?_
  refine lwW (As := [.ref 0, xi (z (i + 1)), xi (z (i + 2)), .ref 137]) (rest := []) iL_law_1107 vL_input rfl (Nat.le_of_ble_eq_true rfl) (hL_input x out hbx (z (i + 1)) (z (i + 2)) (hz 1) (hz 2)) (fun q hq hOk => ?_) (fun hbad => ?_)
  · refine xn_istore iL_law_1110 rfl (by decide) ?_
    refine xn_aload_n iL_law_1112 rfl ?_
    refine lwA (jn := 1) iL_law_1113 iL_law_1114 iL_law_1116 iL_law_1117 iL_law_1118 rfl rfl rfl (by omega) hN ?_
    refine lwA (jn := 2) iL_law_1119 iL_law_1120 iL_law_1122 iL_law_1123 iL_law_1124 rfl rfl rfl (by omega) hN ?_
    refine lwM (as := [pI (z (i + 1)), pI (z (i + 2))]) (rest := []) (K := (fun w m' => (∃ q, w = [pI q]) ∧ Post x m')) iL_law_1125 vX3_input mX3_input_ok mcl rfl rfl (Nat.le_of_ble_eq_true rfl) hbm (hs.1 hOk.1) (fun w m' hK hbm' => ?_)
    obtain ⟨⟨q2, rfl⟩, hP⟩ := hK
    refine xn_istore iL_law_1128 rfl (by decide) ?_
    refine xn_goto iL_law_1130 ?_
    exact xn_weak lwk (kk x m' _ hbx hbm' hP)
  · refine xn_istore iL_law_1110 rfl (by decide) ?_
    refine xn_aload_n iL_law_1112 rfl ?_
    refine lwA (jn := 1) iL_law_1113 iL_law_1114 iL_law_1116 iL_law_1117 iL_law_1118 rfl rfl rfl (by omega) hN ?_
    refine lwA (jn := 2) iL_law_1119 iL_law_1120 iL_law_1122 iL_law_1123 iL_law_1124 rfl rfl rfl (by omega) hN ?_
    refine lwM (as := [pI (z (i + 1)), pI (z (i + 2))]) (rest := []) (K := (fun w m' => (∃ q, w = [pI q]) ∧ Post x m')) iL_law_1125 vX3_input mX3_input_ok mcl rfl rfl (Nat.le_of_ble_eq_true rfl) hbm (hs.2 hbad) (fun w m' hK hbm' => ?_)
    obtain ⟨⟨q2, rfl⟩, hP⟩ := hK
    refine xn_istore iL_law_1128 rfl (by decide) ?_
    refine xn_goto iL_law_1130 ?_
    exact xn_weak lwk (kk x m' _ hbx hbm' hP)
theorem law_c30 {N : Nat} {z : Nat → Int} {Nn rc rs : Nat} {Po : Option (Option Value) → XH → Prop} (i : Nat) (hi : i + 5 ≤ N) (hN : N ≤ 3000) (x : LSt) (m : MS) (out : Nat → Int) (hbx : bdL x) (hbm : bdM m) {Post : LSt → MS → Prop} (hs : sX2_day x (fun v x' => ∃ q, v = [pI q] ∧ sX3_day m (fun w m' => (∃ q, w = [pI q]) ∧ Post x' m'))) (kk : ∀ x' m' out', bdL x' → bdM m' → Post x' m' → xn_W (some (N, fun j => iI (z j), xt_E)) Nn mL_law rc rs 1299 (lwL i) [] (encZ x' m' out') Po) : xn_W (some (N, fun j => iI (z j), xt_E)) Nn mL_law rc rs 1133 (lwL i) [] (encZ x m out) Po := by
  refine xn_aload_n iL_law_1133 rfl ?_
  refine lwX (as := []) (rest := []) (K := (fun v x' => ∃ q, v = [pI q] ∧ sX3_day  m (fun w m' => (∃ q, w = [pI q]) ∧ Post x' m'))) iL_law_1134 vX2_day mX2_day_ok lcl rfl rfl (Nat.le_of_ble_eq_true rfl) hbx hs (fun v x' hK hbx' => ?_)
  obtain ⟨q, rfl, hm⟩ := hK
  refine xn_pop iL_law_1137 rfl ?_
  refine xn_aload_n iL_law_1138 rfl ?_
  refine lwM (as := []) (rest := []) (K := (fun w m' => (∃ q, w = [pI q]) ∧ Post x' m')) iL_law_1139 vX3_day mX3_day_ok mcl rfl rfl (Nat.le_of_ble_eq_true rfl) hbm hm (fun w m' hK hbm' => ?_)
  obtain ⟨⟨q2, rfl⟩, hP⟩ := hK
  refine xn_pop iL_law_1142 rfl ?_
  exact xn_goto iL_law_1143 (kk x' m' out hbx' hbm' hP)
theorem law_c31 {N : Nat} {z : Nat → Int} {Nn rc rs : Nat} {Po : Option (Option Value) → XH → Prop} (i : Nat) (hi : i + 5 ≤ N) (hN : N ≤ 3000) (x : LSt) (m : MS) (out : Nat → Int) (hbx : bdL x) (hbm : bdM m) {Post : LSt → MS → Prop} (hs : sX2_undo x (fun v x' => ∃ q, v = [pI q] ∧ sX3_undo m (fun w m' => (∃ q, w = [pI q]) ∧ Post x' m'))) (kk : ∀ x' m' out', bdL x' → bdM m' → Post x' m' → xn_W (some (N, fun j => iI (z j), xt_E)) Nn mL_law rc rs 1299 (lwL i) [] (encZ x' m' out') Po) : xn_W (some (N, fun j => iI (z j), xt_E)) Nn mL_law rc rs 1146 (lwL i) [] (encZ x m out) Po := by
  refine xn_aload_n iL_law_1146 rfl ?_
  refine lwX (as := []) (rest := []) (K := (fun v x' => ∃ q, v = [pI q] ∧ sX3_undo  m (fun w m' => (∃ q, w = [pI q]) ∧ Post x' m'))) iL_law_1147 vX2_undo mX2_undo_ok lcl rfl rfl (Nat.le_of_ble_eq_true rfl) hbx hs (fun v x' hK hbx' => ?_)
  obtain ⟨q, rfl, hm⟩ := hK
  refine xn_pop iL_law_1150 rfl ?_
  refine xn_aload_n iL_law_1151 rfl ?_
  refine lwM (as := []) (rest := []) (K := (fun w m' => (∃ q, w = [pI q]) ∧ Post x' m')) iL_law_1152 vX3_undo mX3_undo_ok mcl rfl rfl (Nat.le_of_ble_eq_true rfl) hbm hm (fun w m' hK hbm' => ?_)
  obtain ⟨⟨q2, rfl⟩, hP⟩ := hK
  refine xn_pop iL_law_1155 rfl ?_
  exact xn_goto iL_law_1156 (kk x' m' out hbx' hbm' hP)
theorem law_c32 {N : Nat} {z : Nat → Int} {Nn rc rs : Nat} {Po : Option (Option Value) → XH → Prop} (i : Nat) (hi : i + 5 ≤ N) (hN : N ≤ 3000) (x : LSt) (m : MS) (out : Nat → Int) (hbx : bdL x) (hbm : bdM m) {Post : LSt → MS → Prop} (hs : sX2_years (z (i + 1)) (z (i + 2)) x (fun v x' => ∃ q, v = [pI q] ∧ sX3_years (z (i + 1)) (z (i + 2)) m (fun w m' => (∃ q, w = [pI q]) ∧ Post x' m'))) (kk : ∀ x' m' out', bdL x' → bdM m' → Post x' m' → xn_W (some (N, fun j => iI (z j), xt_E)) Nn mL_law rc rs 1299 (lwL i) [] (encZ x' m' out') Po) : xn_W (some (N, fun j => iI (z j), xt_E)) Nn mL_law rc rs 1159 (lwL i) [] (encZ x m out) Po := by
  refine xn_aload_n iL_law_1159 rfl ?_
  refine lwA (jn := 1) iL_law_1160 iL_law_1161 iL_law_1163 iL_law_1164 iL_law_1165 rfl rfl rfl (by omega) hN ?_
  refine lwA (jn := 2) iL_law_1166 iL_law_1167 iL_law_1169 iL_law_1170 iL_law_1171 rfl rfl rfl (by omega) hN ?_
  refine lwX (as := [pI (z (i + 1)), pI (z (i + 2))]) (rest := []) (K := (fun v x' => ∃ q, v = [pI q] ∧ sX3_years (z (i + 1)) (z (i + 2)) m (fun w m' => (∃ q, w = [pI q]) ∧ Post x' m'))) iL_law_1172 vX2_years mX2_years_ok lcl rfl rfl (Nat.le_of_ble_eq_true rfl) hbx hs (fun v x' hK hbx' => ?_)
  obtain ⟨q, rfl, hm⟩ := hK
  refine xn_pop iL_law_1175 rfl ?_
  refine xn_aload_n iL_law_1176 rfl ?_
  refine lwA (jn := 1) iL_law_1177 iL_law_1178 iL_law_1180 iL_law_1181 iL_law_1182 rfl rfl rfl (by omega) hN ?_
  refine lwA (jn := 2) iL_law_1183 iL_law_1184 iL_law_1186 iL_law_1187 iL_law_1188 rfl rfl rfl (by omega) hN ?_
  refine lwM (as := [pI (z (i + 1)), pI (z (i + 2))]) (rest := []) (K := (fun w m' => (∃ q, w = [pI q]) ∧ Post x' m')) iL_law_1189 vX3_years mX3_years_ok mcl rfl rfl (Nat.le_of_ble_eq_true rfl) hbm hm (fun w m' hK hbm' => ?_)
  obtain ⟨⟨q2, rfl⟩, hP⟩ := hK
  refine xn_pop iL_law_1192 rfl ?_
  exact xn_goto iL_law_1193 (kk x' m' out hbx' hbm' hP)
theorem law_c33 {N : Nat} {z : Nat → Int} {Nn rc rs : Nat} {Po : Option (Option Value) → XH → Prop} (i : Nat) (hi : i + 5 ≤ N) (hN : N ≤ 3000) (x : LSt) (m : MS) (out : Nat → Int) (hbx : bdL x) (hbm : bdM m) {Post : LSt → MS → Prop} (hs : sX2_keep (z (i + 1)) x (fun v x' => ∃ q, v = [pI q] ∧ sX3_keep (z (i + 1)) m (fun w m' => (∃ q, w = [pI q]) ∧ Post x' m'))) (kk : ∀ x' m' out', bdL x' → bdM m' → Post x' m' → xn_W (some (N, fun j => iI (z j), xt_E)) Nn mL_law rc rs 1299 (lwL i) [] (encZ x' m' out') Po) : xn_W (some (N, fun j => iI (z j), xt_E)) Nn mL_law rc rs 1196 (lwL i) [] (encZ x m out) Po := by
  refine xn_aload_n iL_law_1196 rfl ?_
  refine lwA (jn := 1) iL_law_1197 iL_law_1198 iL_law_1200 iL_law_1201 iL_law_1202 rfl rfl rfl (by omega) hN ?_
  refine lwX (as := [pI (z (i + 1))]) (rest := []) (K := (fun v x' => ∃ q, v = [pI q] ∧ sX3_keep (z (i + 1)) m (fun w m' => (∃ q, w = [pI q]) ∧ Post x' m'))) iL_law_1203 vX2_keep mX2_keep_ok lcl rfl rfl (Nat.le_of_ble_eq_true rfl) hbx hs (fun v x' hK hbx' => ?_)
  obtain ⟨q, rfl, hm⟩ := hK
  refine xn_pop iL_law_1206 rfl ?_
  refine xn_aload_n iL_law_1207 rfl ?_
  refine lwA (jn := 1) iL_law_1208 iL_law_1209 iL_law_1211 iL_law_1212 iL_law_1213 rfl rfl rfl (by omega) hN ?_
  refine lwM (as := [pI (z (i + 1))]) (rest := []) (K := (fun w m' => (∃ q, w = [pI q]) ∧ Post x' m')) iL_law_1214 vX3_keep mX3_keep_ok mcl rfl rfl (Nat.le_of_ble_eq_true rfl) hbm hm (fun w m' hK hbm' => ?_)
  obtain ⟨⟨q2, rfl⟩, hP⟩ := hK
  refine xn_pop iL_law_1217 rfl ?_
  exact xn_goto iL_law_1218 (kk x' m' out hbx' hbm' hP)
theorem law_c34 {N : Nat} {z : Nat → Int} {Nn rc rs : Nat} {Po : Option (Option Value) → XH → Prop} (i : Nat) (hi : i + 5 ≤ N) (hN : N ≤ 3000) (x : LSt) (m : MS) (out : Nat → Int) (hbx : bdL x) (hbm : bdM m) {Post : LSt → MS → Prop} (hs : sX2_back (z (i + 1)) x (fun v x' => ∃ q, v = [pI q] ∧ sX3_back (z (i + 1)) m (fun w m' => w = [pI q] ∧ Post x' m'))) (kk : ∀ x' m' out', bdL x' → bdM m' → Post x' m' → xn_W (some (N, fun j => iI (z j), xt_E)) Nn mL_law rc rs 1299 (lwL i) [] (encZ x' m' out') Po) : xn_W (some (N, fun j => iI (z j), xt_E)) Nn mL_law rc rs 1221 (lwL i) [] (encZ x m out) Po := by
  refine xn_aload_n iL_law_1221 rfl ?_
  refine lwA (jn := 1) iL_law_1222 iL_law_1223 iL_law_1225 iL_law_1226 iL_law_1227 rfl rfl rfl (by omega) hN ?_
  refine lwX (as := [pI (z (i + 1))]) (rest := []) (K := (fun v x' => ∃ q, v = [pI q] ∧ sX3_back (z (i + 1)) m (fun w m' => w = [pI q] ∧ Post x' m'))) iL_law_1228 vX2_back mX2_back_ok lcl rfl rfl (Nat.le_of_ble_eq_true rfl) hbx hs (fun v x' hK hbx' => ?_)
  obtain ⟨q, rfl, hm⟩ := hK
  refine xn_aload_n iL_law_1231 rfl ?_
  refine lwA (jn := 1) iL_law_1232 iL_law_1233 iL_law_1235 iL_law_1236 iL_law_1237 rfl rfl rfl (by omega) hN ?_
  refine lwM (as := [pI (z (i + 1))]) (rest := [xi q]) (K := (fun w m' => w = [pI q] ∧ Post x' m')) iL_law_1238 vX3_back mX3_back_ok mcl rfl rfl (Nat.le_of_ble_eq_true rfl) hbm hm (fun w m' hK hbm' => ?_)
  obtain ⟨rfl, hP⟩ := hK
  exact xn_icmp_eq iL_law_1241 (fun _ => kk x' m' out hbx' hbm' hP) (fun h => absurd rfl h)
theorem law_c35 {N : Nat} {z : Nat → Int} {Nn rc rs : Nat} {Po : Option (Option Value) → XH → Prop} (i : Nat) (hi : i + 5 ≤ N) (hN : N ≤ 3000) (x : LSt) (m : MS) (out : Nat → Int) (hbx : bdL x) (hbm : bdM m) {Post : LSt → MS → Prop} (hs : sX2_count (z (i + 1)) x (fun v x' => ∃ q, v = [pI q] ∧ sX3_count (z (i + 1)) m (fun w m' => (∃ q, w = [pI q]) ∧ Post x' m'))) (kk : ∀ x' m' out', bdL x' → bdM m' → Post x' m' → xn_W (some (N, fun j => iI (z j), xt_E)) Nn mL_law rc rs 1299 (lwL i) [] (encZ x' m' out') Po) : xn_W (some (N, fun j => iI (z j), xt_E)) Nn mL_law rc rs 1246 (lwL i) [] (encZ x m out) Po := by
  refine xn_aload_n iL_law_1246 rfl ?_
  refine lwA (jn := 1) iL_law_1247 iL_law_1248 iL_law_1250 iL_law_1251 iL_law_1252 rfl rfl rfl (by omega) hN ?_
  refine lwX (as := [pI (z (i + 1))]) (rest := []) (K := (fun v x' => ∃ q, v = [pI q] ∧ sX3_count (z (i + 1)) m (fun w m' => (∃ q, w = [pI q]) ∧ Post x' m'))) iL_law_1253 vX2_count mX2_count_ok lcl rfl rfl (Nat.le_of_ble_eq_true rfl) hbx hs (fun v x' hK hbx' => ?_)
  obtain ⟨q, rfl, hm⟩ := hK
  refine xn_pop iL_law_1256 rfl ?_
  refine xn_aload_n iL_law_1257 rfl ?_
  refine lwA (jn := 1) iL_law_1258 iL_law_1259 iL_law_1261 iL_law_1262 iL_law_1263 rfl rfl rfl (by omega) hN ?_
  refine lwM (as := [pI (z (i + 1))]) (rest := []) (K := (fun w m' => (∃ q, w = [pI q]) ∧ Post x' m')) iL_law_1264 vX3_count mX3_count_ok mcl rfl rfl (Nat.le_of_ble_eq_true rfl) hbm hm (fun w m' hK hbm' => ?_)
  obtain ⟨⟨q2, rfl⟩, hP⟩ := hK
  refine xn_pop iL_law_1267 rfl ?_
  exact xn_goto iL_law_1268 (kk x' m' out hbx' hbm' hP)
theorem vL_row : wr_V mL_row [(0, 8, 11, 13)] := ⟨cwL_row, stL_row, xl_iL, by decide +kernel, by decide +kernel, by decide +kernel, rfl, rfl⟩
theorem hL_row (x : LSt) (out : Nat → Int) (hbx : bdL x) (a : Int) (ha : xB a) : wr_C mL_row [(0, 8, 11, 13)] [.ref 0, xi a, .ref 137] (encL x ++ [xL 1 out]) (fun v h' => (∃ q, xb q ∧ ((0 ≤ a ∧ a < x.1 3 ∧ a < 6) ∧ q = fRow x a) ∧ v = some (xi 0) ∧ h' = encL x ++ [xL 1 (xup out 0 q)]) ∨ (¬ (0 ≤ a ∧ a < x.1 3 ∧ a < 6) ∧ v = some (xi 1) ∧ h' = encL x ++ [xL 1 out])) := by
  have g := X2_row_t (K := fun v s' => ((0 ≤ a ∧ a < x.1 3 ∧ a < 6) ∧ v = [pJ (fRow x a)]) ∧ s' = x) (Pt := fun s' => ¬ (0 ≤ a ∧ a < x.1 3 ∧ a < 6) ∧ s' = x) a x ha (fun h => ⟨h, rfl⟩) (fun h => ⟨⟨h, rfl⟩, rfl⟩)
  rw [wX_lt (by decide)] at g
  have hc := xt_con (As := [.ref 0, xi a]) kX2_row yX2_row_y rfl (by decide) (by decide) [some (.ref 0), some (xi a)] rfl (Nat.le_of_ble_eq_true rfl) (g hbx)
  refine wr1_con FL_row vX2_row rfl rfl (by decide) a x out hc (fun v h' q => ?_) (fun h' q => ?_)
  · obtain ⟨v', s', e1, e3, -, -, ⟨hc, rfl⟩, e4⟩ := q
    rw [e4] at e3
    match v, e1 with
    | some w, e1 =>
      have e2 : w = .long (lI (fRow x a)) := (List.cons.inj e1).1
      subst e2
      exact ⟨fRow x a, hbx.2.1 _ _, ⟨hc, rfl⟩, rfl, e3⟩
  · obtain ⟨s', e3, -, hc, e4⟩ := q
    rw [e4] at e3
    exact ⟨hc, e3⟩
theorem law_c36 {N : Nat} {z : Nat → Int} {Nn rc rs : Nat} {Po : Option (Option Value) → XH → Prop} (i : Nat) (hi : i + 5 ≤ N) (hN : N ≤ 3000) (x : LSt) (m : MS) (out : Nat → Int) (hbx : bdL x) (hbm : bdM m) {Post : LSt → MS → Prop} (hz : ∀ j, xB (z (i + j))) (hs : (0 ≤ z (i + 1) ∧ z (i + 1) < x.1 3 ∧ z (i + 1) < 6 → sX3_row (z (i + 1)) m (fun w m' => (∃ q, w = [pJ q]) ∧ Post x m')) ∧ (¬ (0 ≤ z (i + 1) ∧ z (i + 1) < x.1 3 ∧ z (i + 1) < 6) → sX3_row (z (i + 1)) m (fun w m' => (∃ q, w = [pJ q]) ∧ Post x m'))) (kk : ∀ x' m' out', bdL x' → bdM m' → Post x' m' → xn_W (some (N, fun j => iI (z j), xt_E)) Nn mL_law rc rs 1299 (lwL i) [] (encZ x' m' out') Po) : xn_W (some (N, fun j => iI (z j), xt_E)) Nn mL_law (rc + 1) (rs + 6) 1271 (lwL i) [] (encZ x m out) Po := by
  refine xn_aload_n iL_law_1271 rfl ?_
  refine lwA (jn := 1) iL_law_1272 iL_law_1273 iL_law_1275 iL_law_1276 iL_law_1277 rfl rfl rfl (by omega) hN ?_
  refine xn_aload_n iL_law_1278 rfl ?_
  refine lwW (As := [.ref 0, xi (z (i + 1)), .ref 137]) (rest := []) iL_law_1279 vL_row rfl (Nat.le_of_ble_eq_true rfl) (hL_row x out hbx (z (i + 1)) (hz 1)) (fun q hq hOk => ?_) (fun hbad => ?_)
  · refine xn_istore iL_law_1282 rfl (by decide) ?_
    refine xn_aload_n iL_law_1284 rfl ?_
    refine lwA (jn := 1) iL_law_1285 iL_law_1286 iL_law_1288 iL_law_1289 iL_law_1290 rfl rfl rfl (by omega) hN ?_
    refine lwM (as := [pI (z (i + 1))]) (rest := []) (K := (fun w m' => (∃ q, w = [pJ q]) ∧ Post x m')) iL_law_1291 vX3_row mX3_row_ok mcl rfl rfl (Nat.le_of_ble_eq_true rfl) hbm (hs.1 hOk.1) (fun w m' hK hbm' => ?_)
    obtain ⟨⟨q2, rfl⟩, hP⟩ := hK
    refine xn_lstore iL_law_1294 rfl (by decide) ?_
    refine xn_goto iL_law_1296 ?_
    exact xn_weak lwk (kk x m' _ hbx hbm' hP)
  · refine xn_istore iL_law_1282 rfl (by decide) ?_
    refine xn_aload_n iL_law_1284 rfl ?_
    refine lwA (jn := 1) iL_law_1285 iL_law_1286 iL_law_1288 iL_law_1289 iL_law_1290 rfl rfl rfl (by omega) hN ?_
    refine lwM (as := [pI (z (i + 1))]) (rest := []) (K := (fun w m' => (∃ q, w = [pJ q]) ∧ Post x m')) iL_law_1291 vX3_row mX3_row_ok mcl rfl rfl (Nat.le_of_ble_eq_true rfl) hbm (hs.2 hbad) (fun w m' hK hbm' => ?_)
    obtain ⟨⟨q2, rfl⟩, hP⟩ := hK
    refine xn_lstore iL_law_1294 rfl (by decide) ?_
    refine xn_goto iL_law_1296 ?_
    exact xn_weak lwk (kk x m' _ hbx hbm' hP)
end
-- 991.ld
section
/-! ===== the law: one turn, its end (by program) ===== -/
def lwS (z : Nat → Int) (i : Nat) (x : LSt) (m : MS) (Post : LSt → MS → Prop) (k : Nat) : Prop := match k with
  | 0 => sX2_sign (z (i + 1)) x (fun v x' => ∃ q, v = [pI q] ∧ sX3_sign (z (i + 1)) m (fun w m' => (∃ q, w = [pI q]) ∧ Post x' m'))
  | 1 => sX2_end (z (i + 1)) x (fun v x' => ∃ q, v = [pI q] ∧ sX3_end (z (i + 1)) m (fun w m' => (∃ q, w = [pI q]) ∧ Post x' m'))
  | 2 => sX2_start (z (i + 1)) (z (i + 2)) (z (i + 3)) (z (i + 4)) x (fun v x' => ∃ q, v = [pI q] ∧ sX3_start (z (i + 1)) (z (i + 2)) (z (i + 3)) (z (i + 4)) m (fun w m' => (∃ q, w = [pI q]) ∧ Post x' m'))
  | 3 => sX2_delays (z (i + 1)) (z (i + 2)) x (fun v x' => ∃ q, v = [pI q] ∧ sX3_delays (z (i + 1)) (z (i + 2)) m (fun w m' => (∃ q, w = [pI q]) ∧ Post x' m'))
  | 4 => sX2_event (z (i + 1)) (z (i + 2)) (z (i + 3)) (z (i + 4)) x (fun v x' => ∃ q, v = [pI q] ∧ sX3_event (z (i + 1)) (z (i + 2)) (z (i + 3)) (z (i + 4)) m (fun w m' => (∃ q, w = [pI q]) ∧ Post x' m'))
  | 5 => sX2_events x (fun v x' => ∃ q, v = [pI q] ∧ sX3_events m (fun w m' => (∃ q, w = [pI q]) ∧ Post x' m'))
  | 6 => sX2_marks (z (i + 1)) (z (i + 2)) x (fun v x' => ∃ q, v = [pI q] ∧ sX3_marks (z (i + 1)) (z (i + 2)) m (fun w m' => (∃ q, w = [pI q]) ∧ Post x' m'))
  | 7 => sX2_idles (z (i + 1)) x (fun v x' => ∃ q, v = [pI q] ∧ sX3_idles (z (i + 1)) m (fun w m' => (∃ q, w = [pI q]) ∧ Post x' m'))
  | 8 => (lSrc x (z (i + 1)) ∧ 0 ≤ z (i + 2) ∧ z (i + 2) ≤ 5 → sX3_source (z (i + 1)) (z (i + 2)) m (fun w m' => (∃ q, w = [pI q]) ∧ Post x m')) ∧ (¬ (lSrc x (z (i + 1)) ∧ 0 ≤ z (i + 2) ∧ z (i + 2) ≤ 5) → sX3_source (z (i + 1)) (z (i + 2)) m (fun w m' => (∃ q, w = [pI q]) ∧ Post x m'))
  | 9 => ((0 ≤ z (i + 1) ∧ z (i + 1) < wZ (x.2.2 0) 1) ∧ 0 ≤ z (i + 2) ∧ z (i + 2) ≤ 7 → sX3_session (z (i + 1)) (z (i + 2)) m (fun w m' => (∃ q, w = [pI q]) ∧ Post x m')) ∧ (¬ ((0 ≤ z (i + 1) ∧ z (i + 1) < wZ (x.2.2 0) 1) ∧ 0 ≤ z (i + 2) ∧ z (i + 2) ≤ 7) → sX3_session (z (i + 1)) (z (i + 2)) m (fun w m' => (∃ q, w = [pI q]) ∧ Post x m'))
  | 10 => sX2_at (z (i + 1)) (z (i + 2)) x (fun v x' => ∃ q, v = [pI q] ∧ sX3_at (z (i + 1)) (z (i + 2)) m (fun w m' => (∃ q, w = [pI q]) ∧ Post x' m'))
  | 11 => (ofLatest (z (i + 1)) ((x.2.2 0).1 4) 60 ∧ 0 ≤ z (i + 2) ∧ z (i + 2) < 6 → sX3_message (z (i + 1)) (z (i + 2)) m (fun w m' => (∃ q, w = [pI q]) ∧ Post x m')) ∧ (¬ (ofLatest (z (i + 1)) ((x.2.2 0).1 4) 60 ∧ 0 ≤ z (i + 2) ∧ z (i + 2) < 6) → sX3_message (z (i + 1)) (z (i + 2)) m (fun w m' => (∃ q, w = [pI q]) ∧ Post x m'))
  | 12 => sX2_sent (z (i + 1)) x (fun v x' => ∃ q, v = [pI q] ∧ sX3_sent (z (i + 1)) m (fun w m' => (∃ q, w = [pI q]) ∧ Post x' m'))
  | 13 => sX2_stands x (fun v x' => ∃ q, v = [pI q] ∧ sX3_stands m (fun w m' => (∃ q, w = [pI q]) ∧ Post x' m'))
  | 14 => sX2_closed (z (i + 1)) x (fun v x' => ∃ q, v = [pI q] ∧ sX3_closed (z (i + 1)) m (fun w m' => (∃ q, w = [pI q]) ∧ Post x' m'))
  | 15 => (ofLatest (z (i + 1)) ((x.2.2 0).1 5) 40 ∧ 0 ≤ z (i + 2) ∧ z (i + 2) < 7 → sX3_finals (z (i + 1)) (z (i + 2)) m (fun w m' => (∃ q, w = [pI q]) ∧ Post x m')) ∧ (¬ (ofLatest (z (i + 1)) ((x.2.2 0).1 5) 40 ∧ 0 ≤ z (i + 2) ∧ z (i + 2) < 7) → sX3_finals (z (i + 1)) (z (i + 2)) m (fun w m' => (∃ q, w = [pI q]) ∧ Post x m'))
  | 16 => sX2_kinds (z (i + 1)) x (fun v x' => ∃ q, v = [pI q] ∧ sX3_kinds (z (i + 1)) m (fun w m' => (∃ q, w = [pI q]) ∧ Post x' m'))
  | 17 => sX2_slow x (fun v x' => ∃ q, v = [pI q] ∧ sX3_slow m (fun w m' => (∃ q, w = [pI q]) ∧ Post x' m'))
  | 18 => sX2_span (z (i + 1)) (z (i + 2)) x (fun v x' => ∃ q, v = [pI q] ∧ sX3_span (z (i + 1)) (z (i + 2)) m (fun w m' => (∃ q, w = [pI q]) ∧ Post x' m'))
  | 19 => sX2_taken x (fun v x' => ∃ q, v = [pI q] ∧ sX3_taken m (fun w m' => (∃ q, w = [pI q]) ∧ Post x' m'))
  | 20 => sX2_holds x (fun v x' => ∃ q, v = [pI q] ∧ sX3_holds m (fun w m' => (∃ q, w = [pI q]) ∧ Post x' m'))
  | 21 => sX2_next x (fun v x' => ∃ q, v = [pI q] ∧ sX3_next m (fun w m' => (∃ q, w = [pI q]) ∧ Post x' m'))
  | 22 => sX2_ahead (z (i + 1)) x (fun v x' => ∃ q, v = [pI q] ∧ sX3_ahead (z (i + 1)) m (fun w m' => (∃ q, w = [pI q]) ∧ Post x' m'))
  | 23 => sX2_would (z (i + 1)) (z (i + 2)) (z (i + 3)) (z (i + 4)) x (fun v x' => ∃ q, v = [pI q] ∧ sX3_would (z (i + 1)) (z (i + 2)) (z (i + 3)) (z (i + 4)) m (fun w m' => (∃ q, w = [pI q]) ∧ Post x' m'))
  | 24 => sX2_batch (z (i + 1)) x (fun v x' => ∃ q, v = [pI q] ∧ sX3_batch (z (i + 1)) m (fun w m' => (∃ q, w = [pI q]) ∧ Post x' m'))
  | 25 => sX2_latest x (fun v x' => ∃ q, v = [pI q] ∧ sX3_latest m (fun w m' => (∃ q, w = [pI q]) ∧ Post x' m'))
  | 26 => sX2_parts (z (i + 1)) (z (i + 2)) x (fun v x' => ∃ q, v = [pI q] ∧ sX3_parts (z (i + 1)) (z (i + 2)) m (fun w m' => (∃ q, w = [pI q]) ∧ Post x' m'))
  | 27 => sX2_again (z (i + 1)) (z (i + 2)) (z (i + 3)) x (fun v x' => ∃ q, v = [pI q] ∧ sX3_again (z (i + 1)) (z (i + 2)) (z (i + 3)) m (fun w m' => (∃ q, w = [pI q]) ∧ Post x' m'))
  | 28 => sX2_without (z (i + 1)) x (fun v x' => ∃ q, v = [pI q] ∧ sX3_without (z (i + 1)) m (fun w m' => (∃ q, w = [pI q]) ∧ Post x' m'))
  | 29 => ((0 ≤ z (i + 1) ∧ z (i + 1) < wZ (x.2.2 0) 4) ∧ 0 ≤ z (i + 2) ∧ z (i + 2) ≤ 3 → sX3_input (z (i + 1)) (z (i + 2)) m (fun w m' => (∃ q, w = [pI q]) ∧ Post x m')) ∧ (¬ ((0 ≤ z (i + 1) ∧ z (i + 1) < wZ (x.2.2 0) 4) ∧ 0 ≤ z (i + 2) ∧ z (i + 2) ≤ 3) → sX3_input (z (i + 1)) (z (i + 2)) m (fun w m' => (∃ q, w = [pI q]) ∧ Post x m'))
  | 30 => sX2_day x (fun v x' => ∃ q, v = [pI q] ∧ sX3_day m (fun w m' => (∃ q, w = [pI q]) ∧ Post x' m'))
  | 31 => sX2_undo x (fun v x' => ∃ q, v = [pI q] ∧ sX3_undo m (fun w m' => (∃ q, w = [pI q]) ∧ Post x' m'))
  | 32 => sX2_years (z (i + 1)) (z (i + 2)) x (fun v x' => ∃ q, v = [pI q] ∧ sX3_years (z (i + 1)) (z (i + 2)) m (fun w m' => (∃ q, w = [pI q]) ∧ Post x' m'))
  | 33 => sX2_keep (z (i + 1)) x (fun v x' => ∃ q, v = [pI q] ∧ sX3_keep (z (i + 1)) m (fun w m' => (∃ q, w = [pI q]) ∧ Post x' m'))
  | 34 => sX2_back (z (i + 1)) x (fun v x' => ∃ q, v = [pI q] ∧ sX3_back (z (i + 1)) m (fun w m' => w = [pI q] ∧ Post x' m'))
  | 35 => sX2_count (z (i + 1)) x (fun v x' => ∃ q, v = [pI q] ∧ sX3_count (z (i + 1)) m (fun w m' => (∃ q, w = [pI q]) ∧ Post x' m'))
  | 36 => (0 ≤ z (i + 1) ∧ z (i + 1) < x.1 3 ∧ z (i + 1) < 6 → sX3_row (z (i + 1)) m (fun w m' => (∃ q, w = [pJ q]) ∧ Post x m')) ∧ (¬ (0 ≤ z (i + 1) ∧ z (i + 1) < x.1 3 ∧ z (i + 1) < 6) → sX3_row (z (i + 1)) m (fun w m' => (∃ q, w = [pJ q]) ∧ Post x m'))
  | _ => Post x m
theorem and63 (x : Int32) : ∃ k : Nat, k < 64 ∧ x &&& 63 = iI k := by
  refine ⟨(x &&& 63).toBitVec.toNat, ?_, ?_⟩
  · have e : (x &&& 63).toBitVec.toNat = x.toBitVec.toNat &&& 63 := by
      rw [Int32.toBitVec_and, BitVec.toNat_and]
      rfl
    rw [e]
    exact Nat.lt_of_le_of_lt Nat.and_le_right (by decide)
  · apply Int32.toBitVec_inj.mp
    show _ = BitVec.ofInt 32 _
    rw [BitVec.ofInt_natCast, BitVec.ofNat_toNat]
    simp
section LT
variable {N : Nat} {z : Nat → Int} {Nn rc rs : Nat} {Po : Option (Option Value) → XH → Prop}
theorem law_end (i : Nat) (hi : N < i + 5) (hi2 : i ≤ 3005) (hN : N ≤ 3000) (h : XH) (hP : Po (some (some (xi 1))) h) : xn_W (some (N, fun j => iI (z j), xt_E)) Nn mL_law rc rs 23 (lwL i) [] h Po := by
  refine xn_iload iL_law_23 rfl ?_
  refine xn_saload_n iL_law_25 rfl ?_
  refine xn_slen iL_law_26 ?_
  refine xn_iconst (iI 5) iL_law_27 rfl ?_
  refine xn_isub iL_law_28 ?_
  rw [iI_nI, iI_sub]
  refine xn_icmp_gt iL_law_29 (fun _ => ?_) (fun h => absurd ((iI_lt ⟨by omega, by omega⟩ ⟨by omega, by omega⟩).mpr (show (N : Int) - 5 < (i : Int) by omega)) h)
  refine xn_iconst (iI 1) iL_law_1305 rfl ?_
  exact xn_zreturn iL_law_1306 rfl (Or.inr rfl) hP
theorem law_at (i : Nat) (hi : i + 5 ≤ N) (hN : N ≤ 3000) (x : LSt) (m : MS) (out : Nat → Int) (hbx : bdL x) (hbm : bdM m) (hz : ∀ j, xB (z j)) {Post : LSt → MS → Prop} (hs : ∀ k : Nat, k < 64 → iI (z i) &&& 63 = iI k → lwS z i x m Post k) (kk : ∀ x' m' out', bdL x' → bdM m' → Post x' m' → xn_W (some (N, fun j => iI (z j), xt_E)) Nn mL_law rc rs 23 (lwL (i + 5)) [] (encZ x' m' out') Po) : xn_W (some (N, fun j => iI (z j), xt_E)) Nn mL_law (rc + 1) (rs + 6) 23 (lwL i) [] (encZ x m out) Po := by
  refine xn_iload iL_law_23 rfl ?_
  refine xn_saload_n iL_law_25 rfl ?_
  refine xn_slen iL_law_26 ?_
  refine xn_iconst (iI 5) iL_law_27 rfl ?_
  refine xn_isub iL_law_28 ?_
  rw [iI_nI, iI_sub]
  refine xn_icmp_gt iL_law_29 (fun h => absurd ((iI_lt ⟨by omega, by omega⟩ ⟨by omega, by omega⟩).mp h) (by omega)) (fun _ => ?_)
  refine xn_saload_n iL_law_32 rfl ?_
  refine xn_iload iL_law_33 rfl ?_
  refine xn_sld iL_law_35 (iI_in ⟨by omega, by omega⟩ (by omega) (by omega)) ?_
  rw [iI_nat ⟨by omega, by omega⟩, show ((i : Int)).toNat = i from rfl]
  refine xn_bipush (iI 63) iL_law_36 (by decide) ?_
  refine xn_iand iL_law_38 ?_
  obtain ⟨k, hk, ek⟩ := and63 (iI (z i))
  have hS := hs k hk ek
  rw [show iI 63 = (63 : Int32) from rfl, ek]
  have kI : ∀ x' m' out', bdL x' → bdM m' → Post x' m' → xn_W (some (N, fun j => iI (z j), xt_E)) Nn mL_law rc rs 1299 (lwL i) [] (encZ x' m' out') Po := by
    intro x' m' out' h1 h2 h3
    refine xn_iinc iL_law_1299 rfl rfl (by decide) ?_
    refine xn_goto iL_law_1302 ?_
    have e5 : iI i + Int32.ofInt 5 = iI ((i + 5 : Nat) : Int) := by
      rw [show Int32.ofInt 5 = iI 5 from rfl, iI_add]
      rfl
    rw [e5]
    exact kk x' m' out' h1 h2 h3
  have kT : (iI k).toInt = k := iI_toInt ⟨by omega, by omega⟩
  match k, hk, hS, kT with
  | 0, hk, hS, kT => exact xn_tabI (tgt := 200) iL_law_39.1 (by rw [kT]; decide) (by rw [kT]; decide) (by rw [kT]; rfl) (by decide) (xn_wid (Nat.le_succ _) (Nat.le_add_right _ 6) (law_c0 i hi hN x m out hbx hbm hS kI))
  | 1, hk, hS, kT => exact xn_tabI (tgt := 225) iL_law_39.1 (by rw [kT]; decide) (by rw [kT]; decide) (by rw [kT]; rfl) (by decide) (xn_wid (Nat.le_succ _) (Nat.le_add_right _ 6) (law_c1 i hi hN x m out hbx hbm hS kI))
  | 2, hk, hS, kT => exact xn_tabI (tgt := 250) iL_law_39.1 (by rw [kT]; decide) (by rw [kT]; decide) (by rw [kT]; rfl) (by decide) (xn_wid (Nat.le_succ _) (Nat.le_add_right _ 6) (law_c2 i hi hN x m out hbx hbm hS kI))
  | 3, hk, hS, kT => exact xn_tabI (tgt := 311) iL_law_39.1 (by rw [kT]; decide) (by rw [kT]; decide) (by rw [kT]; rfl) (by decide) (xn_wid (Nat.le_succ _) (Nat.le_add_right _ 6) (law_c3 i hi hN x m out hbx hbm hS kI))
  | 4, hk, hS, kT => exact xn_tabI (tgt := 348) iL_law_39.1 (by rw [kT]; decide) (by rw [kT]; decide) (by rw [kT]; rfl) (by decide) (xn_wid (Nat.le_succ _) (Nat.le_add_right _ 6) (law_c4 i hi hN x m out hbx hbm hS kI))
  | 5, hk, hS, kT => exact xn_tabI (tgt := 409) iL_law_39.1 (by rw [kT]; decide) (by rw [kT]; decide) (by rw [kT]; rfl) (by decide) (xn_wid (Nat.le_succ _) (Nat.le_add_right _ 6) (law_c5 i hi hN x m out hbx hbm hS kI))
  | 6, hk, hS, kT => exact xn_tabI (tgt := 422) iL_law_39.1 (by rw [kT]; decide) (by rw [kT]; decide) (by rw [kT]; rfl) (by decide) (xn_wid (Nat.le_succ _) (Nat.le_add_right _ 6) (law_c6 i hi hN x m out hbx hbm hS kI))
  | 7, hk, hS, kT => exact xn_tabI (tgt := 459) iL_law_39.1 (by rw [kT]; decide) (by rw [kT]; decide) (by rw [kT]; rfl) (by decide) (xn_wid (Nat.le_succ _) (Nat.le_add_right _ 6) (law_c7 i hi hN x m out hbx hbm hS kI))
  | 8, hk, hS, kT => exact xn_tabI (tgt := 484) iL_law_39.1 (by rw [kT]; decide) (by rw [kT]; decide) (by rw [kT]; rfl) (by decide) (law_c8 i hi hN x m out hbx hbm (fun j => hz _) hS kI)
  | 9, hk, hS, kT => exact xn_tabI (tgt := 524) iL_law_39.1 (by rw [kT]; decide) (by rw [kT]; decide) (by rw [kT]; rfl) (by decide) (law_c9 i hi hN x m out hbx hbm (fun j => hz _) hS kI)
  | 10, hk, hS, kT => exact xn_tabI (tgt := 564) iL_law_39.1 (by rw [kT]; decide) (by rw [kT]; decide) (by rw [kT]; rfl) (by decide) (xn_wid (Nat.le_succ _) (Nat.le_add_right _ 6) (law_c10 i hi hN x m out hbx hbm hS kI))
  | 11, hk, hS, kT => exact xn_tabI (tgt := 601) iL_law_39.1 (by rw [kT]; decide) (by rw [kT]; decide) (by rw [kT]; rfl) (by decide) (law_c11 i hi hN x m out hbx hbm (fun j => hz _) hS kI)
  | 12, hk, hS, kT => exact xn_tabI (tgt := 641) iL_law_39.1 (by rw [kT]; decide) (by rw [kT]; decide) (by rw [kT]; rfl) (by decide) (xn_wid (Nat.le_succ _) (Nat.le_add_right _ 6) (law_c12 i hi hN x m out hbx hbm hS kI))
  | 13, hk, hS, kT => exact xn_tabI (tgt := 666) iL_law_39.1 (by rw [kT]; decide) (by rw [kT]; decide) (by rw [kT]; rfl) (by decide) (xn_wid (Nat.le_succ _) (Nat.le_add_right _ 6) (law_c13 i hi hN x m out hbx hbm hS kI))
  | 14, hk, hS, kT => exact xn_tabI (tgt := 679) iL_law_39.1 (by rw [kT]; decide) (by rw [kT]; decide) (by rw [kT]; rfl) (by decide) (xn_wid (Nat.le_succ _) (Nat.le_add_right _ 6) (law_c14 i hi hN x m out hbx hbm hS kI))
  | 15, hk, hS, kT => exact xn_tabI (tgt := 704) iL_law_39.1 (by rw [kT]; decide) (by rw [kT]; decide) (by rw [kT]; rfl) (by decide) (law_c15 i hi hN x m out hbx hbm (fun j => hz _) hS kI)
  | 16, hk, hS, kT => exact xn_tabI (tgt := 744) iL_law_39.1 (by rw [kT]; decide) (by rw [kT]; decide) (by rw [kT]; rfl) (by decide) (xn_wid (Nat.le_succ _) (Nat.le_add_right _ 6) (law_c16 i hi hN x m out hbx hbm hS kI))
  | 17, hk, hS, kT => exact xn_tabI (tgt := 769) iL_law_39.1 (by rw [kT]; decide) (by rw [kT]; decide) (by rw [kT]; rfl) (by decide) (xn_wid (Nat.le_succ _) (Nat.le_add_right _ 6) (law_c17 i hi hN x m out hbx hbm hS kI))
  | 18, hk, hS, kT => exact xn_tabI (tgt := 782) iL_law_39.1 (by rw [kT]; decide) (by rw [kT]; decide) (by rw [kT]; rfl) (by decide) (xn_wid (Nat.le_succ _) (Nat.le_add_right _ 6) (law_c18 i hi hN x m out hbx hbm hS kI))
  | 19, hk, hS, kT => exact xn_tabI (tgt := 819) iL_law_39.1 (by rw [kT]; decide) (by rw [kT]; decide) (by rw [kT]; rfl) (by decide) (xn_wid (Nat.le_succ _) (Nat.le_add_right _ 6) (law_c19 i hi hN x m out hbx hbm hS kI))
  | 20, hk, hS, kT => exact xn_tabI (tgt := 832) iL_law_39.1 (by rw [kT]; decide) (by rw [kT]; decide) (by rw [kT]; rfl) (by decide) (xn_wid (Nat.le_succ _) (Nat.le_add_right _ 6) (law_c20 i hi hN x m out hbx hbm hS kI))
  | 21, hk, hS, kT => exact xn_tabI (tgt := 845) iL_law_39.1 (by rw [kT]; decide) (by rw [kT]; decide) (by rw [kT]; rfl) (by decide) (xn_wid (Nat.le_succ _) (Nat.le_add_right _ 6) (law_c21 i hi hN x m out hbx hbm hS kI))
  | 22, hk, hS, kT => exact xn_tabI (tgt := 858) iL_law_39.1 (by rw [kT]; decide) (by rw [kT]; decide) (by rw [kT]; rfl) (by decide) (xn_wid (Nat.le_succ _) (Nat.le_add_right _ 6) (law_c22 i hi hN x m out hbx hbm hS kI))
  | 23, hk, hS, kT => exact xn_tabI (tgt := 883) iL_law_39.1 (by rw [kT]; decide) (by rw [kT]; decide) (by rw [kT]; rfl) (by decide) (xn_wid (Nat.le_succ _) (Nat.le_add_right _ 6) (law_c23 i hi hN x m out hbx hbm hS kI))
  | 24, hk, hS, kT => exact xn_tabI (tgt := 944) iL_law_39.1 (by rw [kT]; decide) (by rw [kT]; decide) (by rw [kT]; rfl) (by decide) (xn_wid (Nat.le_succ _) (Nat.le_add_right _ 6) (law_c24 i hi hN x m out hbx hbm hS kI))
  | 25, hk, hS, kT => exact xn_tabI (tgt := 969) iL_law_39.1 (by rw [kT]; decide) (by rw [kT]; decide) (by rw [kT]; rfl) (by decide) (xn_wid (Nat.le_succ _) (Nat.le_add_right _ 6) (law_c25 i hi hN x m out hbx hbm hS kI))
  | 26, hk, hS, kT => exact xn_tabI (tgt := 982) iL_law_39.1 (by rw [kT]; decide) (by rw [kT]; decide) (by rw [kT]; rfl) (by decide) (xn_wid (Nat.le_succ _) (Nat.le_add_right _ 6) (law_c26 i hi hN x m out hbx hbm hS kI))
  | 27, hk, hS, kT => exact xn_tabI (tgt := 1019) iL_law_39.1 (by rw [kT]; decide) (by rw [kT]; decide) (by rw [kT]; rfl) (by decide) (xn_wid (Nat.le_succ _) (Nat.le_add_right _ 6) (law_c27 i hi hN x m out hbx hbm hS kI))
  | 28, hk, hS, kT => exact xn_tabI (tgt := 1068) iL_law_39.1 (by rw [kT]; decide) (by rw [kT]; decide) (by rw [kT]; rfl) (by decide) (xn_wid (Nat.le_succ _) (Nat.le_add_right _ 6) (law_c28 i hi hN x m out hbx hbm hS kI))
  | 29, hk, hS, kT => exact xn_tabI (tgt := 1093) iL_law_39.1 (by rw [kT]; decide) (by rw [kT]; decide) (by rw [kT]; rfl) (by decide) (law_c29 i hi hN x m out hbx hbm (fun j => hz _) hS kI)
  | 30, hk, hS, kT => exact xn_tabI (tgt := 1133) iL_law_39.1 (by rw [kT]; decide) (by rw [kT]; decide) (by rw [kT]; rfl) (by decide) (xn_wid (Nat.le_succ _) (Nat.le_add_right _ 6) (law_c30 i hi hN x m out hbx hbm hS kI))
  | 31, hk, hS, kT => exact xn_tabI (tgt := 1146) iL_law_39.1 (by rw [kT]; decide) (by rw [kT]; decide) (by rw [kT]; rfl) (by decide) (xn_wid (Nat.le_succ _) (Nat.le_add_right _ 6) (law_c31 i hi hN x m out hbx hbm hS kI))
  | 32, hk, hS, kT => exact xn_tabI (tgt := 1159) iL_law_39.1 (by rw [kT]; decide) (by rw [kT]; decide) (by rw [kT]; rfl) (by decide) (xn_wid (Nat.le_succ _) (Nat.le_add_right _ 6) (law_c32 i hi hN x m out hbx hbm hS kI))
  | 33, hk, hS, kT => exact xn_tabI (tgt := 1196) iL_law_39.1 (by rw [kT]; decide) (by rw [kT]; decide) (by rw [kT]; rfl) (by decide) (xn_wid (Nat.le_succ _) (Nat.le_add_right _ 6) (law_c33 i hi hN x m out hbx hbm hS kI))
  | 34, hk, hS, kT => exact xn_tabI (tgt := 1221) iL_law_39.1 (by rw [kT]; decide) (by rw [kT]; decide) (by rw [kT]; rfl) (by decide) (xn_wid (Nat.le_succ _) (Nat.le_add_right _ 6) (law_c34 i hi hN x m out hbx hbm hS kI))
  | 35, hk, hS, kT => exact xn_tabI (tgt := 1246) iL_law_39.1 (by rw [kT]; decide) (by rw [kT]; decide) (by rw [kT]; rfl) (by decide) (xn_wid (Nat.le_succ _) (Nat.le_add_right _ 6) (law_c35 i hi hN x m out hbx hbm hS kI))
  | 36, hk, hS, kT => exact xn_tabI (tgt := 1271) iL_law_39.1 (by rw [kT]; decide) (by rw [kT]; decide) (by rw [kT]; rfl) (by decide) (law_c36 i hi hN x m out hbx hbm (fun j => hz _) hS kI)
  | k + 37, hk, hS, kT => exact xn_tabO (tgt := 1299) iL_law_39.1 (Or.inr (by rw [kT]; omega)) (by decide) (xn_wid (Nat.le_succ _) (Nat.le_add_right _ 6) (kI x m out hbx hbm hS))
end LT
end
-- 992.pr
section
/-! ===== the law: its beginning ===== -/
theorem xl_ok_sh {π : Nat → Nat} {j : Nat} (h : ∀ d, π (j + d) = π j + d) (c : XE) : xl_ok π j c := by
  intro aC ρ σ
  cases c with
  | inl a =>
    obtain ⟨t, n, f | f | f | f | f⟩ := a <;> first | rfl | (simp only [xl_c, xl_a, h])
  | inr o => simp only [xl_c, h]
def piZ (j : Nat) : Nat := bif Nat.blt j 137 then j else bif Nat.beq j 137 then 150 else j - 1
theorem piZ_lo {j : Nat} (h : j < 137) : piZ j = j := by
  have e : Nat.blt j 137 = true := Nat.ble_eq_true_of_le h
  unfold piZ
  rw [e]; rfl
theorem piZ_hi (k : Nat) : piZ (138 + k) = 137 + k := by
  have e : Nat.blt (138 + k) 137 = false := by
    cases h : Nat.blt (138 + k) 137 with
    | false => rfl
    | true => exact absurd (xn_blt h) (by omega)
  have e2 : Nat.beq (138 + k) 137 = false := by
    cases h : Nat.beq (138 + k) 137 with
    | false => rfl
    | true => exact absurd (Nat.eq_of_beq_eq_true h) (by omega)
  unfold piZ
  rw [e, e2]
  show 138 + k - 1 = _
  omega
theorem piZ_inj : ∀ i, i < 151 → ∀ j, j < 151 → piZ i = piZ j → i = j := by
  intro i hi j hj e
  have key : ∀ i, i < 151 → (i < 137 ∧ piZ i = i) ∨ (i = 137 ∧ piZ i = 150) ∨ (137 < i ∧ piZ i + 1 = i) := by
    intro i hi
    rcases Nat.lt_trichotomy i 137 with h | h | h
    · exact Or.inl ⟨h, piZ_lo h⟩
    · subst h; exact Or.inr (Or.inl ⟨rfl, rfl⟩)
    · obtain ⟨k, rfl⟩ : ∃ k, i = 138 + k := ⟨i - 138, by omega⟩
      exact Or.inr (Or.inr ⟨h, by rw [piZ_hi]; omega⟩)
  rcases key i hi with h1 | h1 | h1 <;> rcases key j hj with h2 | h2 | h2 <;> omega
theorem piZ_u : ∀ i, i < 6 → piZ (1 + (32 + 13 * i)) = 1 + (32 + 13 * i) := fun i hi => piZ_lo (by omega)
theorem piZ_k : ∀ i, i < 2 → piZ (2 + (109 + 13 * i)) = 2 + (109 + 13 * i) := fun i hi => piZ_lo (by omega)
def natZ (s : LSt) (m : MS) : XH := (encN s ++ encM m) ++ [xL 1 (fun _ => 0)]
theorem natZ_lo (s : LSt) (m : MS) {j : Nat} (h : j < 137) : (natZ s m)[j]? = (encN s)[j]? := by
  rw [natZ, List.append_assoc, List.getElem?_append_left (by rw [lenN137]; exact h)]
theorem natZ_hi (s : LSt) (m : MS) {k : Nat} (h : k < 13) : (natZ s m)[137 + k]? = (encM m)[k]? := by
  rw [natZ, List.append_assoc, List.getElem?_append_right (by rw [lenN137]; omega), lenN137, show 137 + k - 137 = k by omega, List.getElem?_append_left (by rw [lenM13]; exact h)]
theorem natZ_o (s : LSt) (m : MS) : (natZ s m)[150]? = some (xL 1 (fun _ => 0)) := by
  rw [natZ, List.getElem?_append_right (by rw [List.length_append, lenN137, lenM13]; decide), List.length_append, lenN137, lenM13]
  rfl
theorem encZ_lo (s : LSt) (m : MS) (out : Nat → Int) {j : Nat} (h : j < 137) : (encZ s m out)[j]? = (encL s)[j]? := by
  rw [encZ, List.getElem?_append_left (by rw [lenL137]; exact h)]
theorem encZ_hi (s : LSt) (m : MS) (out : Nat → Int) (k : Nat) : (encZ s m out)[138 + k]? = (encM m)[k]? := by
  rw [encZ, List.getElem?_append_right (by rw [lenL137]; omega), lenL137, show 138 + k - 137 = k + 1 by omega, List.getElem?_cons_succ]
theorem encZ_o (s : LSt) (m : MS) (out : Nat → Int) : (encZ s m out)[137]? = some (xL 1 out) := by
  rw [encZ, List.getElem?_append_right (by rw [lenL137]; decide), lenL137]
  rfl
theorem natZ_perm (s : LSt) (m : MS) : ∀ j c, (encZ s m (fun _ => 0))[j]? = some c → ∃ c', (natZ s m)[piZ j]? = some c' ∧ xn_sm piZ j c (piZ j) c' := by
  intro j c hc
  rcases Nat.lt_trichotomy j 137 with h | h | h
  · rw [piZ_lo h, natZ_lo s m h]
    rw [encZ_lo _ _ _ h] at hc
    rcases encL_split j with h | ⟨q, i, hq, hi, rfl⟩ | h
    · rw [encL_h _ h] at hc
      rw [encN_h _ h]
      match j, h, hc with
      | 0, _, hc => cases hc; exact ⟨_, rfl, fun D aC ρ σ a H q => q⟩
      | 1, _, hc => cases hc; exact ⟨_, rfl, xn_sm_q (fun i hi => ⟨_, _, rfl, hdN_u i hi, piZ_u i hi⟩)⟩
      | 2, _, hc => cases hc; exact ⟨_, rfl, xn_sm_q (fun i hi => ⟨_, _, rfl, hdN_k i hi, piZ_k i hi⟩)⟩
      | 3, _, hc => cases hc; exact ⟨_, rfl, fun D aC ρ σ a H q => q⟩
      | 4, _, hc => cases hc; exact ⟨_, rfl, fun D aC ρ σ a H q => q⟩
      | 5, _, hc => cases hc; exact ⟨_, rfl, fun D aC ρ σ a H q => q⟩
      | 6, _, hc => cases hc; exact ⟨_, rfl, fun D aC ρ σ a H q => q⟩
    · rw [encL_w _ hq hi] at hc
      rw [encN_w _ hq hi]
      refine ⟨c, hc, ?_⟩
      have h9 := xn_sm_ok (π := piZ) (j := 7 + 13 * q + i) (c := c) ?_
      · rw [piZ_lo h] at h9
        exact h9
      intro aC ρ σ
      have h1 := encW_ref _ hc (fun k => piZ (7 + 13 * q + k)) (fun d hd => by
        show piZ (7 + 13 * q + (i + d)) = piZ (7 + 13 * q + i) + d
        rw [piZ_lo (by omega), piZ_lo (by omega)]; omega) aC ρ σ
      rw [← xl_ok_add (7 + 13 * q) i c aC (fun k => ρ (piZ k)) σ]
      exact h1
    · omega
  · subst h
    rw [encZ_o] at hc
    cases hc
    exact ⟨_, natZ_o s m, fun D aC ρ σ a H q => q⟩
  · obtain ⟨k, rfl⟩ : ∃ k, j = 138 + k := ⟨j - 138, by omega⟩
    rw [encZ_hi] at hc
    have hk : k < 13 := by
      have := (List.getElem?_eq_some_iff.mp hc).1
      rw [lenM13] at this
      exact this
    refine ⟨c, by rw [piZ_hi, natZ_hi s m hk]; exact hc, xn_sm_ok (xl_ok_sh (fun d => ?_) c)⟩
    rw [Nat.add_assoc, piZ_hi, piZ_hi, Nat.add_assoc]
theorem encM_cl (m : MS) {n j : Nat} (h : j + 13 ≤ n) : xn_cl n j (encM m) := by
  refine xn_cl_mono (n := j + 13) (k := j) (by omega) ?_
  refine ⟨?_, trivial, trivial, trivial, trivial, trivial, trivial, trivial, trivial, trivial, trivial, trivial, trivial, trivial⟩
  have e : ∀ d, d < 13 → Nat.blt (j + d) (j + 13) = true := fun d hd => Nat.ble_eq_true_of_le (by omega)
  show List.all _ (xn_vl (j + 13) j) = true
  simp only [List.all_cons, List.all_nil, xn_vl, e 1 (by decide), e 2 (by decide), e 3 (by decide), e 4 (by decide), e 5 (by decide), e 6 (by decide), e 7 (by decide), e 8 (by decide), e 9 (by decide), e 10 (by decide), e 11 (by decide), e 12 (by decide), Bool.and_self, Bool.and_true]
set_option maxRecDepth 100000 in
theorem law_pro {N : Nat} {z : Nat → Int} {rc rs : Nat} {Po : Option (Option Value) → XH → Prop} (kk : bdL s1 → bdM m1 → xn_W (some (N, fun j => iI (z j), xt_E)) 0 mL_law rc rs 23 (lwL 0) [] (encZ s1 m1 (fun _ => 0)) Po) : xn_W (some (N, fun j => iI (z j), xt_E)) 0 mL_law (rc + 1 + 12 + 1 + 136 + 1) (rs + 1 + 31669 + 23 + 30305 + 13) 0 [some (.float 99), none, none, none, none, none, none, none] [] [] Po := by
  refine xn_new (rc := rc + 1 + 12 + 1 + 136) (rs := rs + 1 + 31669 + 23 + 30305) iL_law_0 (Nat.zero_le _) (xn_fr_ok ⟨Nat.le_refl _, trivial, rfl, rfl⟩) (fun _ _ => rfl) ?_
  refine xn_dup iL_law_3 rfl ?_
  refine xn_callI (rc := rc + 1 + 12 + 1) (rs := rs + 1 + 31669 + 23) (h0 := []) (As := []) (rest := [.ref 0]) iL_law_4 nkX2_init rfl rfl rfl (by decide) ⟨Nat.le_succ _, trivial, rfl, rfl⟩ (Nat.zero_le _) cX2_init_ok (fun h' e => ?_)
  obtain ⟨rfl, hb1⟩ := e
  rw [List.nil_append]
  refine xn_astore_n iL_law_7 rfl (by decide) ?_
  have l0 := lenN137 s1
  refine xn_new (rc := rc + 1 + 12) (rs := rs + 1 + 31669) iL_law_8 (Nat.zero_le _) (xn_fr_ok ⟨Nat.le_refl _, by rw [l0]; exact encN_cl s1 (Nat.le_refl _), rfl, by rw [l0]; rfl⟩) (fun _ _ => rfl) ?_
  refine xn_dup iL_law_11 rfl ?_
  refine xn_callI (rc := rc + 1) (rs := rs + 1) (h0 := encN s1) (As := []) (rest := [.ref (encN s1).length]) iL_law_12 nkX3_init rfl rfl rfl (by simp [xl_1]) ⟨Nat.le_succ _, by rw [l0]; exact encN_cl s1 (by decide), by rw [l0]; rfl, by rw [l0]; rfl⟩ (Nat.zero_le _) cX3_init_ok (fun h' e => ?_)
  obtain ⟨rfl, hb2⟩ := e
  refine xn_astore_n iL_law_15 rfl (by decide) ?_
  have l1 : (encN s1 ++ encM m1).length = 150 := by rw [List.length_append, l0, lenM13]
  refine xn_iconst (iI 1) iL_law_16 rfl ?_
  refine xn_newa (rc := rc) (rs := rs) (t := 1) (a0 := (1, .inr (.inl (fun _ => lI 0)))) iL_law_17 ac_l (fun _ => rfl) newl (by decide) (by decide) (by decide) (Nat.zero_le _) (xn_fr_ok ⟨Nat.le_refl _, ?_, rfl, ?_⟩) (fun _ _ => rfl) ?_
  · rw [l1]
    exact xn_cl_app (encN_cl s1 (by decide)) (encM_cl m1 (by rw [l0]; decide))
  · rw [l1, l0]
    rfl
  refine xn_astore_n iL_law_19 rfl (by decide) ?_
  refine xn_iconst (iI 0) iL_law_20 rfl ?_
  refine xn_istore iL_law_21 rfl (by decide) ?_
  refine xn_permL (h := natZ s1 m1) piZ (hl := encZ s1 m1 (fun _ => 0)) (L' := lwL 0) (fun i j hi hj e => ?_) (natZ_perm s1 m1) (fun i hi => absurd hi (Nat.not_lt_zero _)) (fun ρ σ i v hv => ?_) (kk hb1 hb2)
  · rw [lenZ] at hi hj
    exact piZ_inj i hi j hj e
  · rw [l0, l1]
    match i, hv with
    | 0, hv => cases hv; exact ⟨_, rfl, rfl⟩
    | 1, hv => cases hv; exact ⟨_, rfl, rfl⟩
    | 2, hv => cases hv; exact ⟨_, rfl, rfl⟩
    | 3, hv => cases hv; exact ⟨_, rfl, rfl⟩
    | 4, hv => cases hv; exact ⟨_, rfl, rfl⟩
    | 5, hv => cases hv
    | 6, hv => cases hv
    | 7, hv => cases hv
    | i + 8, hv => cases hv
end
-- 993.rl
section
/-! ===== the law's relation is kept by every case (by program) ===== -/
section RL
variable {z : Nat → Int} {i : Nat} {x : LSt} {m : MS}
theorem rl_0 (h : lwR x m) (hz : ∀ j, xB (z (i + j))) : sX2_sign (z (i + 1)) x (fun v x' => ∃ q, v = [pI q] ∧ sX3_sign (z (i + 1)) m (fun w m' => (∃ q, w = [pI q]) ∧ lwR x' m')) := by
  exact st_sign (hz 1) h (fun q x' m' r => ⟨by first | rfl | exact ⟨_, rfl⟩, r⟩)
theorem rl_1 (h : lwR x m) (hz : ∀ j, xB (z (i + j))) : sX2_end (z (i + 1)) x (fun v x' => ∃ q, v = [pI q] ∧ sX3_end (z (i + 1)) m (fun w m' => (∃ q, w = [pI q]) ∧ lwR x' m')) := by
  exact st_end (hz 1) h (fun q x' m' r => ⟨by first | rfl | exact ⟨_, rfl⟩, r⟩)
theorem rl_2 (h : lwR x m) (hz : ∀ j, xB (z (i + j))) : sX2_start (z (i + 1)) (z (i + 2)) (z (i + 3)) (z (i + 4)) x (fun v x' => ∃ q, v = [pI q] ∧ sX3_start (z (i + 1)) (z (i + 2)) (z (i + 3)) (z (i + 4)) m (fun w m' => (∃ q, w = [pI q]) ∧ lwR x' m')) := by
  exact st_start (hz 1) (hz 2) (hz 3) (hz 4) h (fun q x' m' r => ⟨by first | rfl | exact ⟨_, rfl⟩, r⟩)
theorem rl_3 (h : lwR x m) (hz : ∀ j, xB (z (i + j))) : sX2_delays (z (i + 1)) (z (i + 2)) x (fun v x' => ∃ q, v = [pI q] ∧ sX3_delays (z (i + 1)) (z (i + 2)) m (fun w m' => (∃ q, w = [pI q]) ∧ lwR x' m')) := by
  exact st_delays (hz 1) (hz 2) h (fun q x' m' r => ⟨by first | rfl | exact ⟨_, rfl⟩, r⟩)
theorem rl_4 (h : lwR x m) (hz : ∀ j, xB (z (i + j))) : sX2_event (z (i + 1)) (z (i + 2)) (z (i + 3)) (z (i + 4)) x (fun v x' => ∃ q, v = [pI q] ∧ sX3_event (z (i + 1)) (z (i + 2)) (z (i + 3)) (z (i + 4)) m (fun w m' => (∃ q, w = [pI q]) ∧ lwR x' m')) := by
  exact st_event (hz 1) (hz 2) (hz 3) (hz 4) h (fun q x' m' r => ⟨by first | rfl | exact ⟨_, rfl⟩, r⟩)
theorem rl_5 (h : lwR x m) (hz : ∀ j, xB (z (i + j))) : sX2_events x (fun v x' => ∃ q, v = [pI q] ∧ sX3_events m (fun w m' => (∃ q, w = [pI q]) ∧ lwR x' m')) := by
  exact st_events h (fun q x' m' r => ⟨by first | rfl | exact ⟨_, rfl⟩, r⟩)
theorem rl_6 (h : lwR x m) (hz : ∀ j, xB (z (i + j))) : sX2_marks (z (i + 1)) (z (i + 2)) x (fun v x' => ∃ q, v = [pI q] ∧ sX3_marks (z (i + 1)) (z (i + 2)) m (fun w m' => (∃ q, w = [pI q]) ∧ lwR x' m')) := by
  exact st_marks (hz 1) (hz 2) h (fun q b x' m' r => ⟨⟨_, rfl⟩, r⟩)
theorem rl_7 (h : lwR x m) (hz : ∀ j, xB (z (i + j))) : sX2_idles (z (i + 1)) x (fun v x' => ∃ q, v = [pI q] ∧ sX3_idles (z (i + 1)) m (fun w m' => (∃ q, w = [pI q]) ∧ lwR x' m')) := by
  exact st_idles (hz 1) h (fun q b x' m' r => ⟨⟨_, rfl⟩, r⟩)
theorem rl_8 (h : lwR x m) (hz : ∀ j, xB (z (i + j))) : (lSrc x (z (i + 1)) ∧ 0 ≤ z (i + 2) ∧ z (i + 2) ≤ 5 → sX3_source (z (i + 1)) (z (i + 2)) m (fun w m' => (∃ q, w = [pI q]) ∧ lwR x m')) ∧ (¬ (lSrc x (z (i + 1)) ∧ 0 ≤ z (i + 2) ∧ z (i + 2) ≤ 5) → sX3_source (z (i + 1)) (z (i + 2)) m (fun w m' => (∃ q, w = [pI q]) ∧ lwR x m')) := by
  exact st_source (hz 1) (hz 2) h (fun m' t r => by first | exact ⟨rfl, t, r⟩ | exact ⟨⟨_, rfl⟩, r⟩) (fun b m' t r => by first | exact ⟨⟨_, rfl⟩, t, r⟩ | exact ⟨⟨_, rfl⟩, r⟩)
theorem rl_9 (h : lwR x m) (hz : ∀ j, xB (z (i + j))) : ((0 ≤ z (i + 1) ∧ z (i + 1) < wZ (x.2.2 0) 1) ∧ 0 ≤ z (i + 2) ∧ z (i + 2) ≤ 7 → sX3_session (z (i + 1)) (z (i + 2)) m (fun w m' => (∃ q, w = [pI q]) ∧ lwR x m')) ∧ (¬ ((0 ≤ z (i + 1) ∧ z (i + 1) < wZ (x.2.2 0) 1) ∧ 0 ≤ z (i + 2) ∧ z (i + 2) ≤ 7) → sX3_session (z (i + 1)) (z (i + 2)) m (fun w m' => (∃ q, w = [pI q]) ∧ lwR x m')) := by
  exact ⟨fun _ => st_session (hz 1) (hz 2) h (fun b m' r => ⟨⟨_, rfl⟩, r⟩), fun _ => st_session (hz 1) (hz 2) h (fun b m' r => ⟨⟨_, rfl⟩, r⟩)⟩
theorem rl_10 (h : lwR x m) (hz : ∀ j, xB (z (i + j))) : sX2_at (z (i + 1)) (z (i + 2)) x (fun v x' => ∃ q, v = [pI q] ∧ sX3_at (z (i + 1)) (z (i + 2)) m (fun w m' => (∃ q, w = [pI q]) ∧ lwR x' m')) := by
  exact st_at (hz 1) (hz 2) h (fun q b x' m' r => ⟨⟨_, rfl⟩, r⟩)
theorem rl_11 (h : lwR x m) (hz : ∀ j, xB (z (i + j))) : (ofLatest (z (i + 1)) ((x.2.2 0).1 4) 60 ∧ 0 ≤ z (i + 2) ∧ z (i + 2) < 6 → sX3_message (z (i + 1)) (z (i + 2)) m (fun w m' => (∃ q, w = [pI q]) ∧ lwR x m')) ∧ (¬ (ofLatest (z (i + 1)) ((x.2.2 0).1 4) 60 ∧ 0 ≤ z (i + 2) ∧ z (i + 2) < 6) → sX3_message (z (i + 1)) (z (i + 2)) m (fun w m' => (∃ q, w = [pI q]) ∧ lwR x m')) := by
  exact ⟨fun _ => st_message (hz 1) (hz 2) h (fun b m' r => ⟨⟨_, rfl⟩, r⟩), fun _ => st_message (hz 1) (hz 2) h (fun b m' r => ⟨⟨_, rfl⟩, r⟩)⟩
theorem rl_12 (h : lwR x m) (hz : ∀ j, xB (z (i + j))) : sX2_sent (z (i + 1)) x (fun v x' => ∃ q, v = [pI q] ∧ sX3_sent (z (i + 1)) m (fun w m' => (∃ q, w = [pI q]) ∧ lwR x' m')) := by
  exact st_sent (hz 1) h (fun q b x' m' r => ⟨⟨_, rfl⟩, r⟩)
theorem rl_13 (h : lwR x m) (hz : ∀ j, xB (z (i + j))) : sX2_stands x (fun v x' => ∃ q, v = [pI q] ∧ sX3_stands m (fun w m' => (∃ q, w = [pI q]) ∧ lwR x' m')) := by
  exact st_stands h (fun q b x' m' r => ⟨⟨_, rfl⟩, r⟩)
theorem rl_14 (h : lwR x m) (hz : ∀ j, xB (z (i + j))) : sX2_closed (z (i + 1)) x (fun v x' => ∃ q, v = [pI q] ∧ sX3_closed (z (i + 1)) m (fun w m' => (∃ q, w = [pI q]) ∧ lwR x' m')) := by
  exact st_closed (hz 1) h (fun q b x' m' r => ⟨⟨_, rfl⟩, r⟩)
theorem rl_15 (h : lwR x m) (hz : ∀ j, xB (z (i + j))) : (ofLatest (z (i + 1)) ((x.2.2 0).1 5) 40 ∧ 0 ≤ z (i + 2) ∧ z (i + 2) < 7 → sX3_finals (z (i + 1)) (z (i + 2)) m (fun w m' => (∃ q, w = [pI q]) ∧ lwR x m')) ∧ (¬ (ofLatest (z (i + 1)) ((x.2.2 0).1 5) 40 ∧ 0 ≤ z (i + 2) ∧ z (i + 2) < 7) → sX3_finals (z (i + 1)) (z (i + 2)) m (fun w m' => (∃ q, w = [pI q]) ∧ lwR x m')) := by
  exact ⟨fun _ => st_finals (hz 1) (hz 2) h (fun b m' r => ⟨⟨_, rfl⟩, r⟩), fun _ => st_finals (hz 1) (hz 2) h (fun b m' r => ⟨⟨_, rfl⟩, r⟩)⟩
theorem rl_16 (h : lwR x m) (hz : ∀ j, xB (z (i + j))) : sX2_kinds (z (i + 1)) x (fun v x' => ∃ q, v = [pI q] ∧ sX3_kinds (z (i + 1)) m (fun w m' => (∃ q, w = [pI q]) ∧ lwR x' m')) := by
  exact st_kinds (hz 1) h (fun q b x' m' r => ⟨⟨_, rfl⟩, r⟩)
theorem rl_17 (h : lwR x m) (hz : ∀ j, xB (z (i + j))) : sX2_slow x (fun v x' => ∃ q, v = [pI q] ∧ sX3_slow m (fun w m' => (∃ q, w = [pI q]) ∧ lwR x' m')) := by
  exact st_slow h (fun q b x' m' r => ⟨⟨_, rfl⟩, r⟩)
theorem rl_18 (h : lwR x m) (hz : ∀ j, xB (z (i + j))) : sX2_span (z (i + 1)) (z (i + 2)) x (fun v x' => ∃ q, v = [pI q] ∧ sX3_span (z (i + 1)) (z (i + 2)) m (fun w m' => (∃ q, w = [pI q]) ∧ lwR x' m')) := by
  exact st_span (hz 1) (hz 2) h (fun q b x' m' r => ⟨⟨_, rfl⟩, r⟩)
theorem rl_19 (h : lwR x m) (hz : ∀ j, xB (z (i + j))) : sX2_taken x (fun v x' => ∃ q, v = [pI q] ∧ sX3_taken m (fun w m' => (∃ q, w = [pI q]) ∧ lwR x' m')) := by
  exact st_taken h (fun q x' m' r => ⟨by first | rfl | exact ⟨_, rfl⟩, r⟩)
theorem rl_20 (h : lwR x m) (hz : ∀ j, xB (z (i + j))) : sX2_holds x (fun v x' => ∃ q, v = [pI q] ∧ sX3_holds m (fun w m' => (∃ q, w = [pI q]) ∧ lwR x' m')) := by
  exact st_holds h (fun q b x' m' r => ⟨⟨_, rfl⟩, r⟩)
theorem rl_21 (h : lwR x m) (hz : ∀ j, xB (z (i + j))) : sX2_next x (fun v x' => ∃ q, v = [pI q] ∧ sX3_next m (fun w m' => (∃ q, w = [pI q]) ∧ lwR x' m')) := by
  exact st_next h (fun q b x' m' r => ⟨⟨_, rfl⟩, r⟩)
theorem rl_22 (h : lwR x m) (hz : ∀ j, xB (z (i + j))) : sX2_ahead (z (i + 1)) x (fun v x' => ∃ q, v = [pI q] ∧ sX3_ahead (z (i + 1)) m (fun w m' => (∃ q, w = [pI q]) ∧ lwR x' m')) := by
  exact st_ahead (hz 1) h (fun q b x' m' r => ⟨⟨_, rfl⟩, r⟩)
theorem rl_23 (h : lwR x m) (hz : ∀ j, xB (z (i + j))) : sX2_would (z (i + 1)) (z (i + 2)) (z (i + 3)) (z (i + 4)) x (fun v x' => ∃ q, v = [pI q] ∧ sX3_would (z (i + 1)) (z (i + 2)) (z (i + 3)) (z (i + 4)) m (fun w m' => (∃ q, w = [pI q]) ∧ lwR x' m')) := by
  exact st_would (hz 1) (hz 2) (hz 3) (hz 4) h (fun q x' m' r => ⟨by first | rfl | exact ⟨_, rfl⟩, r⟩)
theorem rl_24 (h : lwR x m) (hz : ∀ j, xB (z (i + j))) : sX2_batch (z (i + 1)) x (fun v x' => ∃ q, v = [pI q] ∧ sX3_batch (z (i + 1)) m (fun w m' => (∃ q, w = [pI q]) ∧ lwR x' m')) := by
  exact st_batch (hz 1) h (fun q b x' m' r => ⟨⟨_, rfl⟩, r⟩)
theorem rl_25 (h : lwR x m) (hz : ∀ j, xB (z (i + j))) : sX2_latest x (fun v x' => ∃ q, v = [pI q] ∧ sX3_latest m (fun w m' => (∃ q, w = [pI q]) ∧ lwR x' m')) := by
  exact st_latest h (fun q b x' m' r => ⟨⟨_, rfl⟩, r⟩)
theorem rl_26 (h : lwR x m) (hz : ∀ j, xB (z (i + j))) : sX2_parts (z (i + 1)) (z (i + 2)) x (fun v x' => ∃ q, v = [pI q] ∧ sX3_parts (z (i + 1)) (z (i + 2)) m (fun w m' => (∃ q, w = [pI q]) ∧ lwR x' m')) := by
  exact st_parts (hz 1) (hz 2) h (fun q b x' m' r => ⟨⟨_, rfl⟩, r⟩)
theorem rl_27 (h : lwR x m) (hz : ∀ j, xB (z (i + j))) : sX2_again (z (i + 1)) (z (i + 2)) (z (i + 3)) x (fun v x' => ∃ q, v = [pI q] ∧ sX3_again (z (i + 1)) (z (i + 2)) (z (i + 3)) m (fun w m' => (∃ q, w = [pI q]) ∧ lwR x' m')) := by
  exact st_again (hz 1) (hz 2) (hz 3) h (fun q b x' m' r => ⟨⟨_, rfl⟩, r⟩)
theorem rl_28 (h : lwR x m) (hz : ∀ j, xB (z (i + j))) : sX2_without (z (i + 1)) x (fun v x' => ∃ q, v = [pI q] ∧ sX3_without (z (i + 1)) m (fun w m' => (∃ q, w = [pI q]) ∧ lwR x' m')) := by
  exact st_without (hz 1) h (fun q b x' m' r => ⟨⟨_, rfl⟩, r⟩)
theorem rl_29 (h : lwR x m) (hz : ∀ j, xB (z (i + j))) : ((0 ≤ z (i + 1) ∧ z (i + 1) < wZ (x.2.2 0) 4) ∧ 0 ≤ z (i + 2) ∧ z (i + 2) ≤ 3 → sX3_input (z (i + 1)) (z (i + 2)) m (fun w m' => (∃ q, w = [pI q]) ∧ lwR x m')) ∧ (¬ ((0 ≤ z (i + 1) ∧ z (i + 1) < wZ (x.2.2 0) 4) ∧ 0 ≤ z (i + 2) ∧ z (i + 2) ≤ 3) → sX3_input (z (i + 1)) (z (i + 2)) m (fun w m' => (∃ q, w = [pI q]) ∧ lwR x m')) := by
  exact st_input (hz 1) (hz 2) h (fun m' t r => by first | exact ⟨rfl, t, r⟩ | exact ⟨⟨_, rfl⟩, r⟩) (fun b m' t r => by first | exact ⟨⟨_, rfl⟩, t, r⟩ | exact ⟨⟨_, rfl⟩, r⟩)
theorem rl_30 (h : lwR x m) (hz : ∀ j, xB (z (i + j))) : sX2_day x (fun v x' => ∃ q, v = [pI q] ∧ sX3_day m (fun w m' => (∃ q, w = [pI q]) ∧ lwR x' m')) := by
  exact st_day h (fun q x' m' r => ⟨by first | rfl | exact ⟨_, rfl⟩, r⟩)
theorem rl_31 (h : lwR x m) (hz : ∀ j, xB (z (i + j))) : sX2_undo x (fun v x' => ∃ q, v = [pI q] ∧ sX3_undo m (fun w m' => (∃ q, w = [pI q]) ∧ lwR x' m')) := by
  exact st_undo h (fun q x' m' r => ⟨by first | rfl | exact ⟨_, rfl⟩, r⟩)
theorem rl_32 (h : lwR x m) (hz : ∀ j, xB (z (i + j))) : sX2_years (z (i + 1)) (z (i + 2)) x (fun v x' => ∃ q, v = [pI q] ∧ sX3_years (z (i + 1)) (z (i + 2)) m (fun w m' => (∃ q, w = [pI q]) ∧ lwR x' m')) := by
  exact st_years (hz 1) (hz 2) h (fun q b x' m' r => ⟨⟨_, rfl⟩, r⟩)
theorem rl_33 (h : lwR x m) (hz : ∀ j, xB (z (i + j))) : sX2_keep (z (i + 1)) x (fun v x' => ∃ q, v = [pI q] ∧ sX3_keep (z (i + 1)) m (fun w m' => (∃ q, w = [pI q]) ∧ lwR x' m')) := by
  exact st_keep (hz 1) h (fun q x' m' r => ⟨by first | rfl | exact ⟨_, rfl⟩, r⟩)
theorem rl_34 (h : lwR x m) (hz : ∀ j, xB (z (i + j))) : sX2_back (z (i + 1)) x (fun v x' => ∃ q, v = [pI q] ∧ sX3_back (z (i + 1)) m (fun w m' => w = [pI q] ∧ lwR x' m')) := by
  exact st_back (hz 1) h (fun q x' m' r => ⟨by first | rfl | exact ⟨_, rfl⟩, r⟩) (eq_back h.2.2.2.1 _)
theorem rl_35 (h : lwR x m) (hz : ∀ j, xB (z (i + j))) : sX2_count (z (i + 1)) x (fun v x' => ∃ q, v = [pI q] ∧ sX3_count (z (i + 1)) m (fun w m' => (∃ q, w = [pI q]) ∧ lwR x' m')) := by
  exact st_count (hz 1) h (fun q b x' m' r => ⟨⟨_, rfl⟩, r⟩)
theorem rl_36 (h : lwR x m) (hz : ∀ j, xB (z (i + j))) : (0 ≤ z (i + 1) ∧ z (i + 1) < x.1 3 ∧ z (i + 1) < 6 → sX3_row (z (i + 1)) m (fun w m' => (∃ q, w = [pJ q]) ∧ lwR x m')) ∧ (¬ (0 ≤ z (i + 1) ∧ z (i + 1) < x.1 3 ∧ z (i + 1) < 6) → sX3_row (z (i + 1)) m (fun w m' => (∃ q, w = [pJ q]) ∧ lwR x m')) := by
  exact ⟨fun _ => st_row (hz 1) h (fun b m' r => ⟨⟨_, rfl⟩, r⟩), fun _ => st_row (hz 1) h (fun b m' r => ⟨⟨_, rfl⟩, r⟩)⟩
theorem rl_all (h : lwR x m) (hz : ∀ j, xB (z (i + j))) (k : Nat) : lwS z i x m lwR k := by
  match k with
  | 0 => exact rl_0 h hz
  | 1 => exact rl_1 h hz
  | 2 => exact rl_2 h hz
  | 3 => exact rl_3 h hz
  | 4 => exact rl_4 h hz
  | 5 => exact rl_5 h hz
  | 6 => exact rl_6 h hz
  | 7 => exact rl_7 h hz
  | 8 => exact rl_8 h hz
  | 9 => exact rl_9 h hz
  | 10 => exact rl_10 h hz
  | 11 => exact rl_11 h hz
  | 12 => exact rl_12 h hz
  | 13 => exact rl_13 h hz
  | 14 => exact rl_14 h hz
  | 15 => exact rl_15 h hz
  | 16 => exact rl_16 h hz
  | 17 => exact rl_17 h hz
  | 18 => exact rl_18 h hz
  | 19 => exact rl_19 h hz
  | 20 => exact rl_20 h hz
  | 21 => exact rl_21 h hz
  | 22 => exact rl_22 h hz
  | 23 => exact rl_23 h hz
  | 24 => exact rl_24 h hz
  | 25 => exact rl_25 h hz
  | 26 => exact rl_26 h hz
  | 27 => exact rl_27 h hz
  | 28 => exact rl_28 h hz
  | 29 => exact rl_29 h hz
  | 30 => exact rl_30 h hz
  | 31 => exact rl_31 h hz
  | 32 => exact rl_32 h hz
  | 33 => exact rl_33 h hz
  | 34 => exact rl_34 h hz
  | 35 => exact rl_35 h hz
  | 36 => exact rl_36 h hz
  | k + 37 => exact h
end RL
end
-- 994.st
section
/-! ===== what holds at the law's entry ===== -/
def st_tm (j : Nat) : Term := .string (xl_sc j).1 (xl_sc j).2.1
theorem st_ex : ∀ i, i < 9 → Cond.exactly (st_tm i) "java/lang/String" ∈ flatC (Jvm.Cond.and given_1 narrow_1) := by decide +kernel
theorem st_co : ∀ i, i < 9 → Cond.eq (.field (st_tm i) "java/lang/String" "coder" "B") (.int 0) ∈ flatC (Jvm.Cond.and given_1 narrow_1) := by decide +kernel
theorem st_ar : ∀ i, i < 9 → Cond.arrayOf (.field (st_tm i) "java/lang/String" "value" "[B") .byte ∈ flatC (Jvm.Cond.and given_1 narrow_1) := by decide +kernel
theorem st_le : ∀ i, i < 9 → Cond.eq (.length (.field (st_tm i) "java/lang/String" "value" "[B")) (.int (Int32.ofNat (xl_sl.getD i 0))) ∈ flatC (Jvm.Cond.and given_1 narrow_1) := by decide +kernel
theorem st_el : ∀ i, i < 9 → ∀ j, j < xl_sl.getD i 0 → Cond.eq (.elem (.field (st_tm i) "java/lang/String" "value" "[B") (.int (Int32.ofNat j))) (.int ((xl_sb.getD i []).getD j 0)) ∈ flatC (Jvm.Cond.and given_1 narrow_1) := by decide +kernel
theorem st_ne : ∀ i, i < 9 → ∀ j, j < 9 → i ≠ j → Cond.not (Cond.eq (st_tm i) (st_tm j)) ∈ flatC (Jvm.Cond.and given_1 narrow_1) ∨ Cond.not (Cond.eq (st_tm j) (st_tm i)) ∈ flatC (Jvm.Cond.and given_1 narrow_1) := by decide +kernel
theorem st_sr : ∀ i, i < 9 → Cond.stringRef (xl_sc i).1 (xl_sc i).2.1 (xl_sc i).2.2 ∈ lw_tbl := by decide +kernel
theorem st_K {args : Array Value} {s : State} (hts : ∀ w ∈ lw_tbl, w.before args s = true) : ∃ (D : va_G) (aC : Nat → ClassId), va_K D vwCl (xl_ty aC) s ∧ xn_A aC s := by
  have hT : ∀ w ∈ xl_T, w.before args s = true := fun w hw => hts w (List.mem_filter.mp hw).1
  obtain ⟨c0, i0, k0⟩ := u_known hT xl_inX0 (hT _ inX0)
  obtain ⟨c1, i1, k1⟩ := u_known hT xl_inX1 (hT _ inX1)
  obtain ⟨c2, i2, k2⟩ := u_known hT xl_inX2 (hT _ inX2)
  obtain ⟨c3, i3, k3⟩ := u_known hT xl_inX3 (hT _ inX3)
  obtain ⟨a0, ka0, co0, p0, q0, r0⟩ := Cond.arrayClass_spec (hT _ ac_i)
  obtain ⟨a1, ka1, co1, p1, q1, r1⟩ := Cond.arrayClass_spec (hT _ ac_l)
  obtain ⟨a2, ka2, co2, p2, q2, r2⟩ := Cond.arrayClass_spec (hT _ ac_z)
  have hAO : (Cond.arrayOver (.object RX1)).before args s = true := hts _ (List.mem_of_getElem? (i := 233) (by decide +kernel))
  obtain ⟨co3, a3, ka3, f1, f2, f3, f4, f5⟩ := Cond.arrayOver_spec hAO
  refine ⟨(fun c => [c0, c1, c2, c3].getD c c0, fun c => [i0, i1, i2, i3].getD c i0), fun k => [a0, a1, a2, a3].getD k a0, ⟨?_, ?_⟩, ?_, va_AO.of hAO⟩
  · intro c q hq
    match c, hq with
    | 0, hq => cases hq; exact k0
    | 1, hq => cases hq; exact k1
    | 2, hq => cases hq; exact k2
    | 3, hq => cases hq; exact k3
  · intro k q hq
    match k, hq with
    | 0, hq => cases hq; exact ⟨fun n z => ⟨fun k h => (by cases h), ka0, q0, co0, r0⟩, p0⟩
    | 1, hq => cases hq; exact ⟨fun n z => ⟨fun k h => (by cases h), ka1, q1, co1, r1⟩, p1⟩
    | 2, hq => cases hq; exact ⟨fun n z => ⟨fun k h => (by cases h), ka2, q2, co2, r2⟩, p2⟩
    | 3, hq => cases hq; exact ⟨fun n z => ⟨fun k h => (by cases h), ka3, f3, co3, f4⟩, ka3, co3, f3, f4, f1, f5⟩
  · intro k q hq
    match k, hq with
    | 0, hq => cases hq; exact p0
    | 1, hq => cases hq; exact p1
    | 2, hq => cases hq; exact p2
    | 3, hq => cases hq; exact f5
def st_A (s : State) : Nat → Prop := fun q => s.heap.size ≤ q
theorem st_nA {s : State} : ∀ a : Nat, a < s.heap.size → ¬ st_A s a := fun a h h2 => absurd (Nat.lt_of_lt_of_le h h2) (Nat.lt_irrefl _)
theorem st_S {args : Array Value} {s : State} {b : Nat} (hts : ∀ w ∈ lw_tbl, w.before args s = true) (hg : ∀ c ∈ flatC (Jvm.Cond.and given_1 narrow_1), c.before args s = true) : ∃ σ aV : Nat → Nat, xl_S σ aV (st_A s) s s.heap ∧ σ 99 = b := by
  obtain ⟨σ, aV, h1, h2⟩ := vk_Sof (args := args) (s := s) (N := xl_sn) (tm := st_tm) (len := xl_sl) (byt := xl_sb) (A := st_A s) (by decide) (fun i hi => hg _ (st_ex i hi)) (fun i hi => hg _ (st_co i hi)) (fun i hi => hg _ (st_ar i hi)) (fun i hi => hg _ (st_le i hi)) (fun i hi j hj => hg _ (st_el i hi j hj)) (fun i j hi hj hne => (st_ne i hi j hj hne).imp (hg _) (hg _)) st_nA
  have hZ : va_Z "java/lang/String" "COMPACT_STRINGS" "Z" (.int 1) (st_A s) s s.heap := va_Zof (hts _ (List.mem_of_getElem? (i := 499) (by decide +kernel))) (hts _ (List.mem_of_getElem? (i := 100) (by decide +kernel))) (va_eqt (hg _ (by decide +kernel))) st_nA
  have hQ : va_Zq "jdk/internal/util/Preconditions" "SIOOBE_FORMATTER" "Ljava/util/function/BiFunction;" (st_A s) s s.heap := va_Zqof (hts _ (List.mem_of_getElem? (i := 519) (by decide +kernel))) (hts _ (List.mem_of_getElem? (i := 102) (by decide +kernel))) (hg _ (by decide +kernel)) st_nA
  have main : ∀ t : Nat, (va_Z "jdk/internal/util/Preconditions" "SIOOBE_FORMATTER" "Ljava/util/function/BiFunction;" .null (st_A s) s s.heap ∨ va_Z "jdk/internal/util/Preconditions" "SIOOBE_FORMATTER" "Ljava/util/function/BiFunction;" (.ref t) (st_A s) s s.heap) → ∃ σ aV : Nat → Nat, xl_S σ aV (st_A s) s s.heap ∧ σ 99 = b := by
    intro t hQ
    obtain ⟨f, hf⟩ : ∃ f : Nat → Nat, f = fun j => if j = 99 then b else if j = 300 then t else if 200 ≤ j then aV (j - 200) else σ j := ⟨_, rfl⟩
    have e : ∀ i, i < 9 → f i = σ i := fun i hi => by
      rw [hf]
      show (if i = 99 then b else if i = 300 then t else if 200 ≤ i then aV (i - 200) else σ i) = σ i
      rw [if_neg (by omega), if_neg (by omega), if_neg (by omega)]
    have e2 : ∀ i, i < 9 → f (200 + i) = aV i := fun i hi => by
      rw [hf]
      show (if 200 + i = 99 then b else if 200 + i = 300 then t else if 200 ≤ 200 + i then aV (200 + i - 200) else σ (200 + i)) = aV i
      rw [if_neg (by omega), if_neg (by omega), if_pos (by omega), Nat.add_sub_cancel_left]
    have e3 : f 300 = t := by rw [hf]; rfl
    have e9 : f 99 = b := by rw [hf]; rfl
    refine ⟨f, aV, ⟨⟨fun i hi => ?_, fun i j hi hj q => ?_⟩, hZ, by rw [e3]; exact hQ, fun j hj => ?_, fun j hj => e2 j hj⟩, e9⟩
    · rw [e i hi]
      exact h1.1 i hi
    · rw [e i hi, e j hj] at q
      exact h1.2 i j hi hj q
    · rw [e j hj]
      exact vk_R.of (A := args) (hts _ (st_sr j hj)) (h2 j hj)
  rcases hQ with h | ⟨t, h⟩
  · exact main 0 (Or.inl h)
  · exact main t (Or.inr h)
theorem st_E {args : Array Value} {s : State} (hts : ∀ w ∈ lw_tbl, w.before args s = true) (hg : ∀ c ∈ flatC (Jvm.Cond.and given_1 narrow_1), c.before args s = true) : xt_E (st_A s) s :=
  ⟨vx_Zqof (hts _ xt_lU) (hts _ xt_iT) (hg _ (by decide +kernel)) st_nA, vx_Zqof (hts _ xt_lN) (hts _ xt_iT) (hg _ (by decide +kernel)) st_nA, va_Nw.of rfl (hts _ xt_b0), va_Nw.of rfl (hts _ xt_b1), va_Nw.of rfl (hts _ xt_b2), va_Nw.of rfl (hts _ xt_b3)⟩
end
-- 997.al
section
/-! ===== the law, whole ===== -/
theorem law_run {N : Nat} {z : Nat → Int} (hN : N ≤ 3000) (hz : ∀ j, xB (z j)) : ∀ (n i : Nat) (x : LSt) (m : MS) (out : Nat → Int), bdL x → bdM m → lwR x m → N < i + 5 * n + 5 → i ≤ 3005 → xn_W (some (N, fun j => iI (z j), xt_E)) 0 mL_law n (6 * n) 23 (lwL i) [] (encZ x m out) (fun v _ => v = some (some (xi 1)))
  | 0, i, x, m, out, hbx, hbm, hR, hi, hi2 => law_end i (by omega) hi2 hN _ rfl
  | n + 1, i, x, m, out, hbx, hbm, hR, hi, hi2 => by
    by_cases c : i + 5 ≤ N
    · exact law_at (rc := n) (rs := 6 * n) i c hN x m out hbx hbm hz (Post := lwR) (fun k _ _ => rl_all hR (fun j => hz _) k) (fun x' m' out' h1 h2 h3 => law_run hN hz n (i + 5) x' m' out' h1 h2 h3 (by omega) (by omega))
    · exact law_end i (by omega) hi2 hN _ rfl
set_option maxRecDepth 100000 in
theorem law_all {N : Nat} {z : Nat → Int} (hN : N ≤ 2560) (hz : ∀ j, xB (z j)) : xn_W (some (N, fun j => iI (z j), xt_E)) 0 mL_law 1000 100000 0 [some (.float 99), none, none, none, none, none, none, none] [] [] (fun v _ => v = some (some (xi 1))) :=
  xn_wid (rc := 512 + 1 + 12 + 1 + 136 + 1) (rs := 3072 + 1 + 31669 + 23 + 30305 + 13) (Nat.le_of_ble_eq_true rfl) (Nat.le_of_ble_eq_true rfl) (law_pro (rc := 512) (rs := 3072) (fun hb1 hb2 => law_run (Nat.le_trans hN (by decide)) hz 512 0 s1 m1 (fun _ => 0) hb1 hb2 lwR1 (by omega) (by decide)))
end
