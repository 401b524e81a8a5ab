/-! ===== the law, case by case (by program) ===== -/
theorem lwk {i : Nat} {a b c : Option Value} : ∀ j v, xl_n (lwL i) j = some (some v) → xl_n [some (.float 99), some (.ref 0), some (.ref 138), some (.ref 137), some (xi i), a, b, c] j = some (some v)
  | 0, _, h => h
  | 1, _, h => h
  | 2, _, h => h
  | 3, _, h => h
  | 4, _, h => h
  | 5, _, h => by cases h
  | 6, _, h => by cases h
  | 7, _, h => by cases h
  | j + 8, _, h => by cases h
theorem atZ (x : LSt) (m : MS) (out : Nat → Int) : xl_n (encZ x m out) 137 = some (xL 1 out) := by
  have := xl_n_mid (encL x) (xL 1 out) (encM m)
  rw [lenL137] at this
  exact this
theorem lg_cmp0 (a : Int64) : lg_cmp a a = 0 := by
  unfold lg_cmp
  simp
theorem wI_xb (a : Int) : xb (wI a) := xb_of _
theorem wI_iI (a : Int) : iI (wI a) = iI a := iI_of _
theorem wI_long (a : Int) : (iI a).toInt64 = lI (wI a) := by rw [← wI_iI a, iI_long (wI_xb a)]
theorem xup_0 (g : Nat → Int) (q : Int) : xup g 0 q 0 = q := if_pos rfl
theorem law_c0 {N : Nat} {z : Nat → Int} {Nn rc rs : Nat} {Po : Option (Option Value) → XH → Prop} (i : Nat) (hi : i + 5 ≤ N) (hN : N ≤ 3000) (x : LSt) (m : MS) (out : Nat → Int) (hbx : bdL x) (hbm : bdM m) {Post : LSt → MS → Prop} (hs : sX2_sign (z (i + 1)) x (fun v x' => ∃ q, v = [pI q] ∧ sX3_sign (z (i + 1)) m (fun w m' => (∃ q, w = [pI q]) ∧ Post x' m'))) (kk : ∀ x' m' out', bdL x' → bdM m' → Post x' m' → xn_W (some (N, fun j => iI (z j), xt_E)) Nn mL_law rc rs 1327 (lwL i) [] (encZ x' m' out') Po) : xn_W (some (N, fun j => iI (z j), xt_E)) Nn mL_law rc rs 200 (lwL i) [] (encZ x m out) Po := by
  refine xn_aload_n iL_law_200 rfl ?_
  refine lwA (jn := 1) iL_law_201 iL_law_202 iL_law_204 iL_law_205 iL_law_206 rfl rfl rfl (by omega) hN ?_
  refine lwX (as := [pI (z (i + 1))]) (rest := []) (K := (fun v x' => ∃ q, v = [pI q] ∧ sX3_sign (z (i + 1)) m (fun w m' => (∃ q, w = [pI q]) ∧ Post x' m'))) iL_law_207 vX2_sign mX2_sign_ok lcl rfl rfl (Nat.le_of_ble_eq_true rfl) hbx hs (fun v x' hK hbx' => ?_)
  obtain ⟨q, rfl, hm⟩ := hK
  refine xn_pop iL_law_210 rfl ?_
  refine xn_aload_n iL_law_211 rfl ?_
  refine lwA (jn := 1) iL_law_212 iL_law_213 iL_law_215 iL_law_216 iL_law_217 rfl rfl rfl (by omega) hN ?_
  refine lwM (as := [pI (z (i + 1))]) (rest := []) (K := (fun w m' => (∃ q, w = [pI q]) ∧ Post x' m')) iL_law_218 vX3_sign mX3_sign_ok mcl rfl rfl (Nat.le_of_ble_eq_true rfl) hbm hm (fun w m' hK hbm' => ?_)
  obtain ⟨⟨q2, rfl⟩, hP⟩ := hK
  refine xn_pop iL_law_221 rfl ?_
  exact xn_goto iL_law_222 (kk x' m' out hbx' hbm' hP)
theorem law_c1 {N : Nat} {z : Nat → Int} {Nn rc rs : Nat} {Po : Option (Option Value) → XH → Prop} (i : Nat) (hi : i + 5 ≤ N) (hN : N ≤ 3000) (x : LSt) (m : MS) (out : Nat → Int) (hbx : bdL x) (hbm : bdM m) {Post : LSt → MS → Prop} (hs : sX2_end (z (i + 1)) x (fun v x' => ∃ q, v = [pI q] ∧ sX3_end (z (i + 1)) m (fun w m' => (∃ q, w = [pI q]) ∧ Post x' m'))) (kk : ∀ x' m' out', bdL x' → bdM m' → Post x' m' → xn_W (some (N, fun j => iI (z j), xt_E)) Nn mL_law rc rs 1327 (lwL i) [] (encZ x' m' out') Po) : xn_W (some (N, fun j => iI (z j), xt_E)) Nn mL_law rc rs 225 (lwL i) [] (encZ x m out) Po := by
  refine xn_aload_n iL_law_225 rfl ?_
  refine lwA (jn := 1) iL_law_226 iL_law_227 iL_law_229 iL_law_230 iL_law_231 rfl rfl rfl (by omega) hN ?_
  refine lwX (as := [pI (z (i + 1))]) (rest := []) (K := (fun v x' => ∃ q, v = [pI q] ∧ sX3_end (z (i + 1)) m (fun w m' => (∃ q, w = [pI q]) ∧ Post x' m'))) iL_law_232 vX2_end mX2_end_ok lcl rfl rfl (Nat.le_of_ble_eq_true rfl) hbx hs (fun v x' hK hbx' => ?_)
  obtain ⟨q, rfl, hm⟩ := hK
  refine xn_pop iL_law_235 rfl ?_
  refine xn_aload_n iL_law_236 rfl ?_
  refine lwA (jn := 1) iL_law_237 iL_law_238 iL_law_240 iL_law_241 iL_law_242 rfl rfl rfl (by omega) hN ?_
  refine lwM (as := [pI (z (i + 1))]) (rest := []) (K := (fun w m' => (∃ q, w = [pI q]) ∧ Post x' m')) iL_law_243 vX3_end mX3_end_ok mcl rfl rfl (Nat.le_of_ble_eq_true rfl) hbm hm (fun w m' hK hbm' => ?_)
  obtain ⟨⟨q2, rfl⟩, hP⟩ := hK
  refine xn_pop iL_law_246 rfl ?_
  exact xn_goto iL_law_247 (kk x' m' out hbx' hbm' hP)
theorem law_c2 {N : Nat} {z : Nat → Int} {Nn rc rs : Nat} {Po : Option (Option Value) → XH → Prop} (i : Nat) (hi : i + 5 ≤ N) (hN : N ≤ 3000) (x : LSt) (m : MS) (out : Nat → Int) (hbx : bdL x) (hbm : bdM m) {Post : LSt → MS → Prop} (hs : sX2_start (z (i + 1)) (z (i + 2)) (z (i + 3)) (z (i + 4)) x (fun v x' => ∃ q, v = [pI q] ∧ sX3_start (z (i + 1)) (z (i + 2)) (z (i + 3)) (z (i + 4)) m (fun w m' => (∃ q, w = [pI q]) ∧ Post x' m'))) (kk : ∀ x' m' out', bdL x' → bdM m' → Post x' m' → xn_W (some (N, fun j => iI (z j), xt_E)) Nn mL_law rc rs 1327 (lwL i) [] (encZ x' m' out') Po) : xn_W (some (N, fun j => iI (z j), xt_E)) Nn mL_law rc rs 250 (lwL i) [] (encZ x m out) Po := by
  refine xn_aload_n iL_law_250 rfl ?_
  refine lwA (jn := 1) iL_law_251 iL_law_252 iL_law_254 iL_law_255 iL_law_256 rfl rfl rfl (by omega) hN ?_
  refine lwA (jn := 2) iL_law_257 iL_law_258 iL_law_260 iL_law_261 iL_law_262 rfl rfl rfl (by omega) hN ?_
  refine lwA (jn := 3) iL_law_263 iL_law_264 iL_law_266 iL_law_267 iL_law_268 rfl rfl rfl (by omega) hN ?_
  refine lwA (jn := 4) iL_law_269 iL_law_270 iL_law_272 iL_law_273 iL_law_274 rfl rfl rfl (by omega) hN ?_
  refine lwX (as := [pI (z (i + 1)), pI (z (i + 2)), pI (z (i + 3)), pI (z (i + 4))]) (rest := []) (K := (fun v x' => ∃ q, v = [pI q] ∧ sX3_start (z (i + 1)) (z (i + 2)) (z (i + 3)) (z (i + 4)) m (fun w m' => (∃ q, w = [pI q]) ∧ Post x' m'))) iL_law_275 vX2_start mX2_start_ok lcl rfl rfl (Nat.le_of_ble_eq_true rfl) hbx hs (fun v x' hK hbx' => ?_)
  obtain ⟨q, rfl, hm⟩ := hK
  refine xn_pop iL_law_278 rfl ?_
  refine xn_aload_n iL_law_279 rfl ?_
  refine lwA (jn := 1) iL_law_280 iL_law_281 iL_law_283 iL_law_284 iL_law_285 rfl rfl rfl (by omega) hN ?_
  refine lwA (jn := 2) iL_law_286 iL_law_287 iL_law_289 iL_law_290 iL_law_291 rfl rfl rfl (by omega) hN ?_
  refine lwA (jn := 3) iL_law_292 iL_law_293 iL_law_295 iL_law_296 iL_law_297 rfl rfl rfl (by omega) hN ?_
  refine lwA (jn := 4) iL_law_298 iL_law_299 iL_law_301 iL_law_302 iL_law_303 rfl rfl rfl (by omega) hN ?_
  refine lwM (as := [pI (z (i + 1)), pI (z (i + 2)), pI (z (i + 3)), pI (z (i + 4))]) (rest := []) (K := (fun w m' => (∃ q, w = [pI q]) ∧ Post x' m')) iL_law_304 vX3_start mX3_start_ok mcl rfl rfl (Nat.le_of_ble_eq_true rfl) hbm hm (fun w m' hK hbm' => ?_)
  obtain ⟨⟨q2, rfl⟩, hP⟩ := hK
  refine xn_pop iL_law_307 rfl ?_
  exact xn_goto iL_law_308 (kk x' m' out hbx' hbm' hP)
theorem law_c3 {N : Nat} {z : Nat → Int} {Nn rc rs : Nat} {Po : Option (Option Value) → XH → Prop} (i : Nat) (hi : i + 5 ≤ N) (hN : N ≤ 3000) (x : LSt) (m : MS) (out : Nat → Int) (hbx : bdL x) (hbm : bdM m) {Post : LSt → MS → Prop} (hs : sX2_delays (z (i + 1)) (z (i + 2)) x (fun v x' => ∃ q, v = [pI q] ∧ sX3_delays (z (i + 1)) (z (i + 2)) m (fun w m' => (∃ q, w = [pI q]) ∧ Post x' m'))) (kk : ∀ x' m' out', bdL x' → bdM m' → Post x' m' → xn_W (some (N, fun j => iI (z j), xt_E)) Nn mL_law rc rs 1327 (lwL i) [] (encZ x' m' out') Po) : xn_W (some (N, fun j => iI (z j), xt_E)) Nn mL_law rc rs 311 (lwL i) [] (encZ x m out) Po := by
  refine xn_aload_n iL_law_311 rfl ?_
  refine lwA (jn := 1) iL_law_312 iL_law_313 iL_law_315 iL_law_316 iL_law_317 rfl rfl rfl (by omega) hN ?_
  refine lwA (jn := 2) iL_law_318 iL_law_319 iL_law_321 iL_law_322 iL_law_323 rfl rfl rfl (by omega) hN ?_
  refine lwX (as := [pI (z (i + 1)), pI (z (i + 2))]) (rest := []) (K := (fun v x' => ∃ q, v = [pI q] ∧ sX3_delays (z (i + 1)) (z (i + 2)) m (fun w m' => (∃ q, w = [pI q]) ∧ Post x' m'))) iL_law_324 vX2_delays mX2_delays_ok lcl rfl rfl (Nat.le_of_ble_eq_true rfl) hbx hs (fun v x' hK hbx' => ?_)
  obtain ⟨q, rfl, hm⟩ := hK
  refine xn_pop iL_law_327 rfl ?_
  refine xn_aload_n iL_law_328 rfl ?_
  refine lwA (jn := 1) iL_law_329 iL_law_330 iL_law_332 iL_law_333 iL_law_334 rfl rfl rfl (by omega) hN ?_
  refine lwA (jn := 2) iL_law_335 iL_law_336 iL_law_338 iL_law_339 iL_law_340 rfl rfl rfl (by omega) hN ?_
  refine lwM (as := [pI (z (i + 1)), pI (z (i + 2))]) (rest := []) (K := (fun w m' => (∃ q, w = [pI q]) ∧ Post x' m')) iL_law_341 vX3_delays mX3_delays_ok mcl rfl rfl (Nat.le_of_ble_eq_true rfl) hbm hm (fun w m' hK hbm' => ?_)
  obtain ⟨⟨q2, rfl⟩, hP⟩ := hK
  refine xn_pop iL_law_344 rfl ?_
  exact xn_goto iL_law_345 (kk x' m' out hbx' hbm' hP)
theorem law_c4 {N : Nat} {z : Nat → Int} {Nn rc rs : Nat} {Po : Option (Option Value) → XH → Prop} (i : Nat) (hi : i + 5 ≤ N) (hN : N ≤ 3000) (x : LSt) (m : MS) (out : Nat → Int) (hbx : bdL x) (hbm : bdM m) {Post : LSt → MS → Prop} (hs : sX2_event (z (i + 1)) (z (i + 2)) (z (i + 3)) (z (i + 4)) x (fun v x' => ∃ q, v = [pI q] ∧ sX3_event (z (i + 1)) (z (i + 2)) (z (i + 3)) (z (i + 4)) m (fun w m' => (∃ q, w = [pI q]) ∧ Post x' m'))) (kk : ∀ x' m' out', bdL x' → bdM m' → Post x' m' → xn_W (some (N, fun j => iI (z j), xt_E)) Nn mL_law rc rs 1327 (lwL i) [] (encZ x' m' out') Po) : xn_W (some (N, fun j => iI (z j), xt_E)) Nn mL_law rc rs 348 (lwL i) [] (encZ x m out) Po := by
  refine xn_aload_n iL_law_348 rfl ?_
  refine lwA (jn := 1) iL_law_349 iL_law_350 iL_law_352 iL_law_353 iL_law_354 rfl rfl rfl (by omega) hN ?_
  refine lwA (jn := 2) iL_law_355 iL_law_356 iL_law_358 iL_law_359 iL_law_360 rfl rfl rfl (by omega) hN ?_
  refine lwA (jn := 3) iL_law_361 iL_law_362 iL_law_364 iL_law_365 iL_law_366 rfl rfl rfl (by omega) hN ?_
  refine lwA (jn := 4) iL_law_367 iL_law_368 iL_law_370 iL_law_371 iL_law_372 rfl rfl rfl (by omega) hN ?_
  refine lwX (as := [pI (z (i + 1)), pI (z (i + 2)), pI (z (i + 3)), pI (z (i + 4))]) (rest := []) (K := (fun v x' => ∃ q, v = [pI q] ∧ sX3_event (z (i + 1)) (z (i + 2)) (z (i + 3)) (z (i + 4)) m (fun w m' => (∃ q, w = [pI q]) ∧ Post x' m'))) iL_law_373 vX2_event mX2_event_ok lcl rfl rfl (Nat.le_of_ble_eq_true rfl) hbx hs (fun v x' hK hbx' => ?_)
  obtain ⟨q, rfl, hm⟩ := hK
  refine xn_pop iL_law_376 rfl ?_
  refine xn_aload_n iL_law_377 rfl ?_
  refine lwA (jn := 1) iL_law_378 iL_law_379 iL_law_381 iL_law_382 iL_law_383 rfl rfl rfl (by omega) hN ?_
  refine lwA (jn := 2) iL_law_384 iL_law_385 iL_law_387 iL_law_388 iL_law_389 rfl rfl rfl (by omega) hN ?_
  refine lwA (jn := 3) iL_law_390 iL_law_391 iL_law_393 iL_law_394 iL_law_395 rfl rfl rfl (by omega) hN ?_
  refine lwA (jn := 4) iL_law_396 iL_law_397 iL_law_399 iL_law_400 iL_law_401 rfl rfl rfl (by omega) hN ?_
  refine lwM (as := [pI (z (i + 1)), pI (z (i + 2)), pI (z (i + 3)), pI (z (i + 4))]) (rest := []) (K := (fun w m' => (∃ q, w = [pI q]) ∧ Post x' m')) iL_law_402 vX3_event mX3_event_ok mcl rfl rfl (Nat.le_of_ble_eq_true rfl) hbm hm (fun w m' hK hbm' => ?_)
  obtain ⟨⟨q2, rfl⟩, hP⟩ := hK
  refine xn_pop iL_law_405 rfl ?_
  exact xn_goto iL_law_406 (kk x' m' out hbx' hbm' hP)
theorem law_c5 {N : Nat} {z : Nat → Int} {Nn rc rs : Nat} {Po : Option (Option Value) → XH → Prop} (i : Nat) (hi : i + 5 ≤ N) (hN : N ≤ 3000) (x : LSt) (m : MS) (out : Nat → Int) (hbx : bdL x) (hbm : bdM m) {Post : LSt → MS → Prop} (hs : sX2_events x (fun v x' => ∃ q, v = [pI q] ∧ sX3_events m (fun w m' => (∃ q, w = [pI q]) ∧ Post x' m'))) (kk : ∀ x' m' out', bdL x' → bdM m' → Post x' m' → xn_W (some (N, fun j => iI (z j), xt_E)) Nn mL_law rc rs 1327 (lwL i) [] (encZ x' m' out') Po) : xn_W (some (N, fun j => iI (z j), xt_E)) Nn mL_law rc rs 409 (lwL i) [] (encZ x m out) Po := by
  refine xn_aload_n iL_law_409 rfl ?_
  refine lwX (as := []) (rest := []) (K := (fun v x' => ∃ q, v = [pI q] ∧ sX3_events  m (fun w m' => (∃ q, w = [pI q]) ∧ Post x' m'))) iL_law_410 vX2_events mX2_events_ok lcl rfl rfl (Nat.le_of_ble_eq_true rfl) hbx hs (fun v x' hK hbx' => ?_)
  obtain ⟨q, rfl, hm⟩ := hK
  refine xn_pop iL_law_413 rfl ?_
  refine xn_aload_n iL_law_414 rfl ?_
  refine lwM (as := []) (rest := []) (K := (fun w m' => (∃ q, w = [pI q]) ∧ Post x' m')) iL_law_415 vX3_events mX3_events_ok mcl rfl rfl (Nat.le_of_ble_eq_true rfl) hbm hm (fun w m' hK hbm' => ?_)
  obtain ⟨⟨q2, rfl⟩, hP⟩ := hK
  refine xn_pop iL_law_418 rfl ?_
  exact xn_goto iL_law_419 (kk x' m' out hbx' hbm' hP)
theorem law_c6 {N : Nat} {z : Nat → Int} {Nn rc rs : Nat} {Po : Option (Option Value) → XH → Prop} (i : Nat) (hi : i + 5 ≤ N) (hN : N ≤ 3000) (x : LSt) (m : MS) (out : Nat → Int) (hbx : bdL x) (hbm : bdM m) {Post : LSt → MS → Prop} (hs : sX2_marks (z (i + 1)) (z (i + 2)) x (fun v x' => ∃ q, v = [pI q] ∧ sX3_marks (z (i + 1)) (z (i + 2)) m (fun w m' => (∃ q, w = [pI q]) ∧ Post x' m'))) (kk : ∀ x' m' out', bdL x' → bdM m' → Post x' m' → xn_W (some (N, fun j => iI (z j), xt_E)) Nn mL_law rc rs 1327 (lwL i) [] (encZ x' m' out') Po) : xn_W (some (N, fun j => iI (z j), xt_E)) Nn mL_law rc rs 422 (lwL i) [] (encZ x m out) Po := by
  refine xn_aload_n iL_law_422 rfl ?_
  refine lwA (jn := 1) iL_law_423 iL_law_424 iL_law_426 iL_law_427 iL_law_428 rfl rfl rfl (by omega) hN ?_
  refine lwA (jn := 2) iL_law_429 iL_law_430 iL_law_432 iL_law_433 iL_law_434 rfl rfl rfl (by omega) hN ?_
  refine lwX (as := [pI (z (i + 1)), pI (z (i + 2))]) (rest := []) (K := (fun v x' => ∃ q, v = [pI q] ∧ sX3_marks (z (i + 1)) (z (i + 2)) m (fun w m' => (∃ q, w = [pI q]) ∧ Post x' m'))) iL_law_435 vX2_marks mX2_marks_ok lcl rfl rfl (Nat.le_of_ble_eq_true rfl) hbx hs (fun v x' hK hbx' => ?_)
  obtain ⟨q, rfl, hm⟩ := hK
  refine xn_pop iL_law_438 rfl ?_
  refine xn_aload_n iL_law_439 rfl ?_
  refine lwA (jn := 1) iL_law_440 iL_law_441 iL_law_443 iL_law_444 iL_law_445 rfl rfl rfl (by omega) hN ?_
  refine lwA (jn := 2) iL_law_446 iL_law_447 iL_law_449 iL_law_450 iL_law_451 rfl rfl rfl (by omega) hN ?_
  refine lwM (as := [pI (z (i + 1)), pI (z (i + 2))]) (rest := []) (K := (fun w m' => (∃ q, w = [pI q]) ∧ Post x' m')) iL_law_452 vX3_marks mX3_marks_ok mcl rfl rfl (Nat.le_of_ble_eq_true rfl) hbm hm (fun w m' hK hbm' => ?_)
  obtain ⟨⟨q2, rfl⟩, hP⟩ := hK
  refine xn_pop iL_law_455 rfl ?_
  exact xn_goto iL_law_456 (kk x' m' out hbx' hbm' hP)
theorem law_c7 {N : Nat} {z : Nat → Int} {Nn rc rs : Nat} {Po : Option (Option Value) → XH → Prop} (i : Nat) (hi : i + 5 ≤ N) (hN : N ≤ 3000) (x : LSt) (m : MS) (out : Nat → Int) (hbx : bdL x) (hbm : bdM m) {Post : LSt → MS → Prop} (hs : sX2_idles (z (i + 1)) x (fun v x' => ∃ q, v = [pI q] ∧ sX3_idles (z (i + 1)) m (fun w m' => (∃ q, w = [pI q]) ∧ Post x' m'))) (kk : ∀ x' m' out', bdL x' → bdM m' → Post x' m' → xn_W (some (N, fun j => iI (z j), xt_E)) Nn mL_law rc rs 1327 (lwL i) [] (encZ x' m' out') Po) : xn_W (some (N, fun j => iI (z j), xt_E)) Nn mL_law rc rs 459 (lwL i) [] (encZ x m out) Po := by
  refine xn_aload_n iL_law_459 rfl ?_
  refine lwA (jn := 1) iL_law_460 iL_law_461 iL_law_463 iL_law_464 iL_law_465 rfl rfl rfl (by omega) hN ?_
  refine lwX (as := [pI (z (i + 1))]) (rest := []) (K := (fun v x' => ∃ q, v = [pI q] ∧ sX3_idles (z (i + 1)) m (fun w m' => (∃ q, w = [pI q]) ∧ Post x' m'))) iL_law_466 vX2_idles mX2_idles_ok lcl rfl rfl (Nat.le_of_ble_eq_true rfl) hbx hs (fun v x' hK hbx' => ?_)
  obtain ⟨q, rfl, hm⟩ := hK
  refine xn_pop iL_law_469 rfl ?_
  refine xn_aload_n iL_law_470 rfl ?_
  refine lwA (jn := 1) iL_law_471 iL_law_472 iL_law_474 iL_law_475 iL_law_476 rfl rfl rfl (by omega) hN ?_
  refine lwM (as := [pI (z (i + 1))]) (rest := []) (K := (fun w m' => (∃ q, w = [pI q]) ∧ Post x' m')) iL_law_477 vX3_idles mX3_idles_ok mcl rfl rfl (Nat.le_of_ble_eq_true rfl) hbm hm (fun w m' hK hbm' => ?_)
  obtain ⟨⟨q2, rfl⟩, hP⟩ := hK
  refine xn_pop iL_law_480 rfl ?_
  exact xn_goto iL_law_481 (kk x' m' out hbx' hbm' hP)
theorem vL_source : wr_V mL_source [(0, 10, 13, 13)] := ⟨cwL_source, stL_source, xl_iL, by decide +kernel, by decide +kernel, by decide +kernel, rfl, rfl⟩
theorem hL_source (x : LSt) (out : Nat → Int) (hbx : bdL x) (a b : Int) (ha : xB a) (hb : xB b) : wr_C mL_source [(0, 10, 13, 13)] [.ref 0, xi a, xi b, .ref 137] (encL x ++ [xL 1 out]) (fun v h' => (∃ q, xb q ∧ ((lSrc x (a) ∧ 0 ≤ b ∧ b ≤ 5) ∧ q = wI (fSource x a b)) ∧ v = some (xi 0) ∧ h' = encL x ++ [xL 1 (xup out 0 q)]) ∨ (¬ (lSrc x (a) ∧ 0 ≤ b ∧ b ≤ 5) ∧ v = some (xi 1) ∧ h' = encL x ++ [xL 1 out])) := by
  have g := X2_source_t (K := fun v s' => ((lSrc x (a) ∧ 0 ≤ b ∧ b ≤ 5) ∧ v = [pI (fSource x a b)]) ∧ s' = x) (Pt := fun s' => ¬ (lSrc x (a) ∧ 0 ≤ b ∧ b ≤ 5) ∧ s' = x) a b x ha hb (fun h => ⟨h, rfl⟩) (fun h => ⟨⟨h, rfl⟩, rfl⟩)
  rw [wX_lt (by decide)] at g
  have hc := xt_con (As := [.ref 0, xi a, xi b]) kX2_source yX2_source_y rfl (by decide) (by decide) [some (.ref 0), some (xi a), some (xi b), none] rfl (Nat.le_of_ble_eq_true rfl) (g hbx)
  refine wr2_con FL_source vX2_source rfl rfl (by decide) a b x out hc (fun v h' q => ?_) (fun h' q => ?_)
  · obtain ⟨v', s', e1, e3, -, -, ⟨hc, rfl⟩, e4⟩ := q
    rw [e4] at e3
    match v, e1 with
    | some w, e1 =>
      have e2 : w = .int (iI (fSource x a b)) := (List.cons.inj e1).1
      subst e2
      exact ⟨wI (fSource x a b), wI_xb _, ⟨hc, rfl⟩, by rw [show xi (wI (fSource x a b)) = Value.int (iI (wI (fSource x a b))) from rfl, wI_iI], e3⟩
  · obtain ⟨s', e3, -, hc, e4⟩ := q
    rw [e4] at e3
    exact ⟨hc, e3⟩
theorem law_c8 {N : Nat} {z : Nat → Int} {Nn rc rs : Nat} {Po : Option (Option Value) → XH → Prop} (i : Nat) (hi : i + 5 ≤ N) (hN : N ≤ 3000) (x : LSt) (m : MS) (out : Nat → Int) (hbx : bdL x) (hbm : bdM m) {Post : LSt → MS → Prop} (hz : ∀ j, xB (z (i + j))) (hs : (lSrc x (z (i + 1)) ∧ 0 ≤ z (i + 2) ∧ z (i + 2) ≤ 5 → sX3_source (z (i + 1)) (z (i + 2)) m (fun w m' => (∃ q, w = [pI q]) ∧ Post x m')) ∧ (¬ (lSrc x (z (i + 1)) ∧ 0 ≤ z (i + 2) ∧ z (i + 2) ≤ 5) → sX3_source (z (i + 1)) (z (i + 2)) m (fun w m' => (∃ q, w = [pI q]) ∧ Post x m'))) (kk : ∀ x' m' out', bdL x' → bdM m' → Post x' m' → xn_W (some (N, fun j => iI (z j), xt_E)) Nn mL_law rc rs 1327 (lwL i) [] (encZ x' m' out') Po) : xn_W (some (N, fun j => iI (z j), xt_E)) Nn mL_law (rc + 1) (rs + 6) 484 (lwL i) [] (encZ x m out) Po := by
  refine xn_aload_n iL_law_484 rfl ?_
  refine lwA (jn := 1) iL_law_485 iL_law_486 iL_law_488 iL_law_489 iL_law_490 rfl rfl rfl (by omega) hN ?_
  refine lwA (jn := 2) iL_law_491 iL_law_492 iL_law_494 iL_law_495 iL_law_496 rfl rfl rfl (by omega) hN ?_
  refine xn_aload_n iL_law_497 rfl ?_
  refine lwW (As := [.ref 0, xi (z (i + 1)), xi (z (i + 2)), .ref 137]) (rest := []) iL_law_498 vL_source rfl (Nat.le_of_ble_eq_true rfl) (hL_source x out hbx (z (i + 1)) (z (i + 2)) (hz 1) (hz 2)) (fun q hq hOk => ?_) (fun hbad => ?_)
  · refine xn_istore iL_law_501 rfl (by decide) ?_
    refine xn_aload_n iL_law_503 rfl ?_
    refine lwA (jn := 1) iL_law_504 iL_law_505 iL_law_507 iL_law_508 iL_law_509 rfl rfl rfl (by omega) hN ?_
    refine lwA (jn := 2) iL_law_510 iL_law_511 iL_law_513 iL_law_514 iL_law_515 rfl rfl rfl (by omega) hN ?_
    refine lwM (as := [pI (z (i + 1)), pI (z (i + 2))]) (rest := []) (K := (fun w m' => (∃ q, w = [pI q]) ∧ Post x m')) iL_law_516 vX3_source mX3_source_ok mcl rfl rfl (Nat.le_of_ble_eq_true rfl) hbm (hs.1 hOk.1) (fun w m' hK hbm' => ?_)
    obtain ⟨⟨q2, rfl⟩, hP⟩ := hK
    refine xn_istore iL_law_519 rfl (by decide) ?_
    refine xn_goto iL_law_521 ?_
    exact xn_weak lwk (kk x m' _ hbx hbm' hP)
  · refine xn_istore iL_law_501 rfl (by decide) ?_
    refine xn_aload_n iL_law_503 rfl ?_
    refine lwA (jn := 1) iL_law_504 iL_law_505 iL_law_507 iL_law_508 iL_law_509 rfl rfl rfl (by omega) hN ?_
    refine lwA (jn := 2) iL_law_510 iL_law_511 iL_law_513 iL_law_514 iL_law_515 rfl rfl rfl (by omega) hN ?_
    refine lwM (as := [pI (z (i + 1)), pI (z (i + 2))]) (rest := []) (K := (fun w m' => (∃ q, w = [pI q]) ∧ Post x m')) iL_law_516 vX3_source mX3_source_ok mcl rfl rfl (Nat.le_of_ble_eq_true rfl) hbm (hs.2 hbad) (fun w m' hK hbm' => ?_)
    obtain ⟨⟨q2, rfl⟩, hP⟩ := hK
    refine xn_istore iL_law_519 rfl (by decide) ?_
    refine xn_goto iL_law_521 ?_
    exact xn_weak lwk (kk x m' _ hbx hbm' hP)
theorem vL_session : wr_V mL_session [(0, 10, 13, 13)] := ⟨cwL_session, stL_session, xl_iL, by decide +kernel, by decide +kernel, by decide +kernel, rfl, rfl⟩
theorem hL_session (x : LSt) (out : Nat → Int) (hbx : bdL x) (a b : Int) (ha : xB a) (hb : xB b) : wr_C mL_session [(0, 10, 13, 13)] [.ref 0, xi a, xi b, .ref 137] (encL x ++ [xL 1 out]) (fun v h' => (∃ q, xb q ∧ (((0 ≤ a ∧ a < wZ (x.2.2 0) 1) ∧ 0 ≤ b ∧ b ≤ 7) ∧ q = wI (fSession x a b)) ∧ v = some (xi 0) ∧ h' = encL x ++ [xL 1 (xup out 0 q)]) ∨ (¬ ((0 ≤ a ∧ a < wZ (x.2.2 0) 1) ∧ 0 ≤ b ∧ b ≤ 7) ∧ v = some (xi 1) ∧ h' = encL x ++ [xL 1 out])) := by
  have g := X2_session_t (K := fun v s' => (((0 ≤ a ∧ a < wZ (x.2.2 0) 1) ∧ 0 ≤ b ∧ b ≤ 7) ∧ v = [pI (fSession x a b)]) ∧ s' = x) (Pt := fun s' => ¬ ((0 ≤ a ∧ a < wZ (x.2.2 0) 1) ∧ 0 ≤ b ∧ b ≤ 7) ∧ s' = x) a b x ha hb (fun h => ⟨h, rfl⟩) (fun h => ⟨⟨h, rfl⟩, rfl⟩)
  rw [wX_lt (by decide)] at g
  have hc := xt_con (As := [.ref 0, xi a, xi b]) kX2_session yX2_session_y rfl (by decide) (by decide) [some (.ref 0), some (xi a), some (xi b)] rfl (Nat.le_of_ble_eq_true rfl) (g hbx)
  refine wr2_con FL_session vX2_session rfl rfl (by decide) a b x out hc (fun v h' q => ?_) (fun h' q => ?_)
  · obtain ⟨v', s', e1, e3, -, -, ⟨hc, rfl⟩, e4⟩ := q
    rw [e4] at e3
    match v, e1 with
    | some w, e1 =>
      have e2 : w = .int (iI (fSession x a b)) := (List.cons.inj e1).1
      subst e2
      exact ⟨wI (fSession x a b), wI_xb _, ⟨hc, rfl⟩, by rw [show xi (wI (fSession x a b)) = Value.int (iI (wI (fSession x a b))) from rfl, wI_iI], e3⟩
  · obtain ⟨s', e3, -, hc, e4⟩ := q
    rw [e4] at e3
    exact ⟨hc, e3⟩
theorem law_c9 {N : Nat} {z : Nat → Int} {Nn rc rs : Nat} {Po : Option (Option Value) → XH → Prop} (i : Nat) (hi : i + 5 ≤ N) (hN : N ≤ 3000) (x : LSt) (m : MS) (out : Nat → Int) (hbx : bdL x) (hbm : bdM m) {Post : LSt → MS → Prop} (hz : ∀ j, xB (z (i + j))) (hs : ((0 ≤ z (i + 1) ∧ z (i + 1) < wZ (x.2.2 0) 1) ∧ 0 ≤ z (i + 2) ∧ z (i + 2) ≤ 7 → sX3_session (z (i + 1)) (z (i + 2)) m (fun w m' => (∃ q, w = [pI q]) ∧ Post x m')) ∧ (¬ ((0 ≤ z (i + 1) ∧ z (i + 1) < wZ (x.2.2 0) 1) ∧ 0 ≤ z (i + 2) ∧ z (i + 2) ≤ 7) → sX3_session (z (i + 1)) (z (i + 2)) m (fun w m' => (∃ q, w = [pI q]) ∧ Post x m'))) (kk : ∀ x' m' out', bdL x' → bdM m' → Post x' m' → xn_W (some (N, fun j => iI (z j), xt_E)) Nn mL_law rc rs 1327 (lwL i) [] (encZ x' m' out') Po) : xn_W (some (N, fun j => iI (z j), xt_E)) Nn mL_law (rc + 1) (rs + 6) 524 (lwL i) [] (encZ x m out) Po := by
  refine xn_aload_n iL_law_524 rfl ?_
  refine lwA (jn := 1) iL_law_525 iL_law_526 iL_law_528 iL_law_529 iL_law_530 rfl rfl rfl (by omega) hN ?_
  refine lwA (jn := 2) iL_law_531 iL_law_532 iL_law_534 iL_law_535 iL_law_536 rfl rfl rfl (by omega) hN ?_
  refine xn_aload_n iL_law_537 rfl ?_
  refine lwW (As := [.ref 0, xi (z (i + 1)), xi (z (i + 2)), .ref 137]) (rest := []) iL_law_538 vL_session rfl (Nat.le_of_ble_eq_true rfl) (hL_session x out hbx (z (i + 1)) (z (i + 2)) (hz 1) (hz 2)) (fun q hq hOk => ?_) (fun hbad => ?_)
  · refine xn_istore iL_law_541 rfl (by decide) ?_
    refine xn_aload_n iL_law_543 rfl ?_
    refine lwA (jn := 1) iL_law_544 iL_law_545 iL_law_547 iL_law_548 iL_law_549 rfl rfl rfl (by omega) hN ?_
    refine lwA (jn := 2) iL_law_550 iL_law_551 iL_law_553 iL_law_554 iL_law_555 rfl rfl rfl (by omega) hN ?_
    refine lwM (as := [pI (z (i + 1)), pI (z (i + 2))]) (rest := []) (K := (fun w m' => (∃ q, w = [pI q]) ∧ Post x m')) iL_law_556 vX3_session mX3_session_ok mcl rfl rfl (Nat.le_of_ble_eq_true rfl) hbm (hs.1 hOk.1) (fun w m' hK hbm' => ?_)
    obtain ⟨⟨q2, rfl⟩, hP⟩ := hK
    refine xn_istore iL_law_559 rfl (by decide) ?_
    refine xn_goto iL_law_561 ?_
    exact xn_weak lwk (kk x m' _ hbx hbm' hP)
  · refine xn_istore iL_law_541 rfl (by decide) ?_
    refine xn_aload_n iL_law_543 rfl ?_
    refine lwA (jn := 1) iL_law_544 iL_law_545 iL_law_547 iL_law_548 iL_law_549 rfl rfl rfl (by omega) hN ?_
    refine lwA (jn := 2) iL_law_550 iL_law_551 iL_law_553 iL_law_554 iL_law_555 rfl rfl rfl (by omega) hN ?_
    refine lwM (as := [pI (z (i + 1)), pI (z (i + 2))]) (rest := []) (K := (fun w m' => (∃ q, w = [pI q]) ∧ Post x m')) iL_law_556 vX3_session mX3_session_ok mcl rfl rfl (Nat.le_of_ble_eq_true rfl) hbm (hs.2 hbad) (fun w m' hK hbm' => ?_)
    obtain ⟨⟨q2, rfl⟩, hP⟩ := hK
    refine xn_istore iL_law_559 rfl (by decide) ?_
    refine xn_goto iL_law_561 ?_
    exact xn_weak lwk (kk x m' _ hbx hbm' hP)
theorem law_c10 {N : Nat} {z : Nat → Int} {Nn rc rs : Nat} {Po : Option (Option Value) → XH → Prop} (i : Nat) (hi : i + 5 ≤ N) (hN : N ≤ 3000) (x : LSt) (m : MS) (out : Nat → Int) (hbx : bdL x) (hbm : bdM m) {Post : LSt → MS → Prop} (hs : sX2_at (z (i + 1)) (z (i + 2)) x (fun v x' => ∃ q, v = [pI q] ∧ sX3_at (z (i + 1)) (z (i + 2)) m (fun w m' => (∃ q, w = [pI q]) ∧ Post x' m'))) (kk : ∀ x' m' out', bdL x' → bdM m' → Post x' m' → xn_W (some (N, fun j => iI (z j), xt_E)) Nn mL_law rc rs 1327 (lwL i) [] (encZ x' m' out') Po) : xn_W (some (N, fun j => iI (z j), xt_E)) Nn mL_law rc rs 564 (lwL i) [] (encZ x m out) Po := by
  refine xn_aload_n iL_law_564 rfl ?_
  refine lwA (jn := 1) iL_law_565 iL_law_566 iL_law_568 iL_law_569 iL_law_570 rfl rfl rfl (by omega) hN ?_
  refine lwA (jn := 2) iL_law_571 iL_law_572 iL_law_574 iL_law_575 iL_law_576 rfl rfl rfl (by omega) hN ?_
  refine lwX (as := [pI (z (i + 1)), pI (z (i + 2))]) (rest := []) (K := (fun v x' => ∃ q, v = [pI q] ∧ sX3_at (z (i + 1)) (z (i + 2)) m (fun w m' => (∃ q, w = [pI q]) ∧ Post x' m'))) iL_law_577 vX2_at mX2_at_ok lcl rfl rfl (Nat.le_of_ble_eq_true rfl) hbx hs (fun v x' hK hbx' => ?_)
  obtain ⟨q, rfl, hm⟩ := hK
  refine xn_pop iL_law_580 rfl ?_
  refine xn_aload_n iL_law_581 rfl ?_
  refine lwA (jn := 1) iL_law_582 iL_law_583 iL_law_585 iL_law_586 iL_law_587 rfl rfl rfl (by omega) hN ?_
  refine lwA (jn := 2) iL_law_588 iL_law_589 iL_law_591 iL_law_592 iL_law_593 rfl rfl rfl (by omega) hN ?_
  refine lwM (as := [pI (z (i + 1)), pI (z (i + 2))]) (rest := []) (K := (fun w m' => (∃ q, w = [pI q]) ∧ Post x' m')) iL_law_594 vX3_at mX3_at_ok mcl rfl rfl (Nat.le_of_ble_eq_true rfl) hbm hm (fun w m' hK hbm' => ?_)
  obtain ⟨⟨q2, rfl⟩, hP⟩ := hK
  refine xn_pop iL_law_597 rfl ?_
  exact xn_goto iL_law_598 (kk x' m' out hbx' hbm' hP)
theorem vL_message : wr_V mL_message [(0, 10, 13, 13)] := ⟨cwL_message, stL_message, xl_iL, by decide +kernel, by decide +kernel, by decide +kernel, rfl, rfl⟩
theorem hL_message (x : LSt) (out : Nat → Int) (hbx : bdL x) (a b : Int) (ha : xB a) (hb : xB b) : wr_C mL_message [(0, 10, 13, 13)] [.ref 0, xi a, xi b, .ref 137] (encL x ++ [xL 1 out]) (fun v h' => (∃ q, xb q ∧ ((ofLatest (a) ((x.2.2 0).1 4) 60 ∧ 0 ≤ b ∧ b < 6) ∧ q = wI (fMessage x a b)) ∧ v = some (xi 0) ∧ h' = encL x ++ [xL 1 (xup out 0 q)]) ∨ (¬ (ofLatest (a) ((x.2.2 0).1 4) 60 ∧ 0 ≤ b ∧ b < 6) ∧ v = some (xi 1) ∧ h' = encL x ++ [xL 1 out])) := by
  have g := X2_message_t (K := fun v s' => ((ofLatest (a) ((x.2.2 0).1 4) 60 ∧ 0 ≤ b ∧ b < 6) ∧ v = [pI (fMessage x a b)]) ∧ s' = x) (Pt := fun s' => ¬ (ofLatest (a) ((x.2.2 0).1 4) 60 ∧ 0 ≤ b ∧ b < 6) ∧ s' = x) a b x ha hb (fun h => ⟨h, rfl⟩) (fun h => ⟨⟨h, rfl⟩, rfl⟩)
  rw [wX_lt (by decide)] at g
  have hc := xt_con (As := [.ref 0, xi a, xi b]) kX2_message yX2_message_y rfl (by decide) (by decide) [some (.ref 0), some (xi a), some (xi b), none, none] rfl (Nat.le_of_ble_eq_true rfl) (g hbx)
  refine wr2_con FL_message vX2_message rfl rfl (by decide) a b x out hc (fun v h' q => ?_) (fun h' q => ?_)
  · obtain ⟨v', s', e1, e3, -, -, ⟨hc, rfl⟩, e4⟩ := q
    rw [e4] at e3
    match v, e1 with
    | some w, e1 =>
      have e2 : w = .int (iI (fMessage x a b)) := (List.cons.inj e1).1
      subst e2
      exact ⟨wI (fMessage x a b), wI_xb _, ⟨hc, rfl⟩, by rw [show xi (wI (fMessage x a b)) = Value.int (iI (wI (fMessage x a b))) from rfl, wI_iI], e3⟩
  · obtain ⟨s', e3, -, hc, e4⟩ := q
    rw [e4] at e3
    exact ⟨hc, e3⟩
theorem law_c11 {N : Nat} {z : Nat → Int} {Nn rc rs : Nat} {Po : Option (Option Value) → XH → Prop} (i : Nat) (hi : i + 5 ≤ N) (hN : N ≤ 3000) (x : LSt) (m : MS) (out : Nat → Int) (hbx : bdL x) (hbm : bdM m) {Post : LSt → MS → Prop} (hz : ∀ j, xB (z (i + j))) (hs : (ofLatest (z (i + 1)) ((x.2.2 0).1 4) 60 ∧ 0 ≤ z (i + 2) ∧ z (i + 2) < 6 → sX3_message (z (i + 1)) (z (i + 2)) m (fun w m' => (∃ q, w = [pI q]) ∧ Post x m')) ∧ (¬ (ofLatest (z (i + 1)) ((x.2.2 0).1 4) 60 ∧ 0 ≤ z (i + 2) ∧ z (i + 2) < 6) → sX3_message (z (i + 1)) (z (i + 2)) m (fun w m' => (∃ q, w = [pI q]) ∧ Post x m'))) (kk : ∀ x' m' out', bdL x' → bdM m' → Post x' m' → xn_W (some (N, fun j => iI (z j), xt_E)) Nn mL_law rc rs 1327 (lwL i) [] (encZ x' m' out') Po) : xn_W (some (N, fun j => iI (z j), xt_E)) Nn mL_law (rc + 1) (rs + 6) 601 (lwL i) [] (encZ x m out) Po := by
  refine xn_aload_n iL_law_601 rfl ?_
  refine lwA (jn := 1) iL_law_602 iL_law_603 iL_law_605 iL_law_606 iL_law_607 rfl rfl rfl (by omega) hN ?_
  refine lwA (jn := 2) iL_law_608 iL_law_609 iL_law_611 iL_law_612 iL_law_613 rfl rfl rfl (by omega) hN ?_
  refine xn_aload_n iL_law_614 rfl ?_
  refine lwW (As := [.ref 0, xi (z (i + 1)), xi (z (i + 2)), .ref 137]) (rest := []) iL_law_615 vL_message rfl (Nat.le_of_ble_eq_true rfl) (hL_message x out hbx (z (i + 1)) (z (i + 2)) (hz 1) (hz 2)) (fun q hq hOk => ?_) (fun hbad => ?_)
  · refine xn_istore iL_law_618 rfl (by decide) ?_
    refine xn_aload_n iL_law_620 rfl ?_
    refine lwA (jn := 1) iL_law_621 iL_law_622 iL_law_624 iL_law_625 iL_law_626 rfl rfl rfl (by omega) hN ?_
    refine lwA (jn := 2) iL_law_627 iL_law_628 iL_law_630 iL_law_631 iL_law_632 rfl rfl rfl (by omega) hN ?_
    refine lwM (as := [pI (z (i + 1)), pI (z (i + 2))]) (rest := []) (K := (fun w m' => (∃ q, w = [pI q]) ∧ Post x m')) iL_law_633 vX3_message mX3_message_ok mcl rfl rfl (Nat.le_of_ble_eq_true rfl) hbm (hs.1 hOk.1) (fun w m' hK hbm' => ?_)
    obtain ⟨⟨q2, rfl⟩, hP⟩ := hK
    refine xn_istore iL_law_636 rfl (by decide) ?_
    refine xn_goto iL_law_638 ?_
    exact xn_weak lwk (kk x m' _ hbx hbm' hP)
  · refine xn_istore iL_law_618 rfl (by decide) ?_
    refine xn_aload_n iL_law_620 rfl ?_
    refine lwA (jn := 1) iL_law_621 iL_law_622 iL_law_624 iL_law_625 iL_law_626 rfl rfl rfl (by omega) hN ?_
    refine lwA (jn := 2) iL_law_627 iL_law_628 iL_law_630 iL_law_631 iL_law_632 rfl rfl rfl (by omega) hN ?_
    refine lwM (as := [pI (z (i + 1)), pI (z (i + 2))]) (rest := []) (K := (fun w m' => (∃ q, w = [pI q]) ∧ Post x m')) iL_law_633 vX3_message mX3_message_ok mcl rfl rfl (Nat.le_of_ble_eq_true rfl) hbm (hs.2 hbad) (fun w m' hK hbm' => ?_)
    obtain ⟨⟨q2, rfl⟩, hP⟩ := hK
    refine xn_istore iL_law_636 rfl (by decide) ?_
    refine xn_goto iL_law_638 ?_
    exact xn_weak lwk (kk x m' _ hbx hbm' hP)
theorem law_c12 {N : Nat} {z : Nat → Int} {Nn rc rs : Nat} {Po : Option (Option Value) → XH → Prop} (i : Nat) (hi : i + 5 ≤ N) (hN : N ≤ 3000) (x : LSt) (m : MS) (out : Nat → Int) (hbx : bdL x) (hbm : bdM m) {Post : LSt → MS → Prop} (hs : sX2_sent (z (i + 1)) x (fun v x' => ∃ q, v = [pI q] ∧ sX3_sent (z (i + 1)) m (fun w m' => (∃ q, w = [pI q]) ∧ Post x' m'))) (kk : ∀ x' m' out', bdL x' → bdM m' → Post x' m' → xn_W (some (N, fun j => iI (z j), xt_E)) Nn mL_law rc rs 1327 (lwL i) [] (encZ x' m' out') Po) : xn_W (some (N, fun j => iI (z j), xt_E)) Nn mL_law rc rs 641 (lwL i) [] (encZ x m out) Po := by
  refine xn_aload_n iL_law_641 rfl ?_
  refine lwA (jn := 1) iL_law_642 iL_law_643 iL_law_645 iL_law_646 iL_law_647 rfl rfl rfl (by omega) hN ?_
  refine lwX (as := [pI (z (i + 1))]) (rest := []) (K := (fun v x' => ∃ q, v = [pI q] ∧ sX3_sent (z (i + 1)) m (fun w m' => (∃ q, w = [pI q]) ∧ Post x' m'))) iL_law_648 vX2_sent mX2_sent_ok lcl rfl rfl (Nat.le_of_ble_eq_true rfl) hbx hs (fun v x' hK hbx' => ?_)
  obtain ⟨q, rfl, hm⟩ := hK
  refine xn_pop iL_law_651 rfl ?_
  refine xn_aload_n iL_law_652 rfl ?_
  refine lwA (jn := 1) iL_law_653 iL_law_654 iL_law_656 iL_law_657 iL_law_658 rfl rfl rfl (by omega) hN ?_
  refine lwM (as := [pI (z (i + 1))]) (rest := []) (K := (fun w m' => (∃ q, w = [pI q]) ∧ Post x' m')) iL_law_659 vX3_sent mX3_sent_ok mcl rfl rfl (Nat.le_of_ble_eq_true rfl) hbm hm (fun w m' hK hbm' => ?_)
  obtain ⟨⟨q2, rfl⟩, hP⟩ := hK
  refine xn_pop iL_law_662 rfl ?_
  exact xn_goto iL_law_663 (kk x' m' out hbx' hbm' hP)
theorem law_c13 {N : Nat} {z : Nat → Int} {Nn rc rs : Nat} {Po : Option (Option Value) → XH → Prop} (i : Nat) (hi : i + 5 ≤ N) (hN : N ≤ 3000) (x : LSt) (m : MS) (out : Nat → Int) (hbx : bdL x) (hbm : bdM m) {Post : LSt → MS → Prop} (hs : sX2_stands x (fun v x' => ∃ q, v = [pI q] ∧ sX3_stands m (fun w m' => (∃ q, w = [pI q]) ∧ Post x' m'))) (kk : ∀ x' m' out', bdL x' → bdM m' → Post x' m' → xn_W (some (N, fun j => iI (z j), xt_E)) Nn mL_law rc rs 1327 (lwL i) [] (encZ x' m' out') Po) : xn_W (some (N, fun j => iI (z j), xt_E)) Nn mL_law rc rs 666 (lwL i) [] (encZ x m out) Po := by
  refine xn_aload_n iL_law_666 rfl ?_
  refine lwX (as := []) (rest := []) (K := (fun v x' => ∃ q, v = [pI q] ∧ sX3_stands  m (fun w m' => (∃ q, w = [pI q]) ∧ Post x' m'))) iL_law_667 vX2_stands mX2_stands_ok lcl rfl rfl (Nat.le_of_ble_eq_true rfl) hbx hs (fun v x' hK hbx' => ?_)
  obtain ⟨q, rfl, hm⟩ := hK
  refine xn_pop iL_law_670 rfl ?_
  refine xn_aload_n iL_law_671 rfl ?_
  refine lwM (as := []) (rest := []) (K := (fun w m' => (∃ q, w = [pI q]) ∧ Post x' m')) iL_law_672 vX3_stands mX3_stands_ok mcl rfl rfl (Nat.le_of_ble_eq_true rfl) hbm hm (fun w m' hK hbm' => ?_)
  obtain ⟨⟨q2, rfl⟩, hP⟩ := hK
  refine xn_pop iL_law_675 rfl ?_
  exact xn_goto iL_law_676 (kk x' m' out hbx' hbm' hP)
theorem law_c14 {N : Nat} {z : Nat → Int} {Nn rc rs : Nat} {Po : Option (Option Value) → XH → Prop} (i : Nat) (hi : i + 5 ≤ N) (hN : N ≤ 3000) (x : LSt) (m : MS) (out : Nat → Int) (hbx : bdL x) (hbm : bdM m) {Post : LSt → MS → Prop} (hs : sX2_closed (z (i + 1)) x (fun v x' => ∃ q, v = [pI q] ∧ sX3_closed (z (i + 1)) m (fun w m' => (∃ q, w = [pI q]) ∧ Post x' m'))) (kk : ∀ x' m' out', bdL x' → bdM m' → Post x' m' → xn_W (some (N, fun j => iI (z j), xt_E)) Nn mL_law rc rs 1327 (lwL i) [] (encZ x' m' out') Po) : xn_W (some (N, fun j => iI (z j), xt_E)) Nn mL_law rc rs 679 (lwL i) [] (encZ x m out) Po := by
  refine xn_aload_n iL_law_679 rfl ?_
  refine lwA (jn := 1) iL_law_680 iL_law_681 iL_law_683 iL_law_684 iL_law_685 rfl rfl rfl (by omega) hN ?_
  refine lwX (as := [pI (z (i + 1))]) (rest := []) (K := (fun v x' => ∃ q, v = [pI q] ∧ sX3_closed (z (i + 1)) m (fun w m' => (∃ q, w = [pI q]) ∧ Post x' m'))) iL_law_686 vX2_closed mX2_closed_ok lcl rfl rfl (Nat.le_of_ble_eq_true rfl) hbx hs (fun v x' hK hbx' => ?_)
  obtain ⟨q, rfl, hm⟩ := hK
  refine xn_pop iL_law_689 rfl ?_
  refine xn_aload_n iL_law_690 rfl ?_
  refine lwA (jn := 1) iL_law_691 iL_law_692 iL_law_694 iL_law_695 iL_law_696 rfl rfl rfl (by omega) hN ?_
  refine lwM (as := [pI (z (i + 1))]) (rest := []) (K := (fun w m' => (∃ q, w = [pI q]) ∧ Post x' m')) iL_law_697 vX3_closed mX3_closed_ok mcl rfl rfl (Nat.le_of_ble_eq_true rfl) hbm hm (fun w m' hK hbm' => ?_)
  obtain ⟨⟨q2, rfl⟩, hP⟩ := hK
  refine xn_pop iL_law_700 rfl ?_
  exact xn_goto iL_law_701 (kk x' m' out hbx' hbm' hP)
theorem vL_finals : wr_V mL_finals [(0, 10, 13, 13)] := ⟨cwL_finals, stL_finals, xl_iL, by decide +kernel, by decide +kernel, by decide +kernel, rfl, rfl⟩
theorem hL_finals (x : LSt) (out : Nat → Int) (hbx : bdL x) (a b : Int) (ha : xB a) (hb : xB b) : wr_C mL_finals [(0, 10, 13, 13)] [.ref 0, xi a, xi b, .ref 137] (encL x ++ [xL 1 out]) (fun v h' => (∃ q, xb q ∧ ((ofLatest (a) ((x.2.2 0).1 5) 40 ∧ 0 ≤ b ∧ b < 7) ∧ q = wI (fFinals x a b)) ∧ v = some (xi 0) ∧ h' = encL x ++ [xL 1 (xup out 0 q)]) ∨ (¬ (ofLatest (a) ((x.2.2 0).1 5) 40 ∧ 0 ≤ b ∧ b < 7) ∧ v = some (xi 1) ∧ h' = encL x ++ [xL 1 out])) := by
  have g := X2_finals_t (K := fun v s' => ((ofLatest (a) ((x.2.2 0).1 5) 40 ∧ 0 ≤ b ∧ b < 7) ∧ v = [pI (fFinals x a b)]) ∧ s' = x) (Pt := fun s' => ¬ (ofLatest (a) ((x.2.2 0).1 5) 40 ∧ 0 ≤ b ∧ b < 7) ∧ s' = x) a b x ha hb (fun h => ⟨h, rfl⟩) (fun h => ⟨⟨h, rfl⟩, rfl⟩)
  rw [wX_lt (by decide)] at g
  have hc := xt_con (As := [.ref 0, xi a, xi b]) kX2_finals yX2_finals_y rfl (by decide) (by decide) [some (.ref 0), some (xi a), some (xi b), none] rfl (Nat.le_of_ble_eq_true rfl) (g hbx)
  refine wr2_con FL_finals vX2_finals rfl rfl (by decide) a b x out hc (fun v h' q => ?_) (fun h' q => ?_)
  · obtain ⟨v', s', e1, e3, -, -, ⟨hc, rfl⟩, e4⟩ := q
    rw [e4] at e3
    match v, e1 with
    | some w, e1 =>
      have e2 : w = .int (iI (fFinals x a b)) := (List.cons.inj e1).1
      subst e2
      exact ⟨wI (fFinals x a b), wI_xb _, ⟨hc, rfl⟩, by rw [show xi (wI (fFinals x a b)) = Value.int (iI (wI (fFinals x a b))) from rfl, wI_iI], e3⟩
  · obtain ⟨s', e3, -, hc, e4⟩ := q
    rw [e4] at e3
    exact ⟨hc, e3⟩
theorem law_c15 {N : Nat} {z : Nat → Int} {Nn rc rs : Nat} {Po : Option (Option Value) → XH → Prop} (i : Nat) (hi : i + 5 ≤ N) (hN : N ≤ 3000) (x : LSt) (m : MS) (out : Nat → Int) (hbx : bdL x) (hbm : bdM m) {Post : LSt → MS → Prop} (hz : ∀ j, xB (z (i + j))) (hs : (ofLatest (z (i + 1)) ((x.2.2 0).1 5) 40 ∧ 0 ≤ z (i + 2) ∧ z (i + 2) < 7 → sX3_finals (z (i + 1)) (z (i + 2)) m (fun w m' => (∃ q, w = [pI q]) ∧ Post x m')) ∧ (¬ (ofLatest (z (i + 1)) ((x.2.2 0).1 5) 40 ∧ 0 ≤ z (i + 2) ∧ z (i + 2) < 7) → sX3_finals (z (i + 1)) (z (i + 2)) m (fun w m' => (∃ q, w = [pI q]) ∧ Post x m'))) (kk : ∀ x' m' out', bdL x' → bdM m' → Post x' m' → xn_W (some (N, fun j => iI (z j), xt_E)) Nn mL_law rc rs 1327 (lwL i) [] (encZ x' m' out') Po) : xn_W (some (N, fun j => iI (z j), xt_E)) Nn mL_law (rc + 1) (rs + 6) 704 (lwL i) [] (encZ x m out) Po := by
  refine xn_aload_n iL_law_704 rfl ?_
  refine lwA (jn := 1) iL_law_705 iL_law_706 iL_law_708 iL_law_709 iL_law_710 rfl rfl rfl (by omega) hN ?_
  refine lwA (jn := 2) iL_law_711 iL_law_712 iL_law_714 iL_law_715 iL_law_716 rfl rfl rfl (by omega) hN ?_
  refine xn_aload_n iL_law_717 rfl ?_
  refine lwW (As := [.ref 0, xi (z (i + 1)), xi (z (i + 2)), .ref 137]) (rest := []) iL_law_718 vL_finals rfl (Nat.le_of_ble_eq_true rfl) (hL_finals x out hbx (z (i + 1)) (z (i + 2)) (hz 1) (hz 2)) (fun q hq hOk => ?_) (fun hbad => ?_)
  · refine xn_istore iL_law_721 rfl (by decide) ?_
    refine xn_aload_n iL_law_723 rfl ?_
    refine lwA (jn := 1) iL_law_724 iL_law_725 iL_law_727 iL_law_728 iL_law_729 rfl rfl rfl (by omega) hN ?_
    refine lwA (jn := 2) iL_law_730 iL_law_731 iL_law_733 iL_law_734 iL_law_735 rfl rfl rfl (by omega) hN ?_
    refine lwM (as := [pI (z (i + 1)), pI (z (i + 2))]) (rest := []) (K := (fun w m' => (∃ q, w = [pI q]) ∧ Post x m')) iL_law_736 vX3_finals mX3_finals_ok mcl rfl rfl (Nat.le_of_ble_eq_true rfl) hbm (hs.1 hOk.1) (fun w m' hK hbm' => ?_)
    obtain ⟨⟨q2, rfl⟩, hP⟩ := hK
    refine xn_istore iL_law_739 rfl (by decide) ?_
    refine xn_goto iL_law_741 ?_
    exact xn_weak lwk (kk x m' _ hbx hbm' hP)
  · refine xn_istore iL_law_721 rfl (by decide) ?_
    refine xn_aload_n iL_law_723 rfl ?_
    refine lwA (jn := 1) iL_law_724 iL_law_725 iL_law_727 iL_law_728 iL_law_729 rfl rfl rfl (by omega) hN ?_
    refine lwA (jn := 2) iL_law_730 iL_law_731 iL_law_733 iL_law_734 iL_law_735 rfl rfl rfl (by omega) hN ?_
    refine lwM (as := [pI (z (i + 1)), pI (z (i + 2))]) (rest := []) (K := (fun w m' => (∃ q, w = [pI q]) ∧ Post x m')) iL_law_736 vX3_finals mX3_finals_ok mcl rfl rfl (Nat.le_of_ble_eq_true rfl) hbm (hs.2 hbad) (fun w m' hK hbm' => ?_)
    obtain ⟨⟨q2, rfl⟩, hP⟩ := hK
    refine xn_istore iL_law_739 rfl (by decide) ?_
    refine xn_goto iL_law_741 ?_
    exact xn_weak lwk (kk x m' _ hbx hbm' hP)
theorem law_c16 {N : Nat} {z : Nat → Int} {Nn rc rs : Nat} {Po : Option (Option Value) → XH → Prop} (i : Nat) (hi : i + 5 ≤ N) (hN : N ≤ 3000) (x : LSt) (m : MS) (out : Nat → Int) (hbx : bdL x) (hbm : bdM m) {Post : LSt → MS → Prop} (hs : sX2_kinds (z (i + 1)) x (fun v x' => ∃ q, v = [pI q] ∧ sX3_kinds (z (i + 1)) m (fun w m' => (∃ q, w = [pI q]) ∧ Post x' m'))) (kk : ∀ x' m' out', bdL x' → bdM m' → Post x' m' → xn_W (some (N, fun j => iI (z j), xt_E)) Nn mL_law rc rs 1327 (lwL i) [] (encZ x' m' out') Po) : xn_W (some (N, fun j => iI (z j), xt_E)) Nn mL_law rc rs 744 (lwL i) [] (encZ x m out) Po := by
  refine xn_aload_n iL_law_744 rfl ?_
  refine lwA (jn := 1) iL_law_745 iL_law_746 iL_law_748 iL_law_749 iL_law_750 rfl rfl rfl (by omega) hN ?_
  refine lwX (as := [pI (z (i + 1))]) (rest := []) (K := (fun v x' => ∃ q, v = [pI q] ∧ sX3_kinds (z (i + 1)) m (fun w m' => (∃ q, w = [pI q]) ∧ Post x' m'))) iL_law_751 vX2_kinds mX2_kinds_ok lcl rfl rfl (Nat.le_of_ble_eq_true rfl) hbx hs (fun v x' hK hbx' => ?_)
  obtain ⟨q, rfl, hm⟩ := hK
  refine xn_pop iL_law_754 rfl ?_
  refine xn_aload_n iL_law_755 rfl ?_
  refine lwA (jn := 1) iL_law_756 iL_law_757 iL_law_759 iL_law_760 iL_law_761 rfl rfl rfl (by omega) hN ?_
  refine lwM (as := [pI (z (i + 1))]) (rest := []) (K := (fun w m' => (∃ q, w = [pI q]) ∧ Post x' m')) iL_law_762 vX3_kinds mX3_kinds_ok mcl rfl rfl (Nat.le_of_ble_eq_true rfl) hbm hm (fun w m' hK hbm' => ?_)
  obtain ⟨⟨q2, rfl⟩, hP⟩ := hK
  refine xn_pop iL_law_765 rfl ?_
  exact xn_goto iL_law_766 (kk x' m' out hbx' hbm' hP)
theorem law_c17 {N : Nat} {z : Nat → Int} {Nn rc rs : Nat} {Po : Option (Option Value) → XH → Prop} (i : Nat) (hi : i + 5 ≤ N) (hN : N ≤ 3000) (x : LSt) (m : MS) (out : Nat → Int) (hbx : bdL x) (hbm : bdM m) {Post : LSt → MS → Prop} (hs : sX2_slow x (fun v x' => ∃ q, v = [pI q] ∧ sX3_slow m (fun w m' => (∃ q, w = [pI q]) ∧ Post x' m'))) (kk : ∀ x' m' out', bdL x' → bdM m' → Post x' m' → xn_W (some (N, fun j => iI (z j), xt_E)) Nn mL_law rc rs 1327 (lwL i) [] (encZ x' m' out') Po) : xn_W (some (N, fun j => iI (z j), xt_E)) Nn mL_law rc rs 769 (lwL i) [] (encZ x m out) Po := by
  refine xn_aload_n iL_law_769 rfl ?_
  refine lwX (as := []) (rest := []) (K := (fun v x' => ∃ q, v = [pI q] ∧ sX3_slow  m (fun w m' => (∃ q, w = [pI q]) ∧ Post x' m'))) iL_law_770 vX2_slow mX2_slow_ok lcl rfl rfl (Nat.le_of_ble_eq_true rfl) hbx hs (fun v x' hK hbx' => ?_)
  obtain ⟨q, rfl, hm⟩ := hK
  refine xn_pop iL_law_773 rfl ?_
  refine xn_aload_n iL_law_774 rfl ?_
  refine lwM (as := []) (rest := []) (K := (fun w m' => (∃ q, w = [pI q]) ∧ Post x' m')) iL_law_775 vX3_slow mX3_slow_ok mcl rfl rfl (Nat.le_of_ble_eq_true rfl) hbm hm (fun w m' hK hbm' => ?_)
  obtain ⟨⟨q2, rfl⟩, hP⟩ := hK
  refine xn_pop iL_law_778 rfl ?_
  exact xn_goto iL_law_779 (kk x' m' out hbx' hbm' hP)
theorem law_c18 {N : Nat} {z : Nat → Int} {Nn rc rs : Nat} {Po : Option (Option Value) → XH → Prop} (i : Nat) (hi : i + 5 ≤ N) (hN : N ≤ 3000) (x : LSt) (m : MS) (out : Nat → Int) (hbx : bdL x) (hbm : bdM m) {Post : LSt → MS → Prop} (hs : sX2_span (z (i + 1)) (z (i + 2)) x (fun v x' => ∃ q, v = [pI q] ∧ sX3_span (z (i + 1)) (z (i + 2)) m (fun w m' => (∃ q, w = [pI q]) ∧ Post x' m'))) (kk : ∀ x' m' out', bdL x' → bdM m' → Post x' m' → xn_W (some (N, fun j => iI (z j), xt_E)) Nn mL_law rc rs 1327 (lwL i) [] (encZ x' m' out') Po) : xn_W (some (N, fun j => iI (z j), xt_E)) Nn mL_law rc rs 782 (lwL i) [] (encZ x m out) Po := by
  refine xn_aload_n iL_law_782 rfl ?_
  refine lwA (jn := 1) iL_law_783 iL_law_784 iL_law_786 iL_law_787 iL_law_788 rfl rfl rfl (by omega) hN ?_
  refine lwA (jn := 2) iL_law_789 iL_law_790 iL_law_792 iL_law_793 iL_law_794 rfl rfl rfl (by omega) hN ?_
  refine lwX (as := [pI (z (i + 1)), pI (z (i + 2))]) (rest := []) (K := (fun v x' => ∃ q, v = [pI q] ∧ sX3_span (z (i + 1)) (z (i + 2)) m (fun w m' => (∃ q, w = [pI q]) ∧ Post x' m'))) iL_law_795 vX2_span mX2_span_ok lcl rfl rfl (Nat.le_of_ble_eq_true rfl) hbx hs (fun v x' hK hbx' => ?_)
  obtain ⟨q, rfl, hm⟩ := hK
  refine xn_pop iL_law_798 rfl ?_
  refine xn_aload_n iL_law_799 rfl ?_
  refine lwA (jn := 1) iL_law_800 iL_law_801 iL_law_803 iL_law_804 iL_law_805 rfl rfl rfl (by omega) hN ?_
  refine lwA (jn := 2) iL_law_806 iL_law_807 iL_law_809 iL_law_810 iL_law_811 rfl rfl rfl (by omega) hN ?_
  refine lwM (as := [pI (z (i + 1)), pI (z (i + 2))]) (rest := []) (K := (fun w m' => (∃ q, w = [pI q]) ∧ Post x' m')) iL_law_812 vX3_span mX3_span_ok mcl rfl rfl (Nat.le_of_ble_eq_true rfl) hbm hm (fun w m' hK hbm' => ?_)
  obtain ⟨⟨q2, rfl⟩, hP⟩ := hK
  refine xn_pop iL_law_815 rfl ?_
  exact xn_goto iL_law_816 (kk x' m' out hbx' hbm' hP)
theorem law_c19 {N : Nat} {z : Nat → Int} {Nn rc rs : Nat} {Po : Option (Option Value) → XH → Prop} (i : Nat) (hi : i + 5 ≤ N) (hN : N ≤ 3000) (x : LSt) (m : MS) (out : Nat → Int) (hbx : bdL x) (hbm : bdM m) {Post : LSt → MS → Prop} (hs : sX2_taken x (fun v x' => ∃ q, v = [pI q] ∧ sX3_taken m (fun w m' => (∃ q, w = [pI q]) ∧ Post x' m'))) (kk : ∀ x' m' out', bdL x' → bdM m' → Post x' m' → xn_W (some (N, fun j => iI (z j), xt_E)) Nn mL_law rc rs 1327 (lwL i) [] (encZ x' m' out') Po) : xn_W (some (N, fun j => iI (z j), xt_E)) Nn mL_law rc rs 819 (lwL i) [] (encZ x m out) Po := by
  refine xn_aload_n iL_law_819 rfl ?_
  refine lwX (as := []) (rest := []) (K := (fun v x' => ∃ q, v = [pI q] ∧ sX3_taken  m (fun w m' => (∃ q, w = [pI q]) ∧ Post x' m'))) iL_law_820 vX2_taken mX2_taken_ok lcl rfl rfl (Nat.le_of_ble_eq_true rfl) hbx hs (fun v x' hK hbx' => ?_)
  obtain ⟨q, rfl, hm⟩ := hK
  refine xn_pop iL_law_823 rfl ?_
  refine xn_aload_n iL_law_824 rfl ?_
  refine lwM (as := []) (rest := []) (K := (fun w m' => (∃ q, w = [pI q]) ∧ Post x' m')) iL_law_825 vX3_taken mX3_taken_ok mcl rfl rfl (Nat.le_of_ble_eq_true rfl) hbm hm (fun w m' hK hbm' => ?_)
  obtain ⟨⟨q2, rfl⟩, hP⟩ := hK
  refine xn_pop iL_law_828 rfl ?_
  exact xn_goto iL_law_829 (kk x' m' out hbx' hbm' hP)
theorem law_c20 {N : Nat} {z : Nat → Int} {Nn rc rs : Nat} {Po : Option (Option Value) → XH → Prop} (i : Nat) (hi : i + 5 ≤ N) (hN : N ≤ 3000) (x : LSt) (m : MS) (out : Nat → Int) (hbx : bdL x) (hbm : bdM m) {Post : LSt → MS → Prop} (hs : sX2_holds x (fun v x' => ∃ q, v = [pI q] ∧ sX3_holds m (fun w m' => (∃ q, w = [pI q]) ∧ Post x' m'))) (kk : ∀ x' m' out', bdL x' → bdM m' → Post x' m' → xn_W (some (N, fun j => iI (z j), xt_E)) Nn mL_law rc rs 1327 (lwL i) [] (encZ x' m' out') Po) : xn_W (some (N, fun j => iI (z j), xt_E)) Nn mL_law rc rs 832 (lwL i) [] (encZ x m out) Po := by
  refine xn_aload_n iL_law_832 rfl ?_
  refine lwX (as := []) (rest := []) (K := (fun v x' => ∃ q, v = [pI q] ∧ sX3_holds  m (fun w m' => (∃ q, w = [pI q]) ∧ Post x' m'))) iL_law_833 vX2_holds mX2_holds_ok lcl rfl rfl (Nat.le_of_ble_eq_true rfl) hbx hs (fun v x' hK hbx' => ?_)
  obtain ⟨q, rfl, hm⟩ := hK
  refine xn_pop iL_law_836 rfl ?_
  refine xn_aload_n iL_law_837 rfl ?_
  refine lwM (as := []) (rest := []) (K := (fun w m' => (∃ q, w = [pI q]) ∧ Post x' m')) iL_law_838 vX3_holds mX3_holds_ok mcl rfl rfl (Nat.le_of_ble_eq_true rfl) hbm hm (fun w m' hK hbm' => ?_)
  obtain ⟨⟨q2, rfl⟩, hP⟩ := hK
  refine xn_pop iL_law_841 rfl ?_
  exact xn_goto iL_law_842 (kk x' m' out hbx' hbm' hP)
theorem law_c21 {N : Nat} {z : Nat → Int} {Nn rc rs : Nat} {Po : Option (Option Value) → XH → Prop} (i : Nat) (hi : i + 5 ≤ N) (hN : N ≤ 3000) (x : LSt) (m : MS) (out : Nat → Int) (hbx : bdL x) (hbm : bdM m) {Post : LSt → MS → Prop} (hs : sX2_next x (fun v x' => ∃ q, v = [pI q] ∧ sX3_next m (fun w m' => (∃ q, w = [pI q]) ∧ Post x' m'))) (kk : ∀ x' m' out', bdL x' → bdM m' → Post x' m' → xn_W (some (N, fun j => iI (z j), xt_E)) Nn mL_law rc rs 1327 (lwL i) [] (encZ x' m' out') Po) : xn_W (some (N, fun j => iI (z j), xt_E)) Nn mL_law rc rs 845 (lwL i) [] (encZ x m out) Po := by
  refine xn_aload_n iL_law_845 rfl ?_
  refine lwX (as := []) (rest := []) (K := (fun v x' => ∃ q, v = [pI q] ∧ sX3_next  m (fun w m' => (∃ q, w = [pI q]) ∧ Post x' m'))) iL_law_846 vX2_next mX2_next_ok lcl rfl rfl (Nat.le_of_ble_eq_true rfl) hbx hs (fun v x' hK hbx' => ?_)
  obtain ⟨q, rfl, hm⟩ := hK
  refine xn_pop iL_law_849 rfl ?_
  refine xn_aload_n iL_law_850 rfl ?_
  refine lwM (as := []) (rest := []) (K := (fun w m' => (∃ q, w = [pI q]) ∧ Post x' m')) iL_law_851 vX3_next mX3_next_ok mcl rfl rfl (Nat.le_of_ble_eq_true rfl) hbm hm (fun w m' hK hbm' => ?_)
  obtain ⟨⟨q2, rfl⟩, hP⟩ := hK
  refine xn_pop iL_law_854 rfl ?_
  exact xn_goto iL_law_855 (kk x' m' out hbx' hbm' hP)
theorem law_c22 {N : Nat} {z : Nat → Int} {Nn rc rs : Nat} {Po : Option (Option Value) → XH → Prop} (i : Nat) (hi : i + 5 ≤ N) (hN : N ≤ 3000) (x : LSt) (m : MS) (out : Nat → Int) (hbx : bdL x) (hbm : bdM m) {Post : LSt → MS → Prop} (hs : sX2_ahead (z (i + 1)) x (fun v x' => ∃ q, v = [pI q] ∧ sX3_ahead (z (i + 1)) m (fun w m' => (∃ q, w = [pI q]) ∧ Post x' m'))) (kk : ∀ x' m' out', bdL x' → bdM m' → Post x' m' → xn_W (some (N, fun j => iI (z j), xt_E)) Nn mL_law rc rs 1327 (lwL i) [] (encZ x' m' out') Po) : xn_W (some (N, fun j => iI (z j), xt_E)) Nn mL_law rc rs 858 (lwL i) [] (encZ x m out) Po := by
  refine xn_aload_n iL_law_858 rfl ?_
  refine lwA (jn := 1) iL_law_859 iL_law_860 iL_law_862 iL_law_863 iL_law_864 rfl rfl rfl (by omega) hN ?_
  refine lwX (as := [pI (z (i + 1))]) (rest := []) (K := (fun v x' => ∃ q, v = [pI q] ∧ sX3_ahead (z (i + 1)) m (fun w m' => (∃ q, w = [pI q]) ∧ Post x' m'))) iL_law_865 vX2_ahead mX2_ahead_ok lcl rfl rfl (Nat.le_of_ble_eq_true rfl) hbx hs (fun v x' hK hbx' => ?_)
  obtain ⟨q, rfl, hm⟩ := hK
  refine xn_pop iL_law_868 rfl ?_
  refine xn_aload_n iL_law_869 rfl ?_
  refine lwA (jn := 1) iL_law_870 iL_law_871 iL_law_873 iL_law_874 iL_law_875 rfl rfl rfl (by omega) hN ?_
  refine lwM (as := [pI (z (i + 1))]) (rest := []) (K := (fun w m' => (∃ q, w = [pI q]) ∧ Post x' m')) iL_law_876 vX3_ahead mX3_ahead_ok mcl rfl rfl (Nat.le_of_ble_eq_true rfl) hbm hm (fun w m' hK hbm' => ?_)
  obtain ⟨⟨q2, rfl⟩, hP⟩ := hK
  refine xn_pop iL_law_879 rfl ?_
  exact xn_goto iL_law_880 (kk x' m' out hbx' hbm' hP)
theorem law_c23 {N : Nat} {z : Nat → Int} {Nn rc rs : Nat} {Po : Option (Option Value) → XH → Prop} (i : Nat) (hi : i + 5 ≤ N) (hN : N ≤ 3000) (x : LSt) (m : MS) (out : Nat → Int) (hbx : bdL x) (hbm : bdM m) {Post : LSt → MS → Prop} (hs : sX2_would (z (i + 1)) (z (i + 2)) (z (i + 3)) (z (i + 4)) x (fun v x' => ∃ q, v = [pI q] ∧ sX3_would (z (i + 1)) (z (i + 2)) (z (i + 3)) (z (i + 4)) m (fun w m' => (∃ q, w = [pI q]) ∧ Post x' m'))) (kk : ∀ x' m' out', bdL x' → bdM m' → Post x' m' → xn_W (some (N, fun j => iI (z j), xt_E)) Nn mL_law rc rs 1327 (lwL i) [] (encZ x' m' out') Po) : xn_W (some (N, fun j => iI (z j), xt_E)) Nn mL_law rc rs 883 (lwL i) [] (encZ x m out) Po := by
  refine xn_aload_n iL_law_883 rfl ?_
  refine lwA (jn := 1) iL_law_884 iL_law_885 iL_law_887 iL_law_888 iL_law_889 rfl rfl rfl (by omega) hN ?_
  refine lwA (jn := 2) iL_law_890 iL_law_891 iL_law_893 iL_law_894 iL_law_895 rfl rfl rfl (by omega) hN ?_
  refine lwA (jn := 3) iL_law_896 iL_law_897 iL_law_899 iL_law_900 iL_law_901 rfl rfl rfl (by omega) hN ?_
  refine lwA (jn := 4) iL_law_902 iL_law_903 iL_law_905 iL_law_906 iL_law_907 rfl rfl rfl (by omega) hN ?_
  refine lwX (as := [pI (z (i + 1)), pI (z (i + 2)), pI (z (i + 3)), pI (z (i + 4))]) (rest := []) (K := (fun v x' => ∃ q, v = [pI q] ∧ sX3_would (z (i + 1)) (z (i + 2)) (z (i + 3)) (z (i + 4)) m (fun w m' => (∃ q, w = [pI q]) ∧ Post x' m'))) iL_law_908 vX2_would mX2_would_ok lcl rfl rfl (Nat.le_of_ble_eq_true rfl) hbx hs (fun v x' hK hbx' => ?_)
  obtain ⟨q, rfl, hm⟩ := hK
  refine xn_pop iL_law_911 rfl ?_
  refine xn_aload_n iL_law_912 rfl ?_
  refine lwA (jn := 1) iL_law_913 iL_law_914 iL_law_916 iL_law_917 iL_law_918 rfl rfl rfl (by omega) hN ?_
  refine lwA (jn := 2) iL_law_919 iL_law_920 iL_law_922 iL_law_923 iL_law_924 rfl rfl rfl (by omega) hN ?_
  refine lwA (jn := 3) iL_law_925 iL_law_926 iL_law_928 iL_law_929 iL_law_930 rfl rfl rfl (by omega) hN ?_
  refine lwA (jn := 4) iL_law_931 iL_law_932 iL_law_934 iL_law_935 iL_law_936 rfl rfl rfl (by omega) hN ?_
  refine lwM (as := [pI (z (i + 1)), pI (z (i + 2)), pI (z (i + 3)), pI (z (i + 4))]) (rest := []) (K := (fun w m' => (∃ q, w = [pI q]) ∧ Post x' m')) iL_law_937 vX3_would mX3_would_ok mcl rfl rfl (Nat.le_of_ble_eq_true rfl) hbm hm (fun w m' hK hbm' => ?_)
  obtain ⟨⟨q2, rfl⟩, hP⟩ := hK
  refine xn_pop iL_law_940 rfl ?_
  exact xn_goto iL_law_941 (kk x' m' out hbx' hbm' hP)
theorem law_c24 {N : Nat} {z : Nat → Int} {Nn rc rs : Nat} {Po : Option (Option Value) → XH → Prop} (i : Nat) (hi : i + 5 ≤ N) (hN : N ≤ 3000) (x : LSt) (m : MS) (out : Nat → Int) (hbx : bdL x) (hbm : bdM m) {Post : LSt → MS → Prop} (hs : sX2_batch (z (i + 1)) x (fun v x' => ∃ q, v = [pI q] ∧ sX3_batch (z (i + 1)) m (fun w m' => (∃ q, w = [pI q]) ∧ Post x' m'))) (kk : ∀ x' m' out', bdL x' → bdM m' → Post x' m' → xn_W (some (N, fun j => iI (z j), xt_E)) Nn mL_law rc rs 1327 (lwL i) [] (encZ x' m' out') Po) : xn_W (some (N, fun j => iI (z j), xt_E)) Nn mL_law rc rs 944 (lwL i) [] (encZ x m out) Po := by
  refine xn_aload_n iL_law_944 rfl ?_
  refine lwA (jn := 1) iL_law_945 iL_law_946 iL_law_948 iL_law_949 iL_law_950 rfl rfl rfl (by omega) hN ?_
  refine lwX (as := [pI (z (i + 1))]) (rest := []) (K := (fun v x' => ∃ q, v = [pI q] ∧ sX3_batch (z (i + 1)) m (fun w m' => (∃ q, w = [pI q]) ∧ Post x' m'))) iL_law_951 vX2_batch mX2_batch_ok lcl rfl rfl (Nat.le_of_ble_eq_true rfl) hbx hs (fun v x' hK hbx' => ?_)
  obtain ⟨q, rfl, hm⟩ := hK
  refine xn_pop iL_law_954 rfl ?_
  refine xn_aload_n iL_law_955 rfl ?_
  refine lwA (jn := 1) iL_law_956 iL_law_957 iL_law_959 iL_law_960 iL_law_961 rfl rfl rfl (by omega) hN ?_
  refine lwM (as := [pI (z (i + 1))]) (rest := []) (K := (fun w m' => (∃ q, w = [pI q]) ∧ Post x' m')) iL_law_962 vX3_batch mX3_batch_ok mcl rfl rfl (Nat.le_of_ble_eq_true rfl) hbm hm (fun w m' hK hbm' => ?_)
  obtain ⟨⟨q2, rfl⟩, hP⟩ := hK
  refine xn_pop iL_law_965 rfl ?_
  exact xn_goto iL_law_966 (kk x' m' out hbx' hbm' hP)
theorem law_c25 {N : Nat} {z : Nat → Int} {Nn rc rs : Nat} {Po : Option (Option Value) → XH → Prop} (i : Nat) (hi : i + 5 ≤ N) (hN : N ≤ 3000) (x : LSt) (m : MS) (out : Nat → Int) (hbx : bdL x) (hbm : bdM m) {Post : LSt → MS → Prop} (hs : sX2_latest x (fun v x' => ∃ q, v = [pI q] ∧ sX3_latest m (fun w m' => (∃ q, w = [pI q]) ∧ Post x' m'))) (kk : ∀ x' m' out', bdL x' → bdM m' → Post x' m' → xn_W (some (N, fun j => iI (z j), xt_E)) Nn mL_law rc rs 1327 (lwL i) [] (encZ x' m' out') Po) : xn_W (some (N, fun j => iI (z j), xt_E)) Nn mL_law rc rs 969 (lwL i) [] (encZ x m out) Po := by
  refine xn_aload_n iL_law_969 rfl ?_
  refine lwX (as := []) (rest := []) (K := (fun v x' => ∃ q, v = [pI q] ∧ sX3_latest  m (fun w m' => (∃ q, w = [pI q]) ∧ Post x' m'))) iL_law_970 vX2_latest mX2_latest_ok lcl rfl rfl (Nat.le_of_ble_eq_true rfl) hbx hs (fun v x' hK hbx' => ?_)
  obtain ⟨q, rfl, hm⟩ := hK
  refine xn_pop iL_law_973 rfl ?_
  refine xn_aload_n iL_law_974 rfl ?_
  refine lwM (as := []) (rest := []) (K := (fun w m' => (∃ q, w = [pI q]) ∧ Post x' m')) iL_law_975 vX3_latest mX3_latest_ok mcl rfl rfl (Nat.le_of_ble_eq_true rfl) hbm hm (fun w m' hK hbm' => ?_)
  obtain ⟨⟨q2, rfl⟩, hP⟩ := hK
  refine xn_pop iL_law_978 rfl ?_
  exact xn_goto iL_law_979 (kk x' m' out hbx' hbm' hP)
theorem law_c26 {N : Nat} {z : Nat → Int} {Nn rc rs : Nat} {Po : Option (Option Value) → XH → Prop} (i : Nat) (hi : i + 5 ≤ N) (hN : N ≤ 3000) (x : LSt) (m : MS) (out : Nat → Int) (hbx : bdL x) (hbm : bdM m) {Post : LSt → MS → Prop} (hs : sX2_parts (z (i + 1)) (z (i + 2)) x (fun v x' => ∃ q, v = [pI q] ∧ sX3_parts (z (i + 1)) (z (i + 2)) m (fun w m' => (∃ q, w = [pI q]) ∧ Post x' m'))) (kk : ∀ x' m' out', bdL x' → bdM m' → Post x' m' → xn_W (some (N, fun j => iI (z j), xt_E)) Nn mL_law rc rs 1327 (lwL i) [] (encZ x' m' out') Po) : xn_W (some (N, fun j => iI (z j), xt_E)) Nn mL_law rc rs 982 (lwL i) [] (encZ x m out) Po := by
  refine xn_aload_n iL_law_982 rfl ?_
  refine lwA (jn := 1) iL_law_983 iL_law_984 iL_law_986 iL_law_987 iL_law_988 rfl rfl rfl (by omega) hN ?_
  refine lwA (jn := 2) iL_law_989 iL_law_990 iL_law_992 iL_law_993 iL_law_994 rfl rfl rfl (by omega) hN ?_
  refine lwX (as := [pI (z (i + 1)), pI (z (i + 2))]) (rest := []) (K := (fun v x' => ∃ q, v = [pI q] ∧ sX3_parts (z (i + 1)) (z (i + 2)) m (fun w m' => (∃ q, w = [pI q]) ∧ Post x' m'))) iL_law_995 vX2_parts mX2_parts_ok lcl rfl rfl (Nat.le_of_ble_eq_true rfl) hbx hs (fun v x' hK hbx' => ?_)
  obtain ⟨q, rfl, hm⟩ := hK
  refine xn_pop iL_law_998 rfl ?_
  refine xn_aload_n iL_law_999 rfl ?_
  refine lwA (jn := 1) iL_law_1000 iL_law_1001 iL_law_1003 iL_law_1004 iL_law_1005 rfl rfl rfl (by omega) hN ?_
  refine lwA (jn := 2) iL_law_1006 iL_law_1007 iL_law_1009 iL_law_1010 iL_law_1011 rfl rfl rfl (by omega) hN ?_
  refine lwM (as := [pI (z (i + 1)), pI (z (i + 2))]) (rest := []) (K := (fun w m' => (∃ q, w = [pI q]) ∧ Post x' m')) iL_law_1012 vX3_parts mX3_parts_ok mcl rfl rfl (Nat.le_of_ble_eq_true rfl) hbm hm (fun w m' hK hbm' => ?_)
  obtain ⟨⟨q2, rfl⟩, hP⟩ := hK
  refine xn_pop iL_law_1015 rfl ?_
  exact xn_goto iL_law_1016 (kk x' m' out hbx' hbm' hP)
theorem law_c27 {N : Nat} {z : Nat → Int} {Nn rc rs : Nat} {Po : Option (Option Value) → XH → Prop} (i : Nat) (hi : i + 5 ≤ N) (hN : N ≤ 3000) (x : LSt) (m : MS) (out : Nat → Int) (hbx : bdL x) (hbm : bdM m) {Post : LSt → MS → Prop} (hs : sX2_again (z (i + 1)) (z (i + 2)) (z (i + 3)) x (fun v x' => ∃ q, v = [pI q] ∧ sX3_again (z (i + 1)) (z (i + 2)) (z (i + 3)) m (fun w m' => (∃ q, w = [pI q]) ∧ Post x' m'))) (kk : ∀ x' m' out', bdL x' → bdM m' → Post x' m' → xn_W (some (N, fun j => iI (z j), xt_E)) Nn mL_law rc rs 1327 (lwL i) [] (encZ x' m' out') Po) : xn_W (some (N, fun j => iI (z j), xt_E)) Nn mL_law rc rs 1019 (lwL i) [] (encZ x m out) Po := by
  refine xn_aload_n iL_law_1019 rfl ?_
  refine lwA (jn := 1) iL_law_1020 iL_law_1021 iL_law_1023 iL_law_1024 iL_law_1025 rfl rfl rfl (by omega) hN ?_
  refine lwA (jn := 2) iL_law_1026 iL_law_1027 iL_law_1029 iL_law_1030 iL_law_1031 rfl rfl rfl (by omega) hN ?_
  refine lwA (jn := 3) iL_law_1032 iL_law_1033 iL_law_1035 iL_law_1036 iL_law_1037 rfl rfl rfl (by omega) hN ?_
  refine lwX (as := [pI (z (i + 1)), pI (z (i + 2)), pI (z (i + 3))]) (rest := []) (K := (fun v x' => ∃ q, v = [pI q] ∧ sX3_again (z (i + 1)) (z (i + 2)) (z (i + 3)) m (fun w m' => (∃ q, w = [pI q]) ∧ Post x' m'))) iL_law_1038 vX2_again mX2_again_ok lcl rfl rfl (Nat.le_of_ble_eq_true rfl) hbx hs (fun v x' hK hbx' => ?_)
  obtain ⟨q, rfl, hm⟩ := hK
  refine xn_pop iL_law_1041 rfl ?_
  refine xn_aload_n iL_law_1042 rfl ?_
  refine lwA (jn := 1) iL_law_1043 iL_law_1044 iL_law_1046 iL_law_1047 iL_law_1048 rfl rfl rfl (by omega) hN ?_
  refine lwA (jn := 2) iL_law_1049 iL_law_1050 iL_law_1052 iL_law_1053 iL_law_1054 rfl rfl rfl (by omega) hN ?_
  refine lwA (jn := 3) iL_law_1055 iL_law_1056 iL_law_1058 iL_law_1059 iL_law_1060 rfl rfl rfl (by omega) hN ?_
  refine lwM (as := [pI (z (i + 1)), pI (z (i + 2)), pI (z (i + 3))]) (rest := []) (K := (fun w m' => (∃ q, w = [pI q]) ∧ Post x' m')) iL_law_1061 vX3_again mX3_again_ok mcl rfl rfl (Nat.le_of_ble_eq_true rfl) hbm hm (fun w m' hK hbm' => ?_)
  obtain ⟨⟨q2, rfl⟩, hP⟩ := hK
  refine xn_pop iL_law_1064 rfl ?_
  exact xn_goto iL_law_1065 (kk x' m' out hbx' hbm' hP)
theorem law_c28 {N : Nat} {z : Nat → Int} {Nn rc rs : Nat} {Po : Option (Option Value) → XH → Prop} (i : Nat) (hi : i + 5 ≤ N) (hN : N ≤ 3000) (x : LSt) (m : MS) (out : Nat → Int) (hbx : bdL x) (hbm : bdM m) {Post : LSt → MS → Prop} (hs : sX2_without (z (i + 1)) x (fun v x' => ∃ q, v = [pI q] ∧ sX3_without (z (i + 1)) m (fun w m' => (∃ q, w = [pI q]) ∧ Post x' m'))) (kk : ∀ x' m' out', bdL x' → bdM m' → Post x' m' → xn_W (some (N, fun j => iI (z j), xt_E)) Nn mL_law rc rs 1327 (lwL i) [] (encZ x' m' out') Po) : xn_W (some (N, fun j => iI (z j), xt_E)) Nn mL_law rc rs 1068 (lwL i) [] (encZ x m out) Po := by
  refine xn_aload_n iL_law_1068 rfl ?_
  refine lwA (jn := 1) iL_law_1069 iL_law_1070 iL_law_1072 iL_law_1073 iL_law_1074 rfl rfl rfl (by omega) hN ?_
  refine lwX (as := [pI (z (i + 1))]) (rest := []) (K := (fun v x' => ∃ q, v = [pI q] ∧ sX3_without (z (i + 1)) m (fun w m' => (∃ q, w = [pI q]) ∧ Post x' m'))) iL_law_1075 vX2_without mX2_without_ok lcl rfl rfl (Nat.le_of_ble_eq_true rfl) hbx hs (fun v x' hK hbx' => ?_)
  obtain ⟨q, rfl, hm⟩ := hK
  refine xn_pop iL_law_1078 rfl ?_
  refine xn_aload_n iL_law_1079 rfl ?_
  refine lwA (jn := 1) iL_law_1080 iL_law_1081 iL_law_1083 iL_law_1084 iL_law_1085 rfl rfl rfl (by omega) hN ?_
  refine lwM (as := [pI (z (i + 1))]) (rest := []) (K := (fun w m' => (∃ q, w = [pI q]) ∧ Post x' m')) iL_law_1086 vX3_without mX3_without_ok mcl rfl rfl (Nat.le_of_ble_eq_true rfl) hbm hm (fun w m' hK hbm' => ?_)
  obtain ⟨⟨q2, rfl⟩, hP⟩ := hK
  refine xn_pop iL_law_1089 rfl ?_
  exact xn_goto iL_law_1090 (kk x' m' out hbx' hbm' hP)
theorem vL_input : wr_V mL_input [(0, 10, 13, 13)] := ⟨cwL_input, stL_input, xl_iL, by decide +kernel, by decide +kernel, by decide +kernel, rfl, rfl⟩
theorem hL_input (x : LSt) (out : Nat → Int) (hbx : bdL x) (a b : Int) (ha : xB a) (hb : xB b) : wr_C mL_input [(0, 10, 13, 13)] [.ref 0, xi a, xi b, .ref 137] (encL x ++ [xL 1 out]) (fun v h' => (∃ q, xb q ∧ (((0 ≤ a ∧ a < wZ (x.2.2 0) 4) ∧ 0 ≤ b ∧ b ≤ 3) ∧ q = wI (fInput x a b)) ∧ v = some (xi 0) ∧ h' = encL x ++ [xL 1 (xup out 0 q)]) ∨ (¬ ((0 ≤ a ∧ a < wZ (x.2.2 0) 4) ∧ 0 ≤ b ∧ b ≤ 3) ∧ v = some (xi 1) ∧ h' = encL x ++ [xL 1 out])) := by
  have g := X2_input_t (K := fun v s' => (((0 ≤ a ∧ a < wZ (x.2.2 0) 4) ∧ 0 ≤ b ∧ b ≤ 3) ∧ v = [pI (fInput x a b)]) ∧ s' = x) (Pt := fun s' => ¬ ((0 ≤ a ∧ a < wZ (x.2.2 0) 4) ∧ 0 ≤ b ∧ b ≤ 3) ∧ s' = x) a b x ha hb (fun h => ⟨h, rfl⟩) (fun h => ⟨⟨h, rfl⟩, rfl⟩)
  rw [wX_lt (by decide)] at g
  have hc := xt_con (As := [.ref 0, xi a, xi b]) kX2_input yX2_input_y rfl (by decide) (by decide) [some (.ref 0), some (xi a), some (xi b)] rfl (Nat.le_of_ble_eq_true rfl) (g hbx)
  refine wr2_con FL_input vX2_input rfl rfl (by decide) a b x out hc (fun v h' q => ?_) (fun h' q => ?_)
  · obtain ⟨v', s', e1, e3, -, -, ⟨hc, rfl⟩, e4⟩ := q
    rw [e4] at e3
    match v, e1 with
    | some w, e1 =>
      have e2 : w = .int (iI (fInput x a b)) := (List.cons.inj e1).1
      subst e2
      exact ⟨wI (fInput x a b), wI_xb _, ⟨hc, rfl⟩, by rw [show xi (wI (fInput x a b)) = Value.int (iI (wI (fInput x a b))) from rfl, wI_iI], e3⟩
  · obtain ⟨s', e3, -, hc, e4⟩ := q
    rw [e4] at e3
    exact ⟨hc, e3⟩
theorem law_c29 {N : Nat} {z : Nat → Int} {Nn rc rs : Nat} {Po : Option (Option Value) → XH → Prop} (i : Nat) (hi : i + 5 ≤ N) (hN : N ≤ 3000) (x : LSt) (m : MS) (out : Nat → Int) (hbx : bdL x) (hbm : bdM m) {Post : LSt → MS → Prop} (hz : ∀ j, xB (z (i + j))) (hs : ((0 ≤ z (i + 1) ∧ z (i + 1) < wZ (x.2.2 0) 4) ∧ 0 ≤ z (i + 2) ∧ z (i + 2) ≤ 3 → sX3_input (z (i + 1)) (z (i + 2)) m (fun w m' => w = [pI (fInput x (z (i + 1)) (z (i + 2)))] ∧ m'.1 0 = 0 ∧ Post x m')) ∧ (¬ ((0 ≤ z (i + 1) ∧ z (i + 1) < wZ (x.2.2 0) 4) ∧ 0 ≤ z (i + 2) ∧ z (i + 2) ≤ 3) → sX3_input (z (i + 1)) (z (i + 2)) m (fun w m' => (∃ q, w = [pI q]) ∧ m'.1 0 = 1 ∧ Post x m'))) (kk : ∀ x' m' out', bdL x' → bdM m' → Post x' m' → xn_W (some (N, fun j => iI (z j), xt_E)) Nn mL_law rc rs 1327 (lwL i) [] (encZ x' m' out') Po) : xn_W (some (N, fun j => iI (z j), xt_E)) Nn mL_law (rc + 1) (rs + 6) 1093 (lwL i) [] (encZ x m out) Po := by
  refine xn_aload_n iL_law_1093 rfl ?_
  refine lwA (jn := 1) iL_law_1094 iL_law_1095 iL_law_1097 iL_law_1098 iL_law_1099 rfl rfl rfl (by omega) hN ?_
  refine lwA (jn := 2) iL_law_1100 iL_law_1101 iL_law_1103 iL_law_1104 iL_law_1105 rfl rfl rfl (by omega) hN ?_
  refine xn_aload_n iL_law_1106 rfl ?_
  refine lwW (As := [.ref 0, xi (z (i + 1)), xi (z (i + 2)), .ref 137]) (rest := []) iL_law_1107 vL_input rfl (Nat.le_of_ble_eq_true rfl) (hL_input x out hbx (z (i + 1)) (z (i + 2)) (hz 1) (hz 2)) (fun q hq hOk => ?_) (fun hbad => ?_)
  · refine xn_istore iL_law_1110 rfl (by decide) ?_
    refine xn_aload_n iL_law_1112 rfl ?_
    refine lwA (jn := 1) iL_law_1113 iL_law_1114 iL_law_1116 iL_law_1117 iL_law_1118 rfl rfl rfl (by omega) hN ?_
    refine lwA (jn := 2) iL_law_1119 iL_law_1120 iL_law_1122 iL_law_1123 iL_law_1124 rfl rfl rfl (by omega) hN ?_
    refine lwM (as := [pI (z (i + 1)), pI (z (i + 2))]) (rest := []) (K := (fun w m' => w = [pI (fInput x (z (i + 1)) (z (i + 2)))] ∧ m'.1 0 = 0 ∧ Post x m')) iL_law_1125 vX3_input mX3_input_ok mcl rfl rfl (Nat.le_of_ble_eq_true rfl) hbm (hs.1 hOk.1) (fun w m' hK hbm' => ?_)
    obtain ⟨rfl, h0, hP⟩ := hK
    refine xn_istore iL_law_1128 rfl (by decide) ?_
    refine xn_aload_n iL_law_1130 rfl ?_
    refine lwM (as := []) (rest := []) (K := fun t m'' => t = [pI (m'.1 0)] ∧ m'' = m') iL_law_1131 vX3_thrown mX3_thrown_ok mcl rfl rfl (Nat.le_of_ble_eq_true rfl) hbm' (fun _ => ⟨rfl, rfl⟩) (fun t m'' hK hbm'' => ?_)
    obtain ⟨rfl, e0⟩ := hK
    rw [e0]
    refine xn_iload iL_law_1134 rfl ?_
    rw [h0]
    refine xn_icmp_eq iL_law_1136 (fun _ => ?_) (fun h => absurd rfl h)
    refine xn_iload iL_law_1141 rfl ?_
    refine xn_if_ne iL_law_1143 (fun h => absurd rfl h) (fun _ => ?_)
    refine xn_aload_n iL_law_1146 rfl ?_
    refine xn_iconst 0 iL_law_1147 rfl ?_
    refine xn_lald (i := 0) iL_law_1148 (atZ _ _ _) (iI_in (z := 0) ⟨by decide, by decide⟩ (by decide) (by decide)) ?_
    refine xn_iload iL_law_1149 rfl ?_
    refine xn_i2l iL_law_1151 ?_
    refine xn_lcmp iL_law_1152 ?_
    have e9 : lg_cmp (lI (xup out 0 q 0)) ((iI (fInput x (z (i + 1)) (z (i + 2)))).toInt64) = 0 := by rw [xup_0, hOk.2, wI_long]; exact lg_cmp0 _
    refine xn_if_eq iL_law_1153 (fun _ => ?_) (fun h => absurd e9 h)
    refine xn_goto iL_law_1158 ?_
    exact xn_weak lwk (kk x m' _ hbx hbm' hP)
  · refine xn_istore iL_law_1110 rfl (by decide) ?_
    refine xn_aload_n iL_law_1112 rfl ?_
    refine lwA (jn := 1) iL_law_1113 iL_law_1114 iL_law_1116 iL_law_1117 iL_law_1118 rfl rfl rfl (by omega) hN ?_
    refine lwA (jn := 2) iL_law_1119 iL_law_1120 iL_law_1122 iL_law_1123 iL_law_1124 rfl rfl rfl (by omega) hN ?_
    refine lwM (as := [pI (z (i + 1)), pI (z (i + 2))]) (rest := []) (K := (fun w m' => (∃ q, w = [pI q]) ∧ m'.1 0 = 1 ∧ Post x m')) iL_law_1125 vX3_input mX3_input_ok mcl rfl rfl (Nat.le_of_ble_eq_true rfl) hbm (hs.2 hbad) (fun w m' hK hbm' => ?_)
    obtain ⟨⟨q2, rfl⟩, h0, hP⟩ := hK
    refine xn_istore iL_law_1128 rfl (by decide) ?_
    refine xn_aload_n iL_law_1130 rfl ?_
    refine lwM (as := []) (rest := []) (K := fun t m'' => t = [pI (m'.1 0)] ∧ m'' = m') iL_law_1131 vX3_thrown mX3_thrown_ok mcl rfl rfl (Nat.le_of_ble_eq_true rfl) hbm' (fun _ => ⟨rfl, rfl⟩) (fun t m'' hK hbm'' => ?_)
    obtain ⟨rfl, e0⟩ := hK
    rw [e0]
    refine xn_iload iL_law_1134 rfl ?_
    rw [h0]
    refine xn_icmp_eq iL_law_1136 (fun _ => ?_) (fun h => absurd rfl h)
    refine xn_iload iL_law_1141 rfl ?_
    exact xn_if_ne iL_law_1143 (fun _ => xn_goto iL_law_1158 (xn_weak lwk (kk x m' _ hbx hbm' hP))) (fun h => absurd h (by decide))
theorem law_c30 {N : Nat} {z : Nat → Int} {Nn rc rs : Nat} {Po : Option (Option Value) → XH → Prop} (i : Nat) (hi : i + 5 ≤ N) (hN : N ≤ 3000) (x : LSt) (m : MS) (out : Nat → Int) (hbx : bdL x) (hbm : bdM m) {Post : LSt → MS → Prop} (hs : sX2_day x (fun v x' => ∃ q, v = [pI q] ∧ sX3_day m (fun w m' => (∃ q, w = [pI q]) ∧ Post x' m'))) (kk : ∀ x' m' out', bdL x' → bdM m' → Post x' m' → xn_W (some (N, fun j => iI (z j), xt_E)) Nn mL_law rc rs 1327 (lwL i) [] (encZ x' m' out') Po) : xn_W (some (N, fun j => iI (z j), xt_E)) Nn mL_law rc rs 1161 (lwL i) [] (encZ x m out) Po := by
  refine xn_aload_n iL_law_1161 rfl ?_
  refine lwX (as := []) (rest := []) (K := (fun v x' => ∃ q, v = [pI q] ∧ sX3_day  m (fun w m' => (∃ q, w = [pI q]) ∧ Post x' m'))) iL_law_1162 vX2_day mX2_day_ok lcl rfl rfl (Nat.le_of_ble_eq_true rfl) hbx hs (fun v x' hK hbx' => ?_)
  obtain ⟨q, rfl, hm⟩ := hK
  refine xn_pop iL_law_1165 rfl ?_
  refine xn_aload_n iL_law_1166 rfl ?_
  refine lwM (as := []) (rest := []) (K := (fun w m' => (∃ q, w = [pI q]) ∧ Post x' m')) iL_law_1167 vX3_day mX3_day_ok mcl rfl rfl (Nat.le_of_ble_eq_true rfl) hbm hm (fun w m' hK hbm' => ?_)
  obtain ⟨⟨q2, rfl⟩, hP⟩ := hK
  refine xn_pop iL_law_1170 rfl ?_
  exact xn_goto iL_law_1171 (kk x' m' out hbx' hbm' hP)
theorem law_c31 {N : Nat} {z : Nat → Int} {Nn rc rs : Nat} {Po : Option (Option Value) → XH → Prop} (i : Nat) (hi : i + 5 ≤ N) (hN : N ≤ 3000) (x : LSt) (m : MS) (out : Nat → Int) (hbx : bdL x) (hbm : bdM m) {Post : LSt → MS → Prop} (hs : sX2_undo x (fun v x' => ∃ q, v = [pI q] ∧ sX3_undo m (fun w m' => (∃ q, w = [pI q]) ∧ Post x' m'))) (kk : ∀ x' m' out', bdL x' → bdM m' → Post x' m' → xn_W (some (N, fun j => iI (z j), xt_E)) Nn mL_law rc rs 1327 (lwL i) [] (encZ x' m' out') Po) : xn_W (some (N, fun j => iI (z j), xt_E)) Nn mL_law rc rs 1174 (lwL i) [] (encZ x m out) Po := by
  refine xn_aload_n iL_law_1174 rfl ?_
  refine lwX (as := []) (rest := []) (K := (fun v x' => ∃ q, v = [pI q] ∧ sX3_undo  m (fun w m' => (∃ q, w = [pI q]) ∧ Post x' m'))) iL_law_1175 vX2_undo mX2_undo_ok lcl rfl rfl (Nat.le_of_ble_eq_true rfl) hbx hs (fun v x' hK hbx' => ?_)
  obtain ⟨q, rfl, hm⟩ := hK
  refine xn_pop iL_law_1178 rfl ?_
  refine xn_aload_n iL_law_1179 rfl ?_
  refine lwM (as := []) (rest := []) (K := (fun w m' => (∃ q, w = [pI q]) ∧ Post x' m')) iL_law_1180 vX3_undo mX3_undo_ok mcl rfl rfl (Nat.le_of_ble_eq_true rfl) hbm hm (fun w m' hK hbm' => ?_)
  obtain ⟨⟨q2, rfl⟩, hP⟩ := hK
  refine xn_pop iL_law_1183 rfl ?_
  exact xn_goto iL_law_1184 (kk x' m' out hbx' hbm' hP)
theorem law_c32 {N : Nat} {z : Nat → Int} {Nn rc rs : Nat} {Po : Option (Option Value) → XH → Prop} (i : Nat) (hi : i + 5 ≤ N) (hN : N ≤ 3000) (x : LSt) (m : MS) (out : Nat → Int) (hbx : bdL x) (hbm : bdM m) {Post : LSt → MS → Prop} (hs : sX2_years (z (i + 1)) (z (i + 2)) x (fun v x' => ∃ q, v = [pI q] ∧ sX3_years (z (i + 1)) (z (i + 2)) m (fun w m' => (∃ q, w = [pI q]) ∧ Post x' m'))) (kk : ∀ x' m' out', bdL x' → bdM m' → Post x' m' → xn_W (some (N, fun j => iI (z j), xt_E)) Nn mL_law rc rs 1327 (lwL i) [] (encZ x' m' out') Po) : xn_W (some (N, fun j => iI (z j), xt_E)) Nn mL_law rc rs 1187 (lwL i) [] (encZ x m out) Po := by
  refine xn_aload_n iL_law_1187 rfl ?_
  refine lwA (jn := 1) iL_law_1188 iL_law_1189 iL_law_1191 iL_law_1192 iL_law_1193 rfl rfl rfl (by omega) hN ?_
  refine lwA (jn := 2) iL_law_1194 iL_law_1195 iL_law_1197 iL_law_1198 iL_law_1199 rfl rfl rfl (by omega) hN ?_
  refine lwX (as := [pI (z (i + 1)), pI (z (i + 2))]) (rest := []) (K := (fun v x' => ∃ q, v = [pI q] ∧ sX3_years (z (i + 1)) (z (i + 2)) m (fun w m' => (∃ q, w = [pI q]) ∧ Post x' m'))) iL_law_1200 vX2_years mX2_years_ok lcl rfl rfl (Nat.le_of_ble_eq_true rfl) hbx hs (fun v x' hK hbx' => ?_)
  obtain ⟨q, rfl, hm⟩ := hK
  refine xn_pop iL_law_1203 rfl ?_
  refine xn_aload_n iL_law_1204 rfl ?_
  refine lwA (jn := 1) iL_law_1205 iL_law_1206 iL_law_1208 iL_law_1209 iL_law_1210 rfl rfl rfl (by omega) hN ?_
  refine lwA (jn := 2) iL_law_1211 iL_law_1212 iL_law_1214 iL_law_1215 iL_law_1216 rfl rfl rfl (by omega) hN ?_
  refine lwM (as := [pI (z (i + 1)), pI (z (i + 2))]) (rest := []) (K := (fun w m' => (∃ q, w = [pI q]) ∧ Post x' m')) iL_law_1217 vX3_years mX3_years_ok mcl rfl rfl (Nat.le_of_ble_eq_true rfl) hbm hm (fun w m' hK hbm' => ?_)
  obtain ⟨⟨q2, rfl⟩, hP⟩ := hK
  refine xn_pop iL_law_1220 rfl ?_
  exact xn_goto iL_law_1221 (kk x' m' out hbx' hbm' hP)
theorem law_c33 {N : Nat} {z : Nat → Int} {Nn rc rs : Nat} {Po : Option (Option Value) → XH → Prop} (i : Nat) (hi : i + 5 ≤ N) (hN : N ≤ 3000) (x : LSt) (m : MS) (out : Nat → Int) (hbx : bdL x) (hbm : bdM m) {Post : LSt → MS → Prop} (hs : sX2_keep (z (i + 1)) x (fun v x' => ∃ q, v = [pI q] ∧ sX3_keep (z (i + 1)) m (fun w m' => (∃ q, w = [pI q]) ∧ Post x' m'))) (kk : ∀ x' m' out', bdL x' → bdM m' → Post x' m' → xn_W (some (N, fun j => iI (z j), xt_E)) Nn mL_law rc rs 1327 (lwL i) [] (encZ x' m' out') Po) : xn_W (some (N, fun j => iI (z j), xt_E)) Nn mL_law rc rs 1224 (lwL i) [] (encZ x m out) Po := by
  refine xn_aload_n iL_law_1224 rfl ?_
  refine lwA (jn := 1) iL_law_1225 iL_law_1226 iL_law_1228 iL_law_1229 iL_law_1230 rfl rfl rfl (by omega) hN ?_
  refine lwX (as := [pI (z (i + 1))]) (rest := []) (K := (fun v x' => ∃ q, v = [pI q] ∧ sX3_keep (z (i + 1)) m (fun w m' => (∃ q, w = [pI q]) ∧ Post x' m'))) iL_law_1231 vX2_keep mX2_keep_ok lcl rfl rfl (Nat.le_of_ble_eq_true rfl) hbx hs (fun v x' hK hbx' => ?_)
  obtain ⟨q, rfl, hm⟩ := hK
  refine xn_pop iL_law_1234 rfl ?_
  refine xn_aload_n iL_law_1235 rfl ?_
  refine lwA (jn := 1) iL_law_1236 iL_law_1237 iL_law_1239 iL_law_1240 iL_law_1241 rfl rfl rfl (by omega) hN ?_
  refine lwM (as := [pI (z (i + 1))]) (rest := []) (K := (fun w m' => (∃ q, w = [pI q]) ∧ Post x' m')) iL_law_1242 vX3_keep mX3_keep_ok mcl rfl rfl (Nat.le_of_ble_eq_true rfl) hbm hm (fun w m' hK hbm' => ?_)
  obtain ⟨⟨q2, rfl⟩, hP⟩ := hK
  refine xn_pop iL_law_1245 rfl ?_
  exact xn_goto iL_law_1246 (kk x' m' out hbx' hbm' hP)
theorem law_c34 {N : Nat} {z : Nat → Int} {Nn rc rs : Nat} {Po : Option (Option Value) → XH → Prop} (i : Nat) (hi : i + 5 ≤ N) (hN : N ≤ 3000) (x : LSt) (m : MS) (out : Nat → Int) (hbx : bdL x) (hbm : bdM m) {Post : LSt → MS → Prop} (hs : sX2_back (z (i + 1)) x (fun v x' => ∃ q, v = [pI q] ∧ sX3_back (z (i + 1)) m (fun w m' => (∃ q, w = [pI q]) ∧ Post x' m'))) (kk : ∀ x' m' out', bdL x' → bdM m' → Post x' m' → xn_W (some (N, fun j => iI (z j), xt_E)) Nn mL_law rc rs 1327 (lwL i) [] (encZ x' m' out') Po) : xn_W (some (N, fun j => iI (z j), xt_E)) Nn mL_law rc rs 1249 (lwL i) [] (encZ x m out) Po := by
  refine xn_aload_n iL_law_1249 rfl ?_
  refine lwA (jn := 1) iL_law_1250 iL_law_1251 iL_law_1253 iL_law_1254 iL_law_1255 rfl rfl rfl (by omega) hN ?_
  refine lwX (as := [pI (z (i + 1))]) (rest := []) (K := (fun v x' => ∃ q, v = [pI q] ∧ sX3_back (z (i + 1)) m (fun w m' => (∃ q, w = [pI q]) ∧ Post x' m'))) iL_law_1256 vX2_back mX2_back_ok lcl rfl rfl (Nat.le_of_ble_eq_true rfl) hbx hs (fun v x' hK hbx' => ?_)
  obtain ⟨q, rfl, hm⟩ := hK
  refine xn_pop iL_law_1259 rfl ?_
  refine xn_aload_n iL_law_1260 rfl ?_
  refine lwA (jn := 1) iL_law_1261 iL_law_1262 iL_law_1264 iL_law_1265 iL_law_1266 rfl rfl rfl (by omega) hN ?_
  refine lwM (as := [pI (z (i + 1))]) (rest := []) (K := (fun w m' => (∃ q, w = [pI q]) ∧ Post x' m')) iL_law_1267 vX3_back mX3_back_ok mcl rfl rfl (Nat.le_of_ble_eq_true rfl) hbm hm (fun w m' hK hbm' => ?_)
  obtain ⟨⟨q2, rfl⟩, hP⟩ := hK
  refine xn_pop iL_law_1270 rfl ?_
  exact xn_goto iL_law_1271 (kk x' m' out hbx' hbm' hP)
theorem law_c35 {N : Nat} {z : Nat → Int} {Nn rc rs : Nat} {Po : Option (Option Value) → XH → Prop} (i : Nat) (hi : i + 5 ≤ N) (hN : N ≤ 3000) (x : LSt) (m : MS) (out : Nat → Int) (hbx : bdL x) (hbm : bdM m) {Post : LSt → MS → Prop} (hs : sX2_count (z (i + 1)) x (fun v x' => ∃ q, v = [pI q] ∧ sX3_count (z (i + 1)) m (fun w m' => (∃ q, w = [pI q]) ∧ Post x' m'))) (kk : ∀ x' m' out', bdL x' → bdM m' → Post x' m' → xn_W (some (N, fun j => iI (z j), xt_E)) Nn mL_law rc rs 1327 (lwL i) [] (encZ x' m' out') Po) : xn_W (some (N, fun j => iI (z j), xt_E)) Nn mL_law rc rs 1274 (lwL i) [] (encZ x m out) Po := by
  refine xn_aload_n iL_law_1274 rfl ?_
  refine lwA (jn := 1) iL_law_1275 iL_law_1276 iL_law_1278 iL_law_1279 iL_law_1280 rfl rfl rfl (by omega) hN ?_
  refine lwX (as := [pI (z (i + 1))]) (rest := []) (K := (fun v x' => ∃ q, v = [pI q] ∧ sX3_count (z (i + 1)) m (fun w m' => (∃ q, w = [pI q]) ∧ Post x' m'))) iL_law_1281 vX2_count mX2_count_ok lcl rfl rfl (Nat.le_of_ble_eq_true rfl) hbx hs (fun v x' hK hbx' => ?_)
  obtain ⟨q, rfl, hm⟩ := hK
  refine xn_pop iL_law_1284 rfl ?_
  refine xn_aload_n iL_law_1285 rfl ?_
  refine lwA (jn := 1) iL_law_1286 iL_law_1287 iL_law_1289 iL_law_1290 iL_law_1291 rfl rfl rfl (by omega) hN ?_
  refine lwM (as := [pI (z (i + 1))]) (rest := []) (K := (fun w m' => (∃ q, w = [pI q]) ∧ Post x' m')) iL_law_1292 vX3_count mX3_count_ok mcl rfl rfl (Nat.le_of_ble_eq_true rfl) hbm hm (fun w m' hK hbm' => ?_)
  obtain ⟨⟨q2, rfl⟩, hP⟩ := hK
  refine xn_pop iL_law_1295 rfl ?_
  exact xn_goto iL_law_1296 (kk x' m' out hbx' hbm' hP)
theorem vL_row : wr_V mL_row [(0, 8, 11, 13)] := ⟨cwL_row, stL_row, xl_iL, by decide +kernel, by decide +kernel, by decide +kernel, rfl, rfl⟩
theorem hL_row (x : LSt) (out : Nat → Int) (hbx : bdL x) (a : Int) (ha : xB a) : wr_C mL_row [(0, 8, 11, 13)] [.ref 0, xi a, .ref 137] (encL x ++ [xL 1 out]) (fun v h' => (∃ q, xb q ∧ ((0 ≤ a ∧ a < x.1 3 ∧ a < 6) ∧ q = fRow x a) ∧ v = some (xi 0) ∧ h' = encL x ++ [xL 1 (xup out 0 q)]) ∨ (¬ (0 ≤ a ∧ a < x.1 3 ∧ a < 6) ∧ v = some (xi 1) ∧ h' = encL x ++ [xL 1 out])) := by
  have g := X2_row_t (K := fun v s' => ((0 ≤ a ∧ a < x.1 3 ∧ a < 6) ∧ v = [pJ (fRow x a)]) ∧ s' = x) (Pt := fun s' => ¬ (0 ≤ a ∧ a < x.1 3 ∧ a < 6) ∧ s' = x) a x ha (fun h => ⟨h, rfl⟩) (fun h => ⟨⟨h, rfl⟩, rfl⟩)
  rw [wX_lt (by decide)] at g
  have hc := xt_con (As := [.ref 0, xi a]) kX2_row yX2_row_y rfl (by decide) (by decide) [some (.ref 0), some (xi a)] rfl (Nat.le_of_ble_eq_true rfl) (g hbx)
  refine wr1_con FL_row vX2_row rfl rfl (by decide) a x out hc (fun v h' q => ?_) (fun h' q => ?_)
  · obtain ⟨v', s', e1, e3, -, -, ⟨hc, rfl⟩, e4⟩ := q
    rw [e4] at e3
    match v, e1 with
    | some w, e1 =>
      have e2 : w = .long (lI (fRow x a)) := (List.cons.inj e1).1
      subst e2
      exact ⟨fRow x a, hbx.2.1 _ _, ⟨hc, rfl⟩, rfl, e3⟩
  · obtain ⟨s', e3, -, hc, e4⟩ := q
    rw [e4] at e3
    exact ⟨hc, e3⟩
theorem law_c36 {N : Nat} {z : Nat → Int} {Nn rc rs : Nat} {Po : Option (Option Value) → XH → Prop} (i : Nat) (hi : i + 5 ≤ N) (hN : N ≤ 3000) (x : LSt) (m : MS) (out : Nat → Int) (hbx : bdL x) (hbm : bdM m) {Post : LSt → MS → Prop} (hz : ∀ j, xB (z (i + j))) (hs : (0 ≤ z (i + 1) ∧ z (i + 1) < x.1 3 ∧ z (i + 1) < 6 → sX3_row (z (i + 1)) m (fun w m' => (∃ q, w = [pJ q]) ∧ Post x m')) ∧ (¬ (0 ≤ z (i + 1) ∧ z (i + 1) < x.1 3 ∧ z (i + 1) < 6) → sX3_row (z (i + 1)) m (fun w m' => (∃ q, w = [pJ q]) ∧ Post x m'))) (kk : ∀ x' m' out', bdL x' → bdM m' → Post x' m' → xn_W (some (N, fun j => iI (z j), xt_E)) Nn mL_law rc rs 1327 (lwL i) [] (encZ x' m' out') Po) : xn_W (some (N, fun j => iI (z j), xt_E)) Nn mL_law (rc + 1) (rs + 6) 1299 (lwL i) [] (encZ x m out) Po := by
  refine xn_aload_n iL_law_1299 rfl ?_
  refine lwA (jn := 1) iL_law_1300 iL_law_1301 iL_law_1303 iL_law_1304 iL_law_1305 rfl rfl rfl (by omega) hN ?_
  refine xn_aload_n iL_law_1306 rfl ?_
  refine lwW (As := [.ref 0, xi (z (i + 1)), .ref 137]) (rest := []) iL_law_1307 vL_row rfl (Nat.le_of_ble_eq_true rfl) (hL_row x out hbx (z (i + 1)) (hz 1)) (fun q hq hOk => ?_) (fun hbad => ?_)
  · refine xn_istore iL_law_1310 rfl (by decide) ?_
    refine xn_aload_n iL_law_1312 rfl ?_
    refine lwA (jn := 1) iL_law_1313 iL_law_1314 iL_law_1316 iL_law_1317 iL_law_1318 rfl rfl rfl (by omega) hN ?_
    refine lwM (as := [pI (z (i + 1))]) (rest := []) (K := (fun w m' => (∃ q, w = [pJ q]) ∧ Post x m')) iL_law_1319 vX3_row mX3_row_ok mcl rfl rfl (Nat.le_of_ble_eq_true rfl) hbm (hs.1 hOk.1) (fun w m' hK hbm' => ?_)
    obtain ⟨⟨q2, rfl⟩, hP⟩ := hK
    refine xn_lstore iL_law_1322 rfl (by decide) ?_
    refine xn_goto iL_law_1324 ?_
    exact xn_weak lwk (kk x m' _ hbx hbm' hP)
  · refine xn_istore iL_law_1310 rfl (by decide) ?_
    refine xn_aload_n iL_law_1312 rfl ?_
    refine lwA (jn := 1) iL_law_1313 iL_law_1314 iL_law_1316 iL_law_1317 iL_law_1318 rfl rfl rfl (by omega) hN ?_
    refine lwM (as := [pI (z (i + 1))]) (rest := []) (K := (fun w m' => (∃ q, w = [pJ q]) ∧ Post x m')) iL_law_1319 vX3_row mX3_row_ok mcl rfl rfl (Nat.le_of_ble_eq_true rfl) hbm (hs.2 hbad) (fun w m' hK hbm' => ?_)
    obtain ⟨⟨q2, rfl⟩, hP⟩ := hK
    refine xn_lstore iL_law_1322 rfl (by decide) ?_
    refine xn_goto iL_law_1324 ?_
    exact xn_weak lwk (kk x m' _ hbx hbm' hP)
