/-! ===== the law, case by case (by program) ===== -/
theorem lwk {i : Nat} {a b c : Option Value} : ∀ j v, xl_n (lwL i) j = some (some v) → xl_n [some (.float 99), some (.ref 0), some (.ref 138), some (.ref 137), some (xi i), a, b, c] j = some (some v)
  | 0, _, h => h
  | 1, _, h => h
  | 2, _, h => h
  | 3, _, h => h
  | 4, _, h => h
  | 5, _, h => by cases h
  | 6, _, h => by cases h
  | 7, _, h => by cases h
  | j + 8, _, h => by cases h
theorem atZ (x : LSt) (m : MS) (out : Nat → Int) : xl_n (encZ x m out) 137 = some (xL 1 out) := by
  have := xl_n_mid (encL x) (xL 1 out) (encM m)
  rw [lenL137] at this
  exact this
theorem lg_cmp0 (a : Int64) : lg_cmp a a = 0 := by
  unfold lg_cmp
  simp
theorem wI_xb (a : Int) : xb (wI a) := xb_of _
theorem wI_iI (a : Int) : iI (wI a) = iI a := iI_of _
theorem wI_long (a : Int) : (iI a).toInt64 = lI (wI a) := by rw [← wI_iI a, iI_long (wI_xb a)]
theorem xup_0 (g : Nat → Int) (q : Int) : xup g 0 q 0 = q := if_pos rfl
theorem law_c0 {N : Nat} {z : Nat → Int} {Nn rc rs : Nat} {Po : Option (Option Value) → XH → Prop} (i : Nat) (hi : i + 5 ≤ N) (hN : N ≤ 3000) (x : LSt) (m : MS) (out : Nat → Int) (hbx : bdL x) (hbm : bdM m) {Post : LSt → MS → Prop} (hs : sX2_sign (z (i + 1)) x (fun v x' => ∃ q, v = [pI q] ∧ sX3_sign (z (i + 1)) m (fun w m' => w = [pI q] ∧ Post x' m'))) (kk : ∀ x' m' out', bdL x' → bdM m' → Post x' m' → xn_W (some (N, fun j => iI (z j), xt_E)) Nn mL_law rc rs 1466 (lwL i) [] (encZ x' m' out') Po) : xn_W (some (N, fun j => iI (z j), xt_E)) Nn mL_law rc rs 200 (lwL i) [] (encZ x m out) Po := by
  refine xn_aload_n iL_law_200 rfl ?_
  refine lwA (jn := 1) iL_law_201 iL_law_202 iL_law_204 iL_law_205 iL_law_206 rfl rfl rfl (by omega) hN ?_
  refine lwX (as := [pI (z (i + 1))]) (rest := []) (K := (fun v x' => ∃ q, v = [pI q] ∧ sX3_sign (z (i + 1)) m (fun w m' => w = [pI q] ∧ Post x' m'))) iL_law_207 vX2_sign mX2_sign_ok lcl rfl rfl (Nat.le_of_ble_eq_true rfl) hbx hs (fun v x' hK hbx' => ?_)
  obtain ⟨q, rfl, hm⟩ := hK
  refine xn_aload_n iL_law_210 rfl ?_
  refine lwA (jn := 1) iL_law_211 iL_law_212 iL_law_214 iL_law_215 iL_law_216 rfl rfl rfl (by omega) hN ?_
  refine lwM (as := [pI (z (i + 1))]) (rest := [xi q]) (K := (fun w m' => w = [pI q] ∧ Post x' m')) iL_law_217 vX3_sign mX3_sign_ok mcl rfl rfl (Nat.le_of_ble_eq_true rfl) hbm hm (fun w m' hK hbm' => ?_)
  obtain ⟨rfl, hP⟩ := hK
  exact xn_icmp_eq iL_law_220 (fun _ => kk x' m' out hbx' hbm' hP) (fun h => absurd rfl h)
theorem law_c1 {N : Nat} {z : Nat → Int} {Nn rc rs : Nat} {Po : Option (Option Value) → XH → Prop} (i : Nat) (hi : i + 5 ≤ N) (hN : N ≤ 3000) (x : LSt) (m : MS) (out : Nat → Int) (hbx : bdL x) (hbm : bdM m) {Post : LSt → MS → Prop} (hs : sX2_end (z (i + 1)) x (fun v x' => ∃ q, v = [pI q] ∧ sX3_end (z (i + 1)) m (fun w m' => w = [pI q] ∧ Post x' m'))) (kk : ∀ x' m' out', bdL x' → bdM m' → Post x' m' → xn_W (some (N, fun j => iI (z j), xt_E)) Nn mL_law rc rs 1466 (lwL i) [] (encZ x' m' out') Po) : xn_W (some (N, fun j => iI (z j), xt_E)) Nn mL_law rc rs 225 (lwL i) [] (encZ x m out) Po := by
  refine xn_aload_n iL_law_225 rfl ?_
  refine lwA (jn := 1) iL_law_226 iL_law_227 iL_law_229 iL_law_230 iL_law_231 rfl rfl rfl (by omega) hN ?_
  refine lwX (as := [pI (z (i + 1))]) (rest := []) (K := (fun v x' => ∃ q, v = [pI q] ∧ sX3_end (z (i + 1)) m (fun w m' => w = [pI q] ∧ Post x' m'))) iL_law_232 vX2_end mX2_end_ok lcl rfl rfl (Nat.le_of_ble_eq_true rfl) hbx hs (fun v x' hK hbx' => ?_)
  obtain ⟨q, rfl, hm⟩ := hK
  refine xn_aload_n iL_law_235 rfl ?_
  refine lwA (jn := 1) iL_law_236 iL_law_237 iL_law_239 iL_law_240 iL_law_241 rfl rfl rfl (by omega) hN ?_
  refine lwM (as := [pI (z (i + 1))]) (rest := [xi q]) (K := (fun w m' => w = [pI q] ∧ Post x' m')) iL_law_242 vX3_end mX3_end_ok mcl rfl rfl (Nat.le_of_ble_eq_true rfl) hbm hm (fun w m' hK hbm' => ?_)
  obtain ⟨rfl, hP⟩ := hK
  exact xn_icmp_eq iL_law_245 (fun _ => kk x' m' out hbx' hbm' hP) (fun h => absurd rfl h)
theorem law_c2 {N : Nat} {z : Nat → Int} {Nn rc rs : Nat} {Po : Option (Option Value) → XH → Prop} (i : Nat) (hi : i + 5 ≤ N) (hN : N ≤ 3000) (x : LSt) (m : MS) (out : Nat → Int) (hbx : bdL x) (hbm : bdM m) {Post : LSt → MS → Prop} (hs : sX2_start (z (i + 1)) (z (i + 2)) (z (i + 3)) (z (i + 4)) x (fun v x' => ∃ q, v = [pI q] ∧ sX3_start (z (i + 1)) (z (i + 2)) (z (i + 3)) (z (i + 4)) m (fun w m' => w = [pI q] ∧ Post x' m'))) (kk : ∀ x' m' out', bdL x' → bdM m' → Post x' m' → xn_W (some (N, fun j => iI (z j), xt_E)) Nn mL_law rc rs 1466 (lwL i) [] (encZ x' m' out') Po) : xn_W (some (N, fun j => iI (z j), xt_E)) Nn mL_law rc rs 250 (lwL i) [] (encZ x m out) Po := by
  refine xn_aload_n iL_law_250 rfl ?_
  refine lwA (jn := 1) iL_law_251 iL_law_252 iL_law_254 iL_law_255 iL_law_256 rfl rfl rfl (by omega) hN ?_
  refine lwA (jn := 2) iL_law_257 iL_law_258 iL_law_260 iL_law_261 iL_law_262 rfl rfl rfl (by omega) hN ?_
  refine lwA (jn := 3) iL_law_263 iL_law_264 iL_law_266 iL_law_267 iL_law_268 rfl rfl rfl (by omega) hN ?_
  refine lwA (jn := 4) iL_law_269 iL_law_270 iL_law_272 iL_law_273 iL_law_274 rfl rfl rfl (by omega) hN ?_
  refine lwX (as := [pI (z (i + 1)), pI (z (i + 2)), pI (z (i + 3)), pI (z (i + 4))]) (rest := []) (K := (fun v x' => ∃ q, v = [pI q] ∧ sX3_start (z (i + 1)) (z (i + 2)) (z (i + 3)) (z (i + 4)) m (fun w m' => w = [pI q] ∧ Post x' m'))) iL_law_275 vX2_start mX2_start_ok lcl rfl rfl (Nat.le_of_ble_eq_true rfl) hbx hs (fun v x' hK hbx' => ?_)
  obtain ⟨q, rfl, hm⟩ := hK
  refine xn_aload_n iL_law_278 rfl ?_
  refine lwA (jn := 1) iL_law_279 iL_law_280 iL_law_282 iL_law_283 iL_law_284 rfl rfl rfl (by omega) hN ?_
  refine lwA (jn := 2) iL_law_285 iL_law_286 iL_law_288 iL_law_289 iL_law_290 rfl rfl rfl (by omega) hN ?_
  refine lwA (jn := 3) iL_law_291 iL_law_292 iL_law_294 iL_law_295 iL_law_296 rfl rfl rfl (by omega) hN ?_
  refine lwA (jn := 4) iL_law_297 iL_law_298 iL_law_300 iL_law_301 iL_law_302 rfl rfl rfl (by omega) hN ?_
  refine lwM (as := [pI (z (i + 1)), pI (z (i + 2)), pI (z (i + 3)), pI (z (i + 4))]) (rest := [xi q]) (K := (fun w m' => w = [pI q] ∧ Post x' m')) iL_law_303 vX3_start mX3_start_ok mcl rfl rfl (Nat.le_of_ble_eq_true rfl) hbm hm (fun w m' hK hbm' => ?_)
  obtain ⟨rfl, hP⟩ := hK
  exact xn_icmp_eq iL_law_306 (fun _ => kk x' m' out hbx' hbm' hP) (fun h => absurd rfl h)
theorem law_c3 {N : Nat} {z : Nat → Int} {Nn rc rs : Nat} {Po : Option (Option Value) → XH → Prop} (i : Nat) (hi : i + 5 ≤ N) (hN : N ≤ 3000) (x : LSt) (m : MS) (out : Nat → Int) (hbx : bdL x) (hbm : bdM m) {Post : LSt → MS → Prop} (hs : sX2_delays (z (i + 1)) (z (i + 2)) x (fun v x' => ∃ q, v = [pI q] ∧ sX3_delays (z (i + 1)) (z (i + 2)) m (fun w m' => w = [pI q] ∧ Post x' m'))) (kk : ∀ x' m' out', bdL x' → bdM m' → Post x' m' → xn_W (some (N, fun j => iI (z j), xt_E)) Nn mL_law rc rs 1466 (lwL i) [] (encZ x' m' out') Po) : xn_W (some (N, fun j => iI (z j), xt_E)) Nn mL_law rc rs 311 (lwL i) [] (encZ x m out) Po := by
  refine xn_aload_n iL_law_311 rfl ?_
  refine lwA (jn := 1) iL_law_312 iL_law_313 iL_law_315 iL_law_316 iL_law_317 rfl rfl rfl (by omega) hN ?_
  refine lwA (jn := 2) iL_law_318 iL_law_319 iL_law_321 iL_law_322 iL_law_323 rfl rfl rfl (by omega) hN ?_
  refine lwX (as := [pI (z (i + 1)), pI (z (i + 2))]) (rest := []) (K := (fun v x' => ∃ q, v = [pI q] ∧ sX3_delays (z (i + 1)) (z (i + 2)) m (fun w m' => w = [pI q] ∧ Post x' m'))) iL_law_324 vX2_delays mX2_delays_ok lcl rfl rfl (Nat.le_of_ble_eq_true rfl) hbx hs (fun v x' hK hbx' => ?_)
  obtain ⟨q, rfl, hm⟩ := hK
  refine xn_aload_n iL_law_327 rfl ?_
  refine lwA (jn := 1) iL_law_328 iL_law_329 iL_law_331 iL_law_332 iL_law_333 rfl rfl rfl (by omega) hN ?_
  refine lwA (jn := 2) iL_law_334 iL_law_335 iL_law_337 iL_law_338 iL_law_339 rfl rfl rfl (by omega) hN ?_
  refine lwM (as := [pI (z (i + 1)), pI (z (i + 2))]) (rest := [xi q]) (K := (fun w m' => w = [pI q] ∧ Post x' m')) iL_law_340 vX3_delays mX3_delays_ok mcl rfl rfl (Nat.le_of_ble_eq_true rfl) hbm hm (fun w m' hK hbm' => ?_)
  obtain ⟨rfl, hP⟩ := hK
  exact xn_icmp_eq iL_law_343 (fun _ => kk x' m' out hbx' hbm' hP) (fun h => absurd rfl h)
theorem law_c4 {N : Nat} {z : Nat → Int} {Nn rc rs : Nat} {Po : Option (Option Value) → XH → Prop} (i : Nat) (hi : i + 5 ≤ N) (hN : N ≤ 3000) (x : LSt) (m : MS) (out : Nat → Int) (hbx : bdL x) (hbm : bdM m) {Post : LSt → MS → Prop} (hs : sX2_event (z (i + 1)) (z (i + 2)) (z (i + 3)) (z (i + 4)) x (fun v x' => ∃ q, v = [pI q] ∧ sX3_event (z (i + 1)) (z (i + 2)) (z (i + 3)) (z (i + 4)) m (fun w m' => w = [pI q] ∧ Post x' m'))) (kk : ∀ x' m' out', bdL x' → bdM m' → Post x' m' → xn_W (some (N, fun j => iI (z j), xt_E)) Nn mL_law rc rs 1466 (lwL i) [] (encZ x' m' out') Po) : xn_W (some (N, fun j => iI (z j), xt_E)) Nn mL_law rc rs 348 (lwL i) [] (encZ x m out) Po := by
  refine xn_aload_n iL_law_348 rfl ?_
  refine lwA (jn := 1) iL_law_349 iL_law_350 iL_law_352 iL_law_353 iL_law_354 rfl rfl rfl (by omega) hN ?_
  refine lwA (jn := 2) iL_law_355 iL_law_356 iL_law_358 iL_law_359 iL_law_360 rfl rfl rfl (by omega) hN ?_
  refine lwA (jn := 3) iL_law_361 iL_law_362 iL_law_364 iL_law_365 iL_law_366 rfl rfl rfl (by omega) hN ?_
  refine lwA (jn := 4) iL_law_367 iL_law_368 iL_law_370 iL_law_371 iL_law_372 rfl rfl rfl (by omega) hN ?_
  refine lwX (as := [pI (z (i + 1)), pI (z (i + 2)), pI (z (i + 3)), pI (z (i + 4))]) (rest := []) (K := (fun v x' => ∃ q, v = [pI q] ∧ sX3_event (z (i + 1)) (z (i + 2)) (z (i + 3)) (z (i + 4)) m (fun w m' => w = [pI q] ∧ Post x' m'))) iL_law_373 vX2_event mX2_event_ok lcl rfl rfl (Nat.le_of_ble_eq_true rfl) hbx hs (fun v x' hK hbx' => ?_)
  obtain ⟨q, rfl, hm⟩ := hK
  refine xn_aload_n iL_law_376 rfl ?_
  refine lwA (jn := 1) iL_law_377 iL_law_378 iL_law_380 iL_law_381 iL_law_382 rfl rfl rfl (by omega) hN ?_
  refine lwA (jn := 2) iL_law_383 iL_law_384 iL_law_386 iL_law_387 iL_law_388 rfl rfl rfl (by omega) hN ?_
  refine lwA (jn := 3) iL_law_389 iL_law_390 iL_law_392 iL_law_393 iL_law_394 rfl rfl rfl (by omega) hN ?_
  refine lwA (jn := 4) iL_law_395 iL_law_396 iL_law_398 iL_law_399 iL_law_400 rfl rfl rfl (by omega) hN ?_
  refine lwM (as := [pI (z (i + 1)), pI (z (i + 2)), pI (z (i + 3)), pI (z (i + 4))]) (rest := [xi q]) (K := (fun w m' => w = [pI q] ∧ Post x' m')) iL_law_401 vX3_event mX3_event_ok mcl rfl rfl (Nat.le_of_ble_eq_true rfl) hbm hm (fun w m' hK hbm' => ?_)
  obtain ⟨rfl, hP⟩ := hK
  exact xn_icmp_eq iL_law_404 (fun _ => kk x' m' out hbx' hbm' hP) (fun h => absurd rfl h)
theorem law_c5 {N : Nat} {z : Nat → Int} {Nn rc rs : Nat} {Po : Option (Option Value) → XH → Prop} (i : Nat) (hi : i + 5 ≤ N) (hN : N ≤ 3000) (x : LSt) (m : MS) (out : Nat → Int) (hbx : bdL x) (hbm : bdM m) {Post : LSt → MS → Prop} (hs : sX2_events0 x (fun v x' => ∃ q, v = [pI q] ∧ sX3_events0 m (fun w m' => w = [pI q] ∧ Post x' m'))) (kk : ∀ x' m' out', bdL x' → bdM m' → Post x' m' → xn_W (some (N, fun j => iI (z j), xt_E)) Nn mL_law rc rs 1466 (lwL i) [] (encZ x' m' out') Po) : xn_W (some (N, fun j => iI (z j), xt_E)) Nn mL_law rc rs 409 (lwL i) [] (encZ x m out) Po := by
  refine xn_aload_n iL_law_409 rfl ?_
  refine lwX (as := []) (rest := []) (K := (fun v x' => ∃ q, v = [pI q] ∧ sX3_events0  m (fun w m' => w = [pI q] ∧ Post x' m'))) iL_law_410 vX2_events mX2_events_ok0 lcl rfl rfl (Nat.le_of_ble_eq_true rfl) hbx hs (fun v x' hK hbx' => ?_)
  obtain ⟨q, rfl, hm⟩ := hK
  refine xn_aload_n iL_law_413 rfl ?_
  refine lwM (as := []) (rest := [xi q]) (K := (fun w m' => w = [pI q] ∧ Post x' m')) iL_law_414 vX3_events mX3_events_ok0 mcl rfl rfl (Nat.le_of_ble_eq_true rfl) hbm hm (fun w m' hK hbm' => ?_)
  obtain ⟨rfl, hP⟩ := hK
  exact xn_icmp_eq iL_law_417 (fun _ => kk x' m' out hbx' hbm' hP) (fun h => absurd rfl h)
theorem law_c6 {N : Nat} {z : Nat → Int} {Nn rc rs : Nat} {Po : Option (Option Value) → XH → Prop} (i : Nat) (hi : i + 5 ≤ N) (hN : N ≤ 3000) (x : LSt) (m : MS) (out : Nat → Int) (hbx : bdL x) (hbm : bdM m) {Post : LSt → MS → Prop} (hs : sX2_marks (z (i + 1)) (z (i + 2)) x (fun v x' => ∃ q, v = [pI q] ∧ sX3_marks (z (i + 1)) (z (i + 2)) m (fun w m' => w = [pI q] ∧ Post x' m'))) (kk : ∀ x' m' out', bdL x' → bdM m' → Post x' m' → xn_W (some (N, fun j => iI (z j), xt_E)) Nn mL_law rc rs 1466 (lwL i) [] (encZ x' m' out') Po) : xn_W (some (N, fun j => iI (z j), xt_E)) Nn mL_law rc rs 422 (lwL i) [] (encZ x m out) Po := by
  refine xn_aload_n iL_law_422 rfl ?_
  refine lwA (jn := 1) iL_law_423 iL_law_424 iL_law_426 iL_law_427 iL_law_428 rfl rfl rfl (by omega) hN ?_
  refine lwA (jn := 2) iL_law_429 iL_law_430 iL_law_432 iL_law_433 iL_law_434 rfl rfl rfl (by omega) hN ?_
  refine lwX (as := [pI (z (i + 1)), pI (z (i + 2))]) (rest := []) (K := (fun v x' => ∃ q, v = [pI q] ∧ sX3_marks (z (i + 1)) (z (i + 2)) m (fun w m' => w = [pI q] ∧ Post x' m'))) iL_law_435 vX2_marks mX2_marks_ok lcl rfl rfl (Nat.le_of_ble_eq_true rfl) hbx hs (fun v x' hK hbx' => ?_)
  obtain ⟨q, rfl, hm⟩ := hK
  refine xn_aload_n iL_law_438 rfl ?_
  refine lwA (jn := 1) iL_law_439 iL_law_440 iL_law_442 iL_law_443 iL_law_444 rfl rfl rfl (by omega) hN ?_
  refine lwA (jn := 2) iL_law_445 iL_law_446 iL_law_448 iL_law_449 iL_law_450 rfl rfl rfl (by omega) hN ?_
  refine lwM (as := [pI (z (i + 1)), pI (z (i + 2))]) (rest := [xi q]) (K := (fun w m' => w = [pI q] ∧ Post x' m')) iL_law_451 vX3_marks mX3_marks_ok mcl rfl rfl (Nat.le_of_ble_eq_true rfl) hbm hm (fun w m' hK hbm' => ?_)
  obtain ⟨rfl, hP⟩ := hK
  exact xn_icmp_eq iL_law_454 (fun _ => kk x' m' out hbx' hbm' hP) (fun h => absurd rfl h)
theorem law_c7 {N : Nat} {z : Nat → Int} {Nn rc rs : Nat} {Po : Option (Option Value) → XH → Prop} (i : Nat) (hi : i + 5 ≤ N) (hN : N ≤ 3000) (x : LSt) (m : MS) (out : Nat → Int) (hbx : bdL x) (hbm : bdM m) {Post : LSt → MS → Prop} (hs : sX2_idles (z (i + 1)) x (fun v x' => ∃ q, v = [pI q] ∧ sX3_idles (z (i + 1)) m (fun w m' => w = [pI q] ∧ Post x' m'))) (kk : ∀ x' m' out', bdL x' → bdM m' → Post x' m' → xn_W (some (N, fun j => iI (z j), xt_E)) Nn mL_law rc rs 1466 (lwL i) [] (encZ x' m' out') Po) : xn_W (some (N, fun j => iI (z j), xt_E)) Nn mL_law rc rs 459 (lwL i) [] (encZ x m out) Po := by
  refine xn_aload_n iL_law_459 rfl ?_
  refine lwA (jn := 1) iL_law_460 iL_law_461 iL_law_463 iL_law_464 iL_law_465 rfl rfl rfl (by omega) hN ?_
  refine lwX (as := [pI (z (i + 1))]) (rest := []) (K := (fun v x' => ∃ q, v = [pI q] ∧ sX3_idles (z (i + 1)) m (fun w m' => w = [pI q] ∧ Post x' m'))) iL_law_466 vX2_idles mX2_idles_ok lcl rfl rfl (Nat.le_of_ble_eq_true rfl) hbx hs (fun v x' hK hbx' => ?_)
  obtain ⟨q, rfl, hm⟩ := hK
  refine xn_aload_n iL_law_469 rfl ?_
  refine lwA (jn := 1) iL_law_470 iL_law_471 iL_law_473 iL_law_474 iL_law_475 rfl rfl rfl (by omega) hN ?_
  refine lwM (as := [pI (z (i + 1))]) (rest := [xi q]) (K := (fun w m' => w = [pI q] ∧ Post x' m')) iL_law_476 vX3_idles mX3_idles_ok mcl rfl rfl (Nat.le_of_ble_eq_true rfl) hbm hm (fun w m' hK hbm' => ?_)
  obtain ⟨rfl, hP⟩ := hK
  exact xn_icmp_eq iL_law_479 (fun _ => kk x' m' out hbx' hbm' hP) (fun h => absurd rfl h)
theorem vL_source : wr_V mL_source [(0, 10, 13, 13)] := ⟨cwL_source, stL_source, xl_iL, by decide +kernel, by decide +kernel, by decide +kernel, rfl, rfl⟩
theorem hL_source (x : LSt) (out : Nat → Int) (hbx : bdL x) (a b : Int) (ha : xB a) (hb : xB b) : wr_C mL_source [(0, 10, 13, 13)] [.ref 0, xi a, xi b, .ref 137] (encL x ++ [xL 1 out]) (fun v h' => (∃ q, xb q ∧ ((lSrc x (a) ∧ 0 ≤ b ∧ b ≤ 5) ∧ q = wI (fSource x a b)) ∧ v = some (xi 0) ∧ h' = encL x ++ [xL 1 (xup out 0 q)]) ∨ (¬ (lSrc x (a) ∧ 0 ≤ b ∧ b ≤ 5) ∧ v = some (xi 1) ∧ h' = encL x ++ [xL 1 out])) := by
  have g := X2_source_t (K := fun v s' => ((lSrc x (a) ∧ 0 ≤ b ∧ b ≤ 5) ∧ v = [pI (fSource x a b)]) ∧ s' = x) (Pt := fun s' => ¬ (lSrc x (a) ∧ 0 ≤ b ∧ b ≤ 5) ∧ s' = x) a b x ha hb (fun h => ⟨h, rfl⟩) (fun h => ⟨⟨h, rfl⟩, rfl⟩)
  rw [wX_lt (by decide)] at g
  have hc := xt_con (As := [.ref 0, xi a, xi b]) kX2_source yX2_source_y rfl (by decide) (by decide) [some (.ref 0), some (xi a), some (xi b), none] rfl (Nat.le_of_ble_eq_true rfl) (g hbx)
  refine wr2_con FL_source vX2_source rfl rfl (by decide) a b x out hc (fun v h' q => ?_) (fun h' q => ?_)
  · obtain ⟨v', s', e1, e3, -, -, ⟨hc, rfl⟩, e4⟩ := q
    rw [e4] at e3
    match v, e1 with
    | some w, e1 =>
      have e2 : w = .int (iI (fSource x a b)) := (List.cons.inj e1).1
      subst e2
      exact ⟨wI (fSource x a b), wI_xb _, ⟨hc, rfl⟩, by rw [show xi (wI (fSource x a b)) = Value.int (iI (wI (fSource x a b))) from rfl, wI_iI], e3⟩
  · obtain ⟨s', e3, -, hc, e4⟩ := q
    rw [e4] at e3
    exact ⟨hc, e3⟩
theorem law_c8 {N : Nat} {z : Nat → Int} {Nn rc rs : Nat} {Po : Option (Option Value) → XH → Prop} (i : Nat) (hi : i + 5 ≤ N) (hN : N ≤ 3000) (x : LSt) (m : MS) (out : Nat → Int) (hbx : bdL x) (hbm : bdM m) {Post : LSt → MS → Prop} (hz : ∀ j, xB (z (i + j))) (hs : (lSrc x (z (i + 1)) ∧ 0 ≤ z (i + 2) ∧ z (i + 2) ≤ 5 → sX3_source (z (i + 1)) (z (i + 2)) m (fun w m' => w = [pI (fSource x (z (i + 1)) (z (i + 2)))] ∧ m'.1 0 = 0 ∧ Post x m')) ∧ (¬ (lSrc x (z (i + 1)) ∧ 0 ≤ z (i + 2) ∧ z (i + 2) ≤ 5) → sX3_source (z (i + 1)) (z (i + 2)) m (fun w m' => (∃ q, w = [pI q]) ∧ m'.1 0 = 1 ∧ Post x m'))) (kk : ∀ x' m' out', bdL x' → bdM m' → Post x' m' → xn_W (some (N, fun j => iI (z j), xt_E)) Nn mL_law rc rs 1466 (lwL i) [] (encZ x' m' out') Po) : xn_W (some (N, fun j => iI (z j), xt_E)) Nn mL_law (rc + 1) (rs + 6) 484 (lwL i) [] (encZ x m out) Po := by
  refine xn_aload_n iL_law_484 rfl ?_
  refine lwA (jn := 1) iL_law_485 iL_law_486 iL_law_488 iL_law_489 iL_law_490 rfl rfl rfl (by omega) hN ?_
  refine lwA (jn := 2) iL_law_491 iL_law_492 iL_law_494 iL_law_495 iL_law_496 rfl rfl rfl (by omega) hN ?_
  refine xn_aload_n iL_law_497 rfl ?_
  refine lwW (As := [.ref 0, xi (z (i + 1)), xi (z (i + 2)), .ref 137]) (rest := []) iL_law_498 vL_source rfl (Nat.le_of_ble_eq_true rfl) (hL_source x out hbx (z (i + 1)) (z (i + 2)) (hz 1) (hz 2)) (fun q hq hOk => ?_) (fun hbad => ?_)
  · refine xn_istore iL_law_501 rfl (by decide) ?_
    refine xn_aload_n iL_law_503 rfl ?_
    refine lwA (jn := 1) iL_law_504 iL_law_505 iL_law_507 iL_law_508 iL_law_509 rfl rfl rfl (by omega) hN ?_
    refine lwA (jn := 2) iL_law_510 iL_law_511 iL_law_513 iL_law_514 iL_law_515 rfl rfl rfl (by omega) hN ?_
    refine lwM (as := [pI (z (i + 1)), pI (z (i + 2))]) (rest := []) (K := (fun w m' => w = [pI (fSource x (z (i + 1)) (z (i + 2)))] ∧ m'.1 0 = 0 ∧ Post x m')) iL_law_516 vX3_source mX3_source_ok mcl rfl rfl (Nat.le_of_ble_eq_true rfl) hbm (hs.1 hOk.1) (fun w m' hK hbm' => ?_)
    obtain ⟨rfl, h0, hP⟩ := hK
    refine xn_istore iL_law_519 rfl (by decide) ?_
    refine xn_aload_n iL_law_521 rfl ?_
    refine lwM (as := []) (rest := []) (K := fun t m'' => t = [pI (m'.1 0)] ∧ m'' = m') iL_law_522 vX3_thrown mX3_thrown_ok mcl rfl rfl (Nat.le_of_ble_eq_true rfl) hbm' (fun _ => ⟨rfl, rfl⟩) (fun t m'' hK hbm'' => ?_)
    obtain ⟨rfl, e0⟩ := hK
    rw [e0]
    refine xn_iload iL_law_525 rfl ?_
    rw [h0]
    refine xn_icmp_eq iL_law_527 (fun _ => ?_) (fun h => absurd rfl h)
    refine xn_iload iL_law_532 rfl ?_
    refine xn_if_ne iL_law_534 (fun h => absurd rfl h) (fun _ => ?_)
    refine xn_aload_n iL_law_537 rfl ?_
    refine xn_iconst 0 iL_law_538 rfl ?_
    refine xn_lald (i := 0) iL_law_539 (atZ _ _ _) (iI_in (z := 0) ⟨by decide, by decide⟩ (by decide) (by decide)) ?_
    refine xn_iload iL_law_540 rfl ?_
    refine xn_i2l iL_law_542 ?_
    refine xn_lcmp iL_law_543 ?_
    have e9 : lg_cmp (lI (xup out 0 q 0)) ((iI (fSource x (z (i + 1)) (z (i + 2)))).toInt64) = 0 := by rw [xup_0, hOk.2, wI_long]; exact lg_cmp0 _
    refine xn_if_eq iL_law_544 (fun _ => ?_) (fun h => absurd e9 h)
    refine xn_goto iL_law_549 ?_
    exact xn_weak lwk (kk x m' _ hbx hbm' hP)
  · refine xn_istore iL_law_501 rfl (by decide) ?_
    refine xn_aload_n iL_law_503 rfl ?_
    refine lwA (jn := 1) iL_law_504 iL_law_505 iL_law_507 iL_law_508 iL_law_509 rfl rfl rfl (by omega) hN ?_
    refine lwA (jn := 2) iL_law_510 iL_law_511 iL_law_513 iL_law_514 iL_law_515 rfl rfl rfl (by omega) hN ?_
    refine lwM (as := [pI (z (i + 1)), pI (z (i + 2))]) (rest := []) (K := (fun w m' => (∃ q, w = [pI q]) ∧ m'.1 0 = 1 ∧ Post x m')) iL_law_516 vX3_source mX3_source_ok mcl rfl rfl (Nat.le_of_ble_eq_true rfl) hbm (hs.2 hbad) (fun w m' hK hbm' => ?_)
    obtain ⟨⟨q2, rfl⟩, h0, hP⟩ := hK
    refine xn_istore iL_law_519 rfl (by decide) ?_
    refine xn_aload_n iL_law_521 rfl ?_
    refine lwM (as := []) (rest := []) (K := fun t m'' => t = [pI (m'.1 0)] ∧ m'' = m') iL_law_522 vX3_thrown mX3_thrown_ok mcl rfl rfl (Nat.le_of_ble_eq_true rfl) hbm' (fun _ => ⟨rfl, rfl⟩) (fun t m'' hK hbm'' => ?_)
    obtain ⟨rfl, e0⟩ := hK
    rw [e0]
    refine xn_iload iL_law_525 rfl ?_
    rw [h0]
    refine xn_icmp_eq iL_law_527 (fun _ => ?_) (fun h => absurd rfl h)
    refine xn_iload iL_law_532 rfl ?_
    exact xn_if_ne iL_law_534 (fun _ => xn_goto iL_law_549 (xn_weak lwk (kk x m' _ hbx hbm' hP))) (fun h => absurd h (by decide))
theorem vL_session : wr_V mL_session [(0, 10, 13, 13)] := ⟨cwL_session, stL_session, xl_iL, by decide +kernel, by decide +kernel, by decide +kernel, rfl, rfl⟩
theorem hL_session (x : LSt) (out : Nat → Int) (hbx : bdL x) (a b : Int) (ha : xB a) (hb : xB b) : wr_C mL_session [(0, 10, 13, 13)] [.ref 0, xi a, xi b, .ref 137] (encL x ++ [xL 1 out]) (fun v h' => (∃ q, xb q ∧ (((0 ≤ a ∧ a < wZ (x.2.2 0) 1) ∧ 0 ≤ b ∧ b ≤ 7) ∧ q = wI (fSession x a b)) ∧ v = some (xi 0) ∧ h' = encL x ++ [xL 1 (xup out 0 q)]) ∨ (¬ ((0 ≤ a ∧ a < wZ (x.2.2 0) 1) ∧ 0 ≤ b ∧ b ≤ 7) ∧ v = some (xi 1) ∧ h' = encL x ++ [xL 1 out])) := by
  have g := X2_session_t (K := fun v s' => (((0 ≤ a ∧ a < wZ (x.2.2 0) 1) ∧ 0 ≤ b ∧ b ≤ 7) ∧ v = [pI (fSession x a b)]) ∧ s' = x) (Pt := fun s' => ¬ ((0 ≤ a ∧ a < wZ (x.2.2 0) 1) ∧ 0 ≤ b ∧ b ≤ 7) ∧ s' = x) a b x ha hb (fun h => ⟨h, rfl⟩) (fun h => ⟨⟨h, rfl⟩, rfl⟩)
  rw [wX_lt (by decide)] at g
  have hc := xt_con (As := [.ref 0, xi a, xi b]) kX2_session yX2_session_y rfl (by decide) (by decide) [some (.ref 0), some (xi a), some (xi b)] rfl (Nat.le_of_ble_eq_true rfl) (g hbx)
  refine wr2_con FL_session vX2_session rfl rfl (by decide) a b x out hc (fun v h' q => ?_) (fun h' q => ?_)
  · obtain ⟨v', s', e1, e3, -, -, ⟨hc, rfl⟩, e4⟩ := q
    rw [e4] at e3
    match v, e1 with
    | some w, e1 =>
      have e2 : w = .int (iI (fSession x a b)) := (List.cons.inj e1).1
      subst e2
      exact ⟨wI (fSession x a b), wI_xb _, ⟨hc, rfl⟩, by rw [show xi (wI (fSession x a b)) = Value.int (iI (wI (fSession x a b))) from rfl, wI_iI], e3⟩
  · obtain ⟨s', e3, -, hc, e4⟩ := q
    rw [e4] at e3
    exact ⟨hc, e3⟩
theorem law_c9 {N : Nat} {z : Nat → Int} {Nn rc rs : Nat} {Po : Option (Option Value) → XH → Prop} (i : Nat) (hi : i + 5 ≤ N) (hN : N ≤ 3000) (x : LSt) (m : MS) (out : Nat → Int) (hbx : bdL x) (hbm : bdM m) {Post : LSt → MS → Prop} (hz : ∀ j, xB (z (i + j))) (hs : ((0 ≤ z (i + 1) ∧ z (i + 1) < wZ (x.2.2 0) 1) ∧ 0 ≤ z (i + 2) ∧ z (i + 2) ≤ 7 → sX3_session (z (i + 1)) (z (i + 2)) m (fun w m' => w = [pI (fSession x (z (i + 1)) (z (i + 2)))] ∧ m'.1 0 = 0 ∧ Post x m')) ∧ (¬ ((0 ≤ z (i + 1) ∧ z (i + 1) < wZ (x.2.2 0) 1) ∧ 0 ≤ z (i + 2) ∧ z (i + 2) ≤ 7) → sX3_session (z (i + 1)) (z (i + 2)) m (fun w m' => (∃ q, w = [pI q]) ∧ m'.1 0 = 1 ∧ Post x m'))) (kk : ∀ x' m' out', bdL x' → bdM m' → Post x' m' → xn_W (some (N, fun j => iI (z j), xt_E)) Nn mL_law rc rs 1466 (lwL i) [] (encZ x' m' out') Po) : xn_W (some (N, fun j => iI (z j), xt_E)) Nn mL_law (rc + 1) (rs + 6) 552 (lwL i) [] (encZ x m out) Po := by
  refine xn_aload_n iL_law_552 rfl ?_
  refine lwA (jn := 1) iL_law_553 iL_law_554 iL_law_556 iL_law_557 iL_law_558 rfl rfl rfl (by omega) hN ?_
  refine lwA (jn := 2) iL_law_559 iL_law_560 iL_law_562 iL_law_563 iL_law_564 rfl rfl rfl (by omega) hN ?_
  refine xn_aload_n iL_law_565 rfl ?_
  refine lwW (As := [.ref 0, xi (z (i + 1)), xi (z (i + 2)), .ref 137]) (rest := []) iL_law_566 vL_session rfl (Nat.le_of_ble_eq_true rfl) (hL_session x out hbx (z (i + 1)) (z (i + 2)) (hz 1) (hz 2)) (fun q hq hOk => ?_) (fun hbad => ?_)
  · refine xn_istore iL_law_569 rfl (by decide) ?_
    refine xn_aload_n iL_law_571 rfl ?_
    refine lwA (jn := 1) iL_law_572 iL_law_573 iL_law_575 iL_law_576 iL_law_577 rfl rfl rfl (by omega) hN ?_
    refine lwA (jn := 2) iL_law_578 iL_law_579 iL_law_581 iL_law_582 iL_law_583 rfl rfl rfl (by omega) hN ?_
    refine lwM (as := [pI (z (i + 1)), pI (z (i + 2))]) (rest := []) (K := (fun w m' => w = [pI (fSession x (z (i + 1)) (z (i + 2)))] ∧ m'.1 0 = 0 ∧ Post x m')) iL_law_584 vX3_session mX3_session_ok mcl rfl rfl (Nat.le_of_ble_eq_true rfl) hbm (hs.1 hOk.1) (fun w m' hK hbm' => ?_)
    obtain ⟨rfl, h0, hP⟩ := hK
    refine xn_istore iL_law_587 rfl (by decide) ?_
    refine xn_aload_n iL_law_589 rfl ?_
    refine lwM (as := []) (rest := []) (K := fun t m'' => t = [pI (m'.1 0)] ∧ m'' = m') iL_law_590 vX3_thrown mX3_thrown_ok mcl rfl rfl (Nat.le_of_ble_eq_true rfl) hbm' (fun _ => ⟨rfl, rfl⟩) (fun t m'' hK hbm'' => ?_)
    obtain ⟨rfl, e0⟩ := hK
    rw [e0]
    refine xn_iload iL_law_593 rfl ?_
    rw [h0]
    refine xn_icmp_eq iL_law_595 (fun _ => ?_) (fun h => absurd rfl h)
    refine xn_iload iL_law_600 rfl ?_
    refine xn_if_ne iL_law_602 (fun h => absurd rfl h) (fun _ => ?_)
    refine xn_aload_n iL_law_605 rfl ?_
    refine xn_iconst 0 iL_law_606 rfl ?_
    refine xn_lald (i := 0) iL_law_607 (atZ _ _ _) (iI_in (z := 0) ⟨by decide, by decide⟩ (by decide) (by decide)) ?_
    refine xn_iload iL_law_608 rfl ?_
    refine xn_i2l iL_law_610 ?_
    refine xn_lcmp iL_law_611 ?_
    have e9 : lg_cmp (lI (xup out 0 q 0)) ((iI (fSession x (z (i + 1)) (z (i + 2)))).toInt64) = 0 := by rw [xup_0, hOk.2, wI_long]; exact lg_cmp0 _
    refine xn_if_eq iL_law_612 (fun _ => ?_) (fun h => absurd e9 h)
    refine xn_goto iL_law_617 ?_
    exact xn_weak lwk (kk x m' _ hbx hbm' hP)
  · refine xn_istore iL_law_569 rfl (by decide) ?_
    refine xn_aload_n iL_law_571 rfl ?_
    refine lwA (jn := 1) iL_law_572 iL_law_573 iL_law_575 iL_law_576 iL_law_577 rfl rfl rfl (by omega) hN ?_
    refine lwA (jn := 2) iL_law_578 iL_law_579 iL_law_581 iL_law_582 iL_law_583 rfl rfl rfl (by omega) hN ?_
    refine lwM (as := [pI (z (i + 1)), pI (z (i + 2))]) (rest := []) (K := (fun w m' => (∃ q, w = [pI q]) ∧ m'.1 0 = 1 ∧ Post x m')) iL_law_584 vX3_session mX3_session_ok mcl rfl rfl (Nat.le_of_ble_eq_true rfl) hbm (hs.2 hbad) (fun w m' hK hbm' => ?_)
    obtain ⟨⟨q2, rfl⟩, h0, hP⟩ := hK
    refine xn_istore iL_law_587 rfl (by decide) ?_
    refine xn_aload_n iL_law_589 rfl ?_
    refine lwM (as := []) (rest := []) (K := fun t m'' => t = [pI (m'.1 0)] ∧ m'' = m') iL_law_590 vX3_thrown mX3_thrown_ok mcl rfl rfl (Nat.le_of_ble_eq_true rfl) hbm' (fun _ => ⟨rfl, rfl⟩) (fun t m'' hK hbm'' => ?_)
    obtain ⟨rfl, e0⟩ := hK
    rw [e0]
    refine xn_iload iL_law_593 rfl ?_
    rw [h0]
    refine xn_icmp_eq iL_law_595 (fun _ => ?_) (fun h => absurd rfl h)
    refine xn_iload iL_law_600 rfl ?_
    exact xn_if_ne iL_law_602 (fun _ => xn_goto iL_law_617 (xn_weak lwk (kk x m' _ hbx hbm' hP))) (fun h => absurd h (by decide))
theorem law_c10 {N : Nat} {z : Nat → Int} {Nn rc rs : Nat} {Po : Option (Option Value) → XH → Prop} (i : Nat) (hi : i + 5 ≤ N) (hN : N ≤ 3000) (x : LSt) (m : MS) (out : Nat → Int) (hbx : bdL x) (hbm : bdM m) {Post : LSt → MS → Prop} (hs : sX2_at (z (i + 1)) (z (i + 2)) x (fun v x' => ∃ q, v = [pI q] ∧ sX3_at (z (i + 1)) (z (i + 2)) m (fun w m' => w = [pI q] ∧ Post x' m'))) (kk : ∀ x' m' out', bdL x' → bdM m' → Post x' m' → xn_W (some (N, fun j => iI (z j), xt_E)) Nn mL_law rc rs 1466 (lwL i) [] (encZ x' m' out') Po) : xn_W (some (N, fun j => iI (z j), xt_E)) Nn mL_law rc rs 620 (lwL i) [] (encZ x m out) Po := by
  refine xn_aload_n iL_law_620 rfl ?_
  refine lwA (jn := 1) iL_law_621 iL_law_622 iL_law_624 iL_law_625 iL_law_626 rfl rfl rfl (by omega) hN ?_
  refine lwA (jn := 2) iL_law_627 iL_law_628 iL_law_630 iL_law_631 iL_law_632 rfl rfl rfl (by omega) hN ?_
  refine lwX (as := [pI (z (i + 1)), pI (z (i + 2))]) (rest := []) (K := (fun v x' => ∃ q, v = [pI q] ∧ sX3_at (z (i + 1)) (z (i + 2)) m (fun w m' => w = [pI q] ∧ Post x' m'))) iL_law_633 vX2_at mX2_at_ok lcl rfl rfl (Nat.le_of_ble_eq_true rfl) hbx hs (fun v x' hK hbx' => ?_)
  obtain ⟨q, rfl, hm⟩ := hK
  refine xn_aload_n iL_law_636 rfl ?_
  refine lwA (jn := 1) iL_law_637 iL_law_638 iL_law_640 iL_law_641 iL_law_642 rfl rfl rfl (by omega) hN ?_
  refine lwA (jn := 2) iL_law_643 iL_law_644 iL_law_646 iL_law_647 iL_law_648 rfl rfl rfl (by omega) hN ?_
  refine lwM (as := [pI (z (i + 1)), pI (z (i + 2))]) (rest := [xi q]) (K := (fun w m' => w = [pI q] ∧ Post x' m')) iL_law_649 vX3_at mX3_at_ok mcl rfl rfl (Nat.le_of_ble_eq_true rfl) hbm hm (fun w m' hK hbm' => ?_)
  obtain ⟨rfl, hP⟩ := hK
  exact xn_icmp_eq iL_law_652 (fun _ => kk x' m' out hbx' hbm' hP) (fun h => absurd rfl h)
theorem vL_message : wr_V mL_message [(0, 10, 13, 13)] := ⟨cwL_message, stL_message, xl_iL, by decide +kernel, by decide +kernel, by decide +kernel, rfl, rfl⟩
theorem hL_message (x : LSt) (out : Nat → Int) (hbx : bdL x) (a b : Int) (ha : xB a) (hb : xB b) : wr_C mL_message [(0, 10, 13, 13)] [.ref 0, xi a, xi b, .ref 137] (encL x ++ [xL 1 out]) (fun v h' => (∃ q, xb q ∧ ((ofLatest (a) ((x.2.2 0).1 4) 60 ∧ 0 ≤ b ∧ b < 6) ∧ q = wI (fMessage x a b)) ∧ v = some (xi 0) ∧ h' = encL x ++ [xL 1 (xup out 0 q)]) ∨ (¬ (ofLatest (a) ((x.2.2 0).1 4) 60 ∧ 0 ≤ b ∧ b < 6) ∧ v = some (xi 1) ∧ h' = encL x ++ [xL 1 out])) := by
  have g := X2_message_t (K := fun v s' => ((ofLatest (a) ((x.2.2 0).1 4) 60 ∧ 0 ≤ b ∧ b < 6) ∧ v = [pI (fMessage x a b)]) ∧ s' = x) (Pt := fun s' => ¬ (ofLatest (a) ((x.2.2 0).1 4) 60 ∧ 0 ≤ b ∧ b < 6) ∧ s' = x) a b x ha hb (fun h => ⟨h, rfl⟩) (fun h => ⟨⟨h, rfl⟩, rfl⟩)
  rw [wX_lt (by decide)] at g
  have hc := xt_con (As := [.ref 0, xi a, xi b]) kX2_message yX2_message_y rfl (by decide) (by decide) [some (.ref 0), some (xi a), some (xi b), none, none] rfl (Nat.le_of_ble_eq_true rfl) (g hbx)
  refine wr2_con FL_message vX2_message rfl rfl (by decide) a b x out hc (fun v h' q => ?_) (fun h' q => ?_)
  · obtain ⟨v', s', e1, e3, -, -, ⟨hc, rfl⟩, e4⟩ := q
    rw [e4] at e3
    match v, e1 with
    | some w, e1 =>
      have e2 : w = .int (iI (fMessage x a b)) := (List.cons.inj e1).1
      subst e2
      exact ⟨wI (fMessage x a b), wI_xb _, ⟨hc, rfl⟩, by rw [show xi (wI (fMessage x a b)) = Value.int (iI (wI (fMessage x a b))) from rfl, wI_iI], e3⟩
  · obtain ⟨s', e3, -, hc, e4⟩ := q
    rw [e4] at e3
    exact ⟨hc, e3⟩
theorem law_c11 {N : Nat} {z : Nat → Int} {Nn rc rs : Nat} {Po : Option (Option Value) → XH → Prop} (i : Nat) (hi : i + 5 ≤ N) (hN : N ≤ 3000) (x : LSt) (m : MS) (out : Nat → Int) (hbx : bdL x) (hbm : bdM m) {Post : LSt → MS → Prop} (hz : ∀ j, xB (z (i + j))) (hs : (ofLatest (z (i + 1)) ((x.2.2 0).1 4) 60 ∧ 0 ≤ z (i + 2) ∧ z (i + 2) < 6 → sX3_message (z (i + 1)) (z (i + 2)) m (fun w m' => w = [pI (fMessage x (z (i + 1)) (z (i + 2)))] ∧ m'.1 0 = 0 ∧ Post x m')) ∧ (¬ (ofLatest (z (i + 1)) ((x.2.2 0).1 4) 60 ∧ 0 ≤ z (i + 2) ∧ z (i + 2) < 6) → sX3_message (z (i + 1)) (z (i + 2)) m (fun w m' => (∃ q, w = [pI q]) ∧ m'.1 0 = 1 ∧ Post x m'))) (kk : ∀ x' m' out', bdL x' → bdM m' → Post x' m' → xn_W (some (N, fun j => iI (z j), xt_E)) Nn mL_law rc rs 1466 (lwL i) [] (encZ x' m' out') Po) : xn_W (some (N, fun j => iI (z j), xt_E)) Nn mL_law (rc + 1) (rs + 6) 657 (lwL i) [] (encZ x m out) Po := by
  refine xn_aload_n iL_law_657 rfl ?_
  refine lwA (jn := 1) iL_law_658 iL_law_659 iL_law_661 iL_law_662 iL_law_663 rfl rfl rfl (by omega) hN ?_
  refine lwA (jn := 2) iL_law_664 iL_law_665 iL_law_667 iL_law_668 iL_law_669 rfl rfl rfl (by omega) hN ?_
  refine xn_aload_n iL_law_670 rfl ?_
  refine lwW (As := [.ref 0, xi (z (i + 1)), xi (z (i + 2)), .ref 137]) (rest := []) iL_law_671 vL_message rfl (Nat.le_of_ble_eq_true rfl) (hL_message x out hbx (z (i + 1)) (z (i + 2)) (hz 1) (hz 2)) (fun q hq hOk => ?_) (fun hbad => ?_)
  · refine xn_istore iL_law_674 rfl (by decide) ?_
    refine xn_aload_n iL_law_676 rfl ?_
    refine lwA (jn := 1) iL_law_677 iL_law_678 iL_law_680 iL_law_681 iL_law_682 rfl rfl rfl (by omega) hN ?_
    refine lwA (jn := 2) iL_law_683 iL_law_684 iL_law_686 iL_law_687 iL_law_688 rfl rfl rfl (by omega) hN ?_
    refine lwM (as := [pI (z (i + 1)), pI (z (i + 2))]) (rest := []) (K := (fun w m' => w = [pI (fMessage x (z (i + 1)) (z (i + 2)))] ∧ m'.1 0 = 0 ∧ Post x m')) iL_law_689 vX3_message mX3_message_ok mcl rfl rfl (Nat.le_of_ble_eq_true rfl) hbm (hs.1 hOk.1) (fun w m' hK hbm' => ?_)
    obtain ⟨rfl, h0, hP⟩ := hK
    refine xn_istore iL_law_692 rfl (by decide) ?_
    refine xn_aload_n iL_law_694 rfl ?_
    refine lwM (as := []) (rest := []) (K := fun t m'' => t = [pI (m'.1 0)] ∧ m'' = m') iL_law_695 vX3_thrown mX3_thrown_ok mcl rfl rfl (Nat.le_of_ble_eq_true rfl) hbm' (fun _ => ⟨rfl, rfl⟩) (fun t m'' hK hbm'' => ?_)
    obtain ⟨rfl, e0⟩ := hK
    rw [e0]
    refine xn_iload iL_law_698 rfl ?_
    rw [h0]
    refine xn_icmp_eq iL_law_700 (fun _ => ?_) (fun h => absurd rfl h)
    refine xn_iload iL_law_705 rfl ?_
    refine xn_if_ne iL_law_707 (fun h => absurd rfl h) (fun _ => ?_)
    refine xn_aload_n iL_law_710 rfl ?_
    refine xn_iconst 0 iL_law_711 rfl ?_
    refine xn_lald (i := 0) iL_law_712 (atZ _ _ _) (iI_in (z := 0) ⟨by decide, by decide⟩ (by decide) (by decide)) ?_
    refine xn_iload iL_law_713 rfl ?_
    refine xn_i2l iL_law_715 ?_
    refine xn_lcmp iL_law_716 ?_
    have e9 : lg_cmp (lI (xup out 0 q 0)) ((iI (fMessage x (z (i + 1)) (z (i + 2)))).toInt64) = 0 := by rw [xup_0, hOk.2, wI_long]; exact lg_cmp0 _
    refine xn_if_eq iL_law_717 (fun _ => ?_) (fun h => absurd e9 h)
    refine xn_goto iL_law_722 ?_
    exact xn_weak lwk (kk x m' _ hbx hbm' hP)
  · refine xn_istore iL_law_674 rfl (by decide) ?_
    refine xn_aload_n iL_law_676 rfl ?_
    refine lwA (jn := 1) iL_law_677 iL_law_678 iL_law_680 iL_law_681 iL_law_682 rfl rfl rfl (by omega) hN ?_
    refine lwA (jn := 2) iL_law_683 iL_law_684 iL_law_686 iL_law_687 iL_law_688 rfl rfl rfl (by omega) hN ?_
    refine lwM (as := [pI (z (i + 1)), pI (z (i + 2))]) (rest := []) (K := (fun w m' => (∃ q, w = [pI q]) ∧ m'.1 0 = 1 ∧ Post x m')) iL_law_689 vX3_message mX3_message_ok mcl rfl rfl (Nat.le_of_ble_eq_true rfl) hbm (hs.2 hbad) (fun w m' hK hbm' => ?_)
    obtain ⟨⟨q2, rfl⟩, h0, hP⟩ := hK
    refine xn_istore iL_law_692 rfl (by decide) ?_
    refine xn_aload_n iL_law_694 rfl ?_
    refine lwM (as := []) (rest := []) (K := fun t m'' => t = [pI (m'.1 0)] ∧ m'' = m') iL_law_695 vX3_thrown mX3_thrown_ok mcl rfl rfl (Nat.le_of_ble_eq_true rfl) hbm' (fun _ => ⟨rfl, rfl⟩) (fun t m'' hK hbm'' => ?_)
    obtain ⟨rfl, e0⟩ := hK
    rw [e0]
    refine xn_iload iL_law_698 rfl ?_
    rw [h0]
    refine xn_icmp_eq iL_law_700 (fun _ => ?_) (fun h => absurd rfl h)
    refine xn_iload iL_law_705 rfl ?_
    exact xn_if_ne iL_law_707 (fun _ => xn_goto iL_law_722 (xn_weak lwk (kk x m' _ hbx hbm' hP))) (fun h => absurd h (by decide))
theorem law_c12 {N : Nat} {z : Nat → Int} {Nn rc rs : Nat} {Po : Option (Option Value) → XH → Prop} (i : Nat) (hi : i + 5 ≤ N) (hN : N ≤ 3000) (x : LSt) (m : MS) (out : Nat → Int) (hbx : bdL x) (hbm : bdM m) {Post : LSt → MS → Prop} (hs : sX2_sent (z (i + 1)) x (fun v x' => ∃ q, v = [pI q] ∧ sX3_sent (z (i + 1)) m (fun w m' => w = [pI q] ∧ Post x' m'))) (kk : ∀ x' m' out', bdL x' → bdM m' → Post x' m' → xn_W (some (N, fun j => iI (z j), xt_E)) Nn mL_law rc rs 1466 (lwL i) [] (encZ x' m' out') Po) : xn_W (some (N, fun j => iI (z j), xt_E)) Nn mL_law rc rs 725 (lwL i) [] (encZ x m out) Po := by
  refine xn_aload_n iL_law_725 rfl ?_
  refine lwA (jn := 1) iL_law_726 iL_law_727 iL_law_729 iL_law_730 iL_law_731 rfl rfl rfl (by omega) hN ?_
  refine lwX (as := [pI (z (i + 1))]) (rest := []) (K := (fun v x' => ∃ q, v = [pI q] ∧ sX3_sent (z (i + 1)) m (fun w m' => w = [pI q] ∧ Post x' m'))) iL_law_732 vX2_sent mX2_sent_ok lcl rfl rfl (Nat.le_of_ble_eq_true rfl) hbx hs (fun v x' hK hbx' => ?_)
  obtain ⟨q, rfl, hm⟩ := hK
  refine xn_aload_n iL_law_735 rfl ?_
  refine lwA (jn := 1) iL_law_736 iL_law_737 iL_law_739 iL_law_740 iL_law_741 rfl rfl rfl (by omega) hN ?_
  refine lwM (as := [pI (z (i + 1))]) (rest := [xi q]) (K := (fun w m' => w = [pI q] ∧ Post x' m')) iL_law_742 vX3_sent mX3_sent_ok mcl rfl rfl (Nat.le_of_ble_eq_true rfl) hbm hm (fun w m' hK hbm' => ?_)
  obtain ⟨rfl, hP⟩ := hK
  exact xn_icmp_eq iL_law_745 (fun _ => kk x' m' out hbx' hbm' hP) (fun h => absurd rfl h)
theorem law_c13 {N : Nat} {z : Nat → Int} {Nn rc rs : Nat} {Po : Option (Option Value) → XH → Prop} (i : Nat) (hi : i + 5 ≤ N) (hN : N ≤ 3000) (x : LSt) (m : MS) (out : Nat → Int) (hbx : bdL x) (hbm : bdM m) {Post : LSt → MS → Prop} (hs : sX2_stands x (fun v x' => ∃ q, v = [pI q] ∧ sX3_stands m (fun w m' => w = [pI q] ∧ Post x' m'))) (kk : ∀ x' m' out', bdL x' → bdM m' → Post x' m' → xn_W (some (N, fun j => iI (z j), xt_E)) Nn mL_law rc rs 1466 (lwL i) [] (encZ x' m' out') Po) : xn_W (some (N, fun j => iI (z j), xt_E)) Nn mL_law rc rs 750 (lwL i) [] (encZ x m out) Po := by
  refine xn_aload_n iL_law_750 rfl ?_
  refine lwX (as := []) (rest := []) (K := (fun v x' => ∃ q, v = [pI q] ∧ sX3_stands  m (fun w m' => w = [pI q] ∧ Post x' m'))) iL_law_751 vX2_stands mX2_stands_ok lcl rfl rfl (Nat.le_of_ble_eq_true rfl) hbx hs (fun v x' hK hbx' => ?_)
  obtain ⟨q, rfl, hm⟩ := hK
  refine xn_aload_n iL_law_754 rfl ?_
  refine lwM (as := []) (rest := [xi q]) (K := (fun w m' => w = [pI q] ∧ Post x' m')) iL_law_755 vX3_stands mX3_stands_ok mcl rfl rfl (Nat.le_of_ble_eq_true rfl) hbm hm (fun w m' hK hbm' => ?_)
  obtain ⟨rfl, hP⟩ := hK
  exact xn_icmp_eq iL_law_758 (fun _ => kk x' m' out hbx' hbm' hP) (fun h => absurd rfl h)
theorem law_c14 {N : Nat} {z : Nat → Int} {Nn rc rs : Nat} {Po : Option (Option Value) → XH → Prop} (i : Nat) (hi : i + 5 ≤ N) (hN : N ≤ 3000) (x : LSt) (m : MS) (out : Nat → Int) (hbx : bdL x) (hbm : bdM m) {Post : LSt → MS → Prop} (hs : sX2_closed (z (i + 1)) x (fun v x' => ∃ q, v = [pI q] ∧ sX3_closed (z (i + 1)) m (fun w m' => w = [pI q] ∧ Post x' m'))) (kk : ∀ x' m' out', bdL x' → bdM m' → Post x' m' → xn_W (some (N, fun j => iI (z j), xt_E)) Nn mL_law rc rs 1466 (lwL i) [] (encZ x' m' out') Po) : xn_W (some (N, fun j => iI (z j), xt_E)) Nn mL_law rc rs 763 (lwL i) [] (encZ x m out) Po := by
  refine xn_aload_n iL_law_763 rfl ?_
  refine lwA (jn := 1) iL_law_764 iL_law_765 iL_law_767 iL_law_768 iL_law_769 rfl rfl rfl (by omega) hN ?_
  refine lwX (as := [pI (z (i + 1))]) (rest := []) (K := (fun v x' => ∃ q, v = [pI q] ∧ sX3_closed (z (i + 1)) m (fun w m' => w = [pI q] ∧ Post x' m'))) iL_law_770 vX2_closed mX2_closed_ok lcl rfl rfl (Nat.le_of_ble_eq_true rfl) hbx hs (fun v x' hK hbx' => ?_)
  obtain ⟨q, rfl, hm⟩ := hK
  refine xn_aload_n iL_law_773 rfl ?_
  refine lwA (jn := 1) iL_law_774 iL_law_775 iL_law_777 iL_law_778 iL_law_779 rfl rfl rfl (by omega) hN ?_
  refine lwM (as := [pI (z (i + 1))]) (rest := [xi q]) (K := (fun w m' => w = [pI q] ∧ Post x' m')) iL_law_780 vX3_closed mX3_closed_ok mcl rfl rfl (Nat.le_of_ble_eq_true rfl) hbm hm (fun w m' hK hbm' => ?_)
  obtain ⟨rfl, hP⟩ := hK
  exact xn_icmp_eq iL_law_783 (fun _ => kk x' m' out hbx' hbm' hP) (fun h => absurd rfl h)
theorem vL_finals : wr_V mL_finals [(0, 10, 13, 13)] := ⟨cwL_finals, stL_finals, xl_iL, by decide +kernel, by decide +kernel, by decide +kernel, rfl, rfl⟩
theorem hL_finals (x : LSt) (out : Nat → Int) (hbx : bdL x) (a b : Int) (ha : xB a) (hb : xB b) : wr_C mL_finals [(0, 10, 13, 13)] [.ref 0, xi a, xi b, .ref 137] (encL x ++ [xL 1 out]) (fun v h' => (∃ q, xb q ∧ ((ofLatest (a) ((x.2.2 0).1 5) 40 ∧ 0 ≤ b ∧ b < 7) ∧ q = wI (fFinals x a b)) ∧ v = some (xi 0) ∧ h' = encL x ++ [xL 1 (xup out 0 q)]) ∨ (¬ (ofLatest (a) ((x.2.2 0).1 5) 40 ∧ 0 ≤ b ∧ b < 7) ∧ v = some (xi 1) ∧ h' = encL x ++ [xL 1 out])) := by
  have g := X2_finals_t (K := fun v s' => ((ofLatest (a) ((x.2.2 0).1 5) 40 ∧ 0 ≤ b ∧ b < 7) ∧ v = [pI (fFinals x a b)]) ∧ s' = x) (Pt := fun s' => ¬ (ofLatest (a) ((x.2.2 0).1 5) 40 ∧ 0 ≤ b ∧ b < 7) ∧ s' = x) a b x ha hb (fun h => ⟨h, rfl⟩) (fun h => ⟨⟨h, rfl⟩, rfl⟩)
  rw [wX_lt (by decide)] at g
  have hc := xt_con (As := [.ref 0, xi a, xi b]) kX2_finals yX2_finals_y rfl (by decide) (by decide) [some (.ref 0), some (xi a), some (xi b), none] rfl (Nat.le_of_ble_eq_true rfl) (g hbx)
  refine wr2_con FL_finals vX2_finals rfl rfl (by decide) a b x out hc (fun v h' q => ?_) (fun h' q => ?_)
  · obtain ⟨v', s', e1, e3, -, -, ⟨hc, rfl⟩, e4⟩ := q
    rw [e4] at e3
    match v, e1 with
    | some w, e1 =>
      have e2 : w = .int (iI (fFinals x a b)) := (List.cons.inj e1).1
      subst e2
      exact ⟨wI (fFinals x a b), wI_xb _, ⟨hc, rfl⟩, by rw [show xi (wI (fFinals x a b)) = Value.int (iI (wI (fFinals x a b))) from rfl, wI_iI], e3⟩
  · obtain ⟨s', e3, -, hc, e4⟩ := q
    rw [e4] at e3
    exact ⟨hc, e3⟩
theorem law_c15 {N : Nat} {z : Nat → Int} {Nn rc rs : Nat} {Po : Option (Option Value) → XH → Prop} (i : Nat) (hi : i + 5 ≤ N) (hN : N ≤ 3000) (x : LSt) (m : MS) (out : Nat → Int) (hbx : bdL x) (hbm : bdM m) {Post : LSt → MS → Prop} (hz : ∀ j, xB (z (i + j))) (hs : (ofLatest (z (i + 1)) ((x.2.2 0).1 5) 40 ∧ 0 ≤ z (i + 2) ∧ z (i + 2) < 7 → sX3_finals (z (i + 1)) (z (i + 2)) m (fun w m' => w = [pI (fFinals x (z (i + 1)) (z (i + 2)))] ∧ m'.1 0 = 0 ∧ Post x m')) ∧ (¬ (ofLatest (z (i + 1)) ((x.2.2 0).1 5) 40 ∧ 0 ≤ z (i + 2) ∧ z (i + 2) < 7) → sX3_finals (z (i + 1)) (z (i + 2)) m (fun w m' => (∃ q, w = [pI q]) ∧ m'.1 0 = 1 ∧ Post x m'))) (kk : ∀ x' m' out', bdL x' → bdM m' → Post x' m' → xn_W (some (N, fun j => iI (z j), xt_E)) Nn mL_law rc rs 1466 (lwL i) [] (encZ x' m' out') Po) : xn_W (some (N, fun j => iI (z j), xt_E)) Nn mL_law (rc + 1) (rs + 6) 788 (lwL i) [] (encZ x m out) Po := by
  refine xn_aload_n iL_law_788 rfl ?_
  refine lwA (jn := 1) iL_law_789 iL_law_790 iL_law_792 iL_law_793 iL_law_794 rfl rfl rfl (by omega) hN ?_
  refine lwA (jn := 2) iL_law_795 iL_law_796 iL_law_798 iL_law_799 iL_law_800 rfl rfl rfl (by omega) hN ?_
  refine xn_aload_n iL_law_801 rfl ?_
  refine lwW (As := [.ref 0, xi (z (i + 1)), xi (z (i + 2)), .ref 137]) (rest := []) iL_law_802 vL_finals rfl (Nat.le_of_ble_eq_true rfl) (hL_finals x out hbx (z (i + 1)) (z (i + 2)) (hz 1) (hz 2)) (fun q hq hOk => ?_) (fun hbad => ?_)
  · refine xn_istore iL_law_805 rfl (by decide) ?_
    refine xn_aload_n iL_law_807 rfl ?_
    refine lwA (jn := 1) iL_law_808 iL_law_809 iL_law_811 iL_law_812 iL_law_813 rfl rfl rfl (by omega) hN ?_
    refine lwA (jn := 2) iL_law_814 iL_law_815 iL_law_817 iL_law_818 iL_law_819 rfl rfl rfl (by omega) hN ?_
    refine lwM (as := [pI (z (i + 1)), pI (z (i + 2))]) (rest := []) (K := (fun w m' => w = [pI (fFinals x (z (i + 1)) (z (i + 2)))] ∧ m'.1 0 = 0 ∧ Post x m')) iL_law_820 vX3_finals mX3_finals_ok mcl rfl rfl (Nat.le_of_ble_eq_true rfl) hbm (hs.1 hOk.1) (fun w m' hK hbm' => ?_)
    obtain ⟨rfl, h0, hP⟩ := hK
    refine xn_istore iL_law_823 rfl (by decide) ?_
    refine xn_aload_n iL_law_825 rfl ?_
    refine lwM (as := []) (rest := []) (K := fun t m'' => t = [pI (m'.1 0)] ∧ m'' = m') iL_law_826 vX3_thrown mX3_thrown_ok mcl rfl rfl (Nat.le_of_ble_eq_true rfl) hbm' (fun _ => ⟨rfl, rfl⟩) (fun t m'' hK hbm'' => ?_)
    obtain ⟨rfl, e0⟩ := hK
    rw [e0]
    refine xn_iload iL_law_829 rfl ?_
    rw [h0]
    refine xn_icmp_eq iL_law_831 (fun _ => ?_) (fun h => absurd rfl h)
    refine xn_iload iL_law_836 rfl ?_
    refine xn_if_ne iL_law_838 (fun h => absurd rfl h) (fun _ => ?_)
    refine xn_aload_n iL_law_841 rfl ?_
    refine xn_iconst 0 iL_law_842 rfl ?_
    refine xn_lald (i := 0) iL_law_843 (atZ _ _ _) (iI_in (z := 0) ⟨by decide, by decide⟩ (by decide) (by decide)) ?_
    refine xn_iload iL_law_844 rfl ?_
    refine xn_i2l iL_law_846 ?_
    refine xn_lcmp iL_law_847 ?_
    have e9 : lg_cmp (lI (xup out 0 q 0)) ((iI (fFinals x (z (i + 1)) (z (i + 2)))).toInt64) = 0 := by rw [xup_0, hOk.2, wI_long]; exact lg_cmp0 _
    refine xn_if_eq iL_law_848 (fun _ => ?_) (fun h => absurd e9 h)
    refine xn_goto iL_law_853 ?_
    exact xn_weak lwk (kk x m' _ hbx hbm' hP)
  · refine xn_istore iL_law_805 rfl (by decide) ?_
    refine xn_aload_n iL_law_807 rfl ?_
    refine lwA (jn := 1) iL_law_808 iL_law_809 iL_law_811 iL_law_812 iL_law_813 rfl rfl rfl (by omega) hN ?_
    refine lwA (jn := 2) iL_law_814 iL_law_815 iL_law_817 iL_law_818 iL_law_819 rfl rfl rfl (by omega) hN ?_
    refine lwM (as := [pI (z (i + 1)), pI (z (i + 2))]) (rest := []) (K := (fun w m' => (∃ q, w = [pI q]) ∧ m'.1 0 = 1 ∧ Post x m')) iL_law_820 vX3_finals mX3_finals_ok mcl rfl rfl (Nat.le_of_ble_eq_true rfl) hbm (hs.2 hbad) (fun w m' hK hbm' => ?_)
    obtain ⟨⟨q2, rfl⟩, h0, hP⟩ := hK
    refine xn_istore iL_law_823 rfl (by decide) ?_
    refine xn_aload_n iL_law_825 rfl ?_
    refine lwM (as := []) (rest := []) (K := fun t m'' => t = [pI (m'.1 0)] ∧ m'' = m') iL_law_826 vX3_thrown mX3_thrown_ok mcl rfl rfl (Nat.le_of_ble_eq_true rfl) hbm' (fun _ => ⟨rfl, rfl⟩) (fun t m'' hK hbm'' => ?_)
    obtain ⟨rfl, e0⟩ := hK
    rw [e0]
    refine xn_iload iL_law_829 rfl ?_
    rw [h0]
    refine xn_icmp_eq iL_law_831 (fun _ => ?_) (fun h => absurd rfl h)
    refine xn_iload iL_law_836 rfl ?_
    exact xn_if_ne iL_law_838 (fun _ => xn_goto iL_law_853 (xn_weak lwk (kk x m' _ hbx hbm' hP))) (fun h => absurd h (by decide))
theorem law_c16 {N : Nat} {z : Nat → Int} {Nn rc rs : Nat} {Po : Option (Option Value) → XH → Prop} (i : Nat) (hi : i + 5 ≤ N) (hN : N ≤ 3000) (x : LSt) (m : MS) (out : Nat → Int) (hbx : bdL x) (hbm : bdM m) {Post : LSt → MS → Prop} (hs : sX2_kinds (z (i + 1)) x (fun v x' => ∃ q, v = [pI q] ∧ sX3_kinds (z (i + 1)) m (fun w m' => w = [pI q] ∧ Post x' m'))) (kk : ∀ x' m' out', bdL x' → bdM m' → Post x' m' → xn_W (some (N, fun j => iI (z j), xt_E)) Nn mL_law rc rs 1466 (lwL i) [] (encZ x' m' out') Po) : xn_W (some (N, fun j => iI (z j), xt_E)) Nn mL_law rc rs 856 (lwL i) [] (encZ x m out) Po := by
  refine xn_aload_n iL_law_856 rfl ?_
  refine lwA (jn := 1) iL_law_857 iL_law_858 iL_law_860 iL_law_861 iL_law_862 rfl rfl rfl (by omega) hN ?_
  refine lwX (as := [pI (z (i + 1))]) (rest := []) (K := (fun v x' => ∃ q, v = [pI q] ∧ sX3_kinds (z (i + 1)) m (fun w m' => w = [pI q] ∧ Post x' m'))) iL_law_863 vX2_kinds mX2_kinds_ok lcl rfl rfl (Nat.le_of_ble_eq_true rfl) hbx hs (fun v x' hK hbx' => ?_)
  obtain ⟨q, rfl, hm⟩ := hK
  refine xn_aload_n iL_law_866 rfl ?_
  refine lwA (jn := 1) iL_law_867 iL_law_868 iL_law_870 iL_law_871 iL_law_872 rfl rfl rfl (by omega) hN ?_
  refine lwM (as := [pI (z (i + 1))]) (rest := [xi q]) (K := (fun w m' => w = [pI q] ∧ Post x' m')) iL_law_873 vX3_kinds mX3_kinds_ok mcl rfl rfl (Nat.le_of_ble_eq_true rfl) hbm hm (fun w m' hK hbm' => ?_)
  obtain ⟨rfl, hP⟩ := hK
  exact xn_icmp_eq iL_law_876 (fun _ => kk x' m' out hbx' hbm' hP) (fun h => absurd rfl h)
theorem law_c17 {N : Nat} {z : Nat → Int} {Nn rc rs : Nat} {Po : Option (Option Value) → XH → Prop} (i : Nat) (hi : i + 5 ≤ N) (hN : N ≤ 3000) (x : LSt) (m : MS) (out : Nat → Int) (hbx : bdL x) (hbm : bdM m) {Post : LSt → MS → Prop} (hs : sX2_slow x (fun v x' => ∃ q, v = [pI q] ∧ sX3_slow m (fun w m' => w = [pI q] ∧ Post x' m'))) (kk : ∀ x' m' out', bdL x' → bdM m' → Post x' m' → xn_W (some (N, fun j => iI (z j), xt_E)) Nn mL_law rc rs 1466 (lwL i) [] (encZ x' m' out') Po) : xn_W (some (N, fun j => iI (z j), xt_E)) Nn mL_law rc rs 881 (lwL i) [] (encZ x m out) Po := by
  refine xn_aload_n iL_law_881 rfl ?_
  refine lwX (as := []) (rest := []) (K := (fun v x' => ∃ q, v = [pI q] ∧ sX3_slow  m (fun w m' => w = [pI q] ∧ Post x' m'))) iL_law_882 vX2_slow mX2_slow_ok lcl rfl rfl (Nat.le_of_ble_eq_true rfl) hbx hs (fun v x' hK hbx' => ?_)
  obtain ⟨q, rfl, hm⟩ := hK
  refine xn_aload_n iL_law_885 rfl ?_
  refine lwM (as := []) (rest := [xi q]) (K := (fun w m' => w = [pI q] ∧ Post x' m')) iL_law_886 vX3_slow mX3_slow_ok mcl rfl rfl (Nat.le_of_ble_eq_true rfl) hbm hm (fun w m' hK hbm' => ?_)
  obtain ⟨rfl, hP⟩ := hK
  exact xn_icmp_eq iL_law_889 (fun _ => kk x' m' out hbx' hbm' hP) (fun h => absurd rfl h)
theorem law_c18 {N : Nat} {z : Nat → Int} {Nn rc rs : Nat} {Po : Option (Option Value) → XH → Prop} (i : Nat) (hi : i + 5 ≤ N) (hN : N ≤ 3000) (x : LSt) (m : MS) (out : Nat → Int) (hbx : bdL x) (hbm : bdM m) {Post : LSt → MS → Prop} (hs : sX2_span (z (i + 1)) (z (i + 2)) x (fun v x' => ∃ q, v = [pI q] ∧ sX3_span (z (i + 1)) (z (i + 2)) m (fun w m' => w = [pI q] ∧ Post x' m'))) (kk : ∀ x' m' out', bdL x' → bdM m' → Post x' m' → xn_W (some (N, fun j => iI (z j), xt_E)) Nn mL_law rc rs 1466 (lwL i) [] (encZ x' m' out') Po) : xn_W (some (N, fun j => iI (z j), xt_E)) Nn mL_law rc rs 894 (lwL i) [] (encZ x m out) Po := by
  refine xn_aload_n iL_law_894 rfl ?_
  refine lwA (jn := 1) iL_law_895 iL_law_896 iL_law_898 iL_law_899 iL_law_900 rfl rfl rfl (by omega) hN ?_
  refine lwA (jn := 2) iL_law_901 iL_law_902 iL_law_904 iL_law_905 iL_law_906 rfl rfl rfl (by omega) hN ?_
  refine lwX (as := [pI (z (i + 1)), pI (z (i + 2))]) (rest := []) (K := (fun v x' => ∃ q, v = [pI q] ∧ sX3_span (z (i + 1)) (z (i + 2)) m (fun w m' => w = [pI q] ∧ Post x' m'))) iL_law_907 vX2_span mX2_span_ok lcl rfl rfl (Nat.le_of_ble_eq_true rfl) hbx hs (fun v x' hK hbx' => ?_)
  obtain ⟨q, rfl, hm⟩ := hK
  refine xn_aload_n iL_law_910 rfl ?_
  refine lwA (jn := 1) iL_law_911 iL_law_912 iL_law_914 iL_law_915 iL_law_916 rfl rfl rfl (by omega) hN ?_
  refine lwA (jn := 2) iL_law_917 iL_law_918 iL_law_920 iL_law_921 iL_law_922 rfl rfl rfl (by omega) hN ?_
  refine lwM (as := [pI (z (i + 1)), pI (z (i + 2))]) (rest := [xi q]) (K := (fun w m' => w = [pI q] ∧ Post x' m')) iL_law_923 vX3_span mX3_span_ok mcl rfl rfl (Nat.le_of_ble_eq_true rfl) hbm hm (fun w m' hK hbm' => ?_)
  obtain ⟨rfl, hP⟩ := hK
  exact xn_icmp_eq iL_law_926 (fun _ => kk x' m' out hbx' hbm' hP) (fun h => absurd rfl h)
theorem law_c19 {N : Nat} {z : Nat → Int} {Nn rc rs : Nat} {Po : Option (Option Value) → XH → Prop} (i : Nat) (hi : i + 5 ≤ N) (hN : N ≤ 3000) (x : LSt) (m : MS) (out : Nat → Int) (hbx : bdL x) (hbm : bdM m) {Post : LSt → MS → Prop} (hs : sX2_taken x (fun v x' => ∃ q, v = [pI q] ∧ sX3_taken m (fun w m' => w = [pI q] ∧ Post x' m'))) (kk : ∀ x' m' out', bdL x' → bdM m' → Post x' m' → xn_W (some (N, fun j => iI (z j), xt_E)) Nn mL_law rc rs 1466 (lwL i) [] (encZ x' m' out') Po) : xn_W (some (N, fun j => iI (z j), xt_E)) Nn mL_law rc rs 931 (lwL i) [] (encZ x m out) Po := by
  refine xn_aload_n iL_law_931 rfl ?_
  refine lwX (as := []) (rest := []) (K := (fun v x' => ∃ q, v = [pI q] ∧ sX3_taken  m (fun w m' => w = [pI q] ∧ Post x' m'))) iL_law_932 vX2_taken mX2_taken_ok lcl rfl rfl (Nat.le_of_ble_eq_true rfl) hbx hs (fun v x' hK hbx' => ?_)
  obtain ⟨q, rfl, hm⟩ := hK
  refine xn_aload_n iL_law_935 rfl ?_
  refine lwM (as := []) (rest := [xi q]) (K := (fun w m' => w = [pI q] ∧ Post x' m')) iL_law_936 vX3_taken mX3_taken_ok mcl rfl rfl (Nat.le_of_ble_eq_true rfl) hbm hm (fun w m' hK hbm' => ?_)
  obtain ⟨rfl, hP⟩ := hK
  exact xn_icmp_eq iL_law_939 (fun _ => kk x' m' out hbx' hbm' hP) (fun h => absurd rfl h)
theorem law_c20 {N : Nat} {z : Nat → Int} {Nn rc rs : Nat} {Po : Option (Option Value) → XH → Prop} (i : Nat) (hi : i + 5 ≤ N) (hN : N ≤ 3000) (x : LSt) (m : MS) (out : Nat → Int) (hbx : bdL x) (hbm : bdM m) {Post : LSt → MS → Prop} (hs : sX2_holds x (fun v x' => ∃ q, v = [pI q] ∧ sX3_holds m (fun w m' => w = [pI q] ∧ Post x' m'))) (kk : ∀ x' m' out', bdL x' → bdM m' → Post x' m' → xn_W (some (N, fun j => iI (z j), xt_E)) Nn mL_law rc rs 1466 (lwL i) [] (encZ x' m' out') Po) : xn_W (some (N, fun j => iI (z j), xt_E)) Nn mL_law rc rs 944 (lwL i) [] (encZ x m out) Po := by
  refine xn_aload_n iL_law_944 rfl ?_
  refine lwX (as := []) (rest := []) (K := (fun v x' => ∃ q, v = [pI q] ∧ sX3_holds  m (fun w m' => w = [pI q] ∧ Post x' m'))) iL_law_945 vX2_holds mX2_holds_ok lcl rfl rfl (Nat.le_of_ble_eq_true rfl) hbx hs (fun v x' hK hbx' => ?_)
  obtain ⟨q, rfl, hm⟩ := hK
  refine xn_aload_n iL_law_948 rfl ?_
  refine lwM (as := []) (rest := [xi q]) (K := (fun w m' => w = [pI q] ∧ Post x' m')) iL_law_949 vX3_holds mX3_holds_ok mcl rfl rfl (Nat.le_of_ble_eq_true rfl) hbm hm (fun w m' hK hbm' => ?_)
  obtain ⟨rfl, hP⟩ := hK
  exact xn_icmp_eq iL_law_952 (fun _ => kk x' m' out hbx' hbm' hP) (fun h => absurd rfl h)
theorem law_c21 {N : Nat} {z : Nat → Int} {Nn rc rs : Nat} {Po : Option (Option Value) → XH → Prop} (i : Nat) (hi : i + 5 ≤ N) (hN : N ≤ 3000) (x : LSt) (m : MS) (out : Nat → Int) (hbx : bdL x) (hbm : bdM m) {Post : LSt → MS → Prop} (hs : sX2_next x (fun v x' => ∃ q, v = [pI q] ∧ sX3_next m (fun w m' => w = [pI q] ∧ Post x' m'))) (kk : ∀ x' m' out', bdL x' → bdM m' → Post x' m' → xn_W (some (N, fun j => iI (z j), xt_E)) Nn mL_law rc rs 1466 (lwL i) [] (encZ x' m' out') Po) : xn_W (some (N, fun j => iI (z j), xt_E)) Nn mL_law rc rs 957 (lwL i) [] (encZ x m out) Po := by
  refine xn_aload_n iL_law_957 rfl ?_
  refine lwX (as := []) (rest := []) (K := (fun v x' => ∃ q, v = [pI q] ∧ sX3_next  m (fun w m' => w = [pI q] ∧ Post x' m'))) iL_law_958 vX2_next mX2_next_ok lcl rfl rfl (Nat.le_of_ble_eq_true rfl) hbx hs (fun v x' hK hbx' => ?_)
  obtain ⟨q, rfl, hm⟩ := hK
  refine xn_aload_n iL_law_961 rfl ?_
  refine lwM (as := []) (rest := [xi q]) (K := (fun w m' => w = [pI q] ∧ Post x' m')) iL_law_962 vX3_next mX3_next_ok mcl rfl rfl (Nat.le_of_ble_eq_true rfl) hbm hm (fun w m' hK hbm' => ?_)
  obtain ⟨rfl, hP⟩ := hK
  exact xn_icmp_eq iL_law_965 (fun _ => kk x' m' out hbx' hbm' hP) (fun h => absurd rfl h)
theorem law_c22 {N : Nat} {z : Nat → Int} {Nn rc rs : Nat} {Po : Option (Option Value) → XH → Prop} (i : Nat) (hi : i + 5 ≤ N) (hN : N ≤ 3000) (x : LSt) (m : MS) (out : Nat → Int) (hbx : bdL x) (hbm : bdM m) {Post : LSt → MS → Prop} (hs : sX2_ahead (z (i + 1)) x (fun v x' => ∃ q, v = [pI q] ∧ sX3_ahead (z (i + 1)) m (fun w m' => w = [pI q] ∧ Post x' m'))) (kk : ∀ x' m' out', bdL x' → bdM m' → Post x' m' → xn_W (some (N, fun j => iI (z j), xt_E)) Nn mL_law rc rs 1466 (lwL i) [] (encZ x' m' out') Po) : xn_W (some (N, fun j => iI (z j), xt_E)) Nn mL_law rc rs 970 (lwL i) [] (encZ x m out) Po := by
  refine xn_aload_n iL_law_970 rfl ?_
  refine lwA (jn := 1) iL_law_971 iL_law_972 iL_law_974 iL_law_975 iL_law_976 rfl rfl rfl (by omega) hN ?_
  refine lwX (as := [pI (z (i + 1))]) (rest := []) (K := (fun v x' => ∃ q, v = [pI q] ∧ sX3_ahead (z (i + 1)) m (fun w m' => w = [pI q] ∧ Post x' m'))) iL_law_977 vX2_ahead mX2_ahead_ok lcl rfl rfl (Nat.le_of_ble_eq_true rfl) hbx hs (fun v x' hK hbx' => ?_)
  obtain ⟨q, rfl, hm⟩ := hK
  refine xn_aload_n iL_law_980 rfl ?_
  refine lwA (jn := 1) iL_law_981 iL_law_982 iL_law_984 iL_law_985 iL_law_986 rfl rfl rfl (by omega) hN ?_
  refine lwM (as := [pI (z (i + 1))]) (rest := [xi q]) (K := (fun w m' => w = [pI q] ∧ Post x' m')) iL_law_987 vX3_ahead mX3_ahead_ok mcl rfl rfl (Nat.le_of_ble_eq_true rfl) hbm hm (fun w m' hK hbm' => ?_)
  obtain ⟨rfl, hP⟩ := hK
  exact xn_icmp_eq iL_law_990 (fun _ => kk x' m' out hbx' hbm' hP) (fun h => absurd rfl h)
theorem law_c23 {N : Nat} {z : Nat → Int} {Nn rc rs : Nat} {Po : Option (Option Value) → XH → Prop} (i : Nat) (hi : i + 5 ≤ N) (hN : N ≤ 3000) (x : LSt) (m : MS) (out : Nat → Int) (hbx : bdL x) (hbm : bdM m) {Post : LSt → MS → Prop} (hs : sX2_would (z (i + 1)) (z (i + 2)) (z (i + 3)) (z (i + 4)) x (fun v x' => ∃ q, v = [pI q] ∧ sX3_would (z (i + 1)) (z (i + 2)) (z (i + 3)) (z (i + 4)) m (fun w m' => w = [pI q] ∧ Post x' m'))) (kk : ∀ x' m' out', bdL x' → bdM m' → Post x' m' → xn_W (some (N, fun j => iI (z j), xt_E)) Nn mL_law rc rs 1466 (lwL i) [] (encZ x' m' out') Po) : xn_W (some (N, fun j => iI (z j), xt_E)) Nn mL_law rc rs 995 (lwL i) [] (encZ x m out) Po := by
  refine xn_aload_n iL_law_995 rfl ?_
  refine lwA (jn := 1) iL_law_996 iL_law_997 iL_law_999 iL_law_1000 iL_law_1001 rfl rfl rfl (by omega) hN ?_
  refine lwA (jn := 2) iL_law_1002 iL_law_1003 iL_law_1005 iL_law_1006 iL_law_1007 rfl rfl rfl (by omega) hN ?_
  refine lwA (jn := 3) iL_law_1008 iL_law_1009 iL_law_1011 iL_law_1012 iL_law_1013 rfl rfl rfl (by omega) hN ?_
  refine lwA (jn := 4) iL_law_1014 iL_law_1015 iL_law_1017 iL_law_1018 iL_law_1019 rfl rfl rfl (by omega) hN ?_
  refine lwX (as := [pI (z (i + 1)), pI (z (i + 2)), pI (z (i + 3)), pI (z (i + 4))]) (rest := []) (K := (fun v x' => ∃ q, v = [pI q] ∧ sX3_would (z (i + 1)) (z (i + 2)) (z (i + 3)) (z (i + 4)) m (fun w m' => w = [pI q] ∧ Post x' m'))) iL_law_1020 vX2_would mX2_would_ok lcl rfl rfl (Nat.le_of_ble_eq_true rfl) hbx hs (fun v x' hK hbx' => ?_)
  obtain ⟨q, rfl, hm⟩ := hK
  refine xn_aload_n iL_law_1023 rfl ?_
  refine lwA (jn := 1) iL_law_1024 iL_law_1025 iL_law_1027 iL_law_1028 iL_law_1029 rfl rfl rfl (by omega) hN ?_
  refine lwA (jn := 2) iL_law_1030 iL_law_1031 iL_law_1033 iL_law_1034 iL_law_1035 rfl rfl rfl (by omega) hN ?_
  refine lwA (jn := 3) iL_law_1036 iL_law_1037 iL_law_1039 iL_law_1040 iL_law_1041 rfl rfl rfl (by omega) hN ?_
  refine lwA (jn := 4) iL_law_1042 iL_law_1043 iL_law_1045 iL_law_1046 iL_law_1047 rfl rfl rfl (by omega) hN ?_
  refine lwM (as := [pI (z (i + 1)), pI (z (i + 2)), pI (z (i + 3)), pI (z (i + 4))]) (rest := [xi q]) (K := (fun w m' => w = [pI q] ∧ Post x' m')) iL_law_1048 vX3_would mX3_would_ok mcl rfl rfl (Nat.le_of_ble_eq_true rfl) hbm hm (fun w m' hK hbm' => ?_)
  obtain ⟨rfl, hP⟩ := hK
  exact xn_icmp_eq iL_law_1051 (fun _ => kk x' m' out hbx' hbm' hP) (fun h => absurd rfl h)
theorem law_c24 {N : Nat} {z : Nat → Int} {Nn rc rs : Nat} {Po : Option (Option Value) → XH → Prop} (i : Nat) (hi : i + 5 ≤ N) (hN : N ≤ 3000) (x : LSt) (m : MS) (out : Nat → Int) (hbx : bdL x) (hbm : bdM m) {Post : LSt → MS → Prop} (hs : sX2_batch (z (i + 1)) x (fun v x' => ∃ q, v = [pI q] ∧ sX3_batch (z (i + 1)) m (fun w m' => w = [pI q] ∧ Post x' m'))) (kk : ∀ x' m' out', bdL x' → bdM m' → Post x' m' → xn_W (some (N, fun j => iI (z j), xt_E)) Nn mL_law rc rs 1466 (lwL i) [] (encZ x' m' out') Po) : xn_W (some (N, fun j => iI (z j), xt_E)) Nn mL_law rc rs 1056 (lwL i) [] (encZ x m out) Po := by
  refine xn_aload_n iL_law_1056 rfl ?_
  refine lwA (jn := 1) iL_law_1057 iL_law_1058 iL_law_1060 iL_law_1061 iL_law_1062 rfl rfl rfl (by omega) hN ?_
  refine lwX (as := [pI (z (i + 1))]) (rest := []) (K := (fun v x' => ∃ q, v = [pI q] ∧ sX3_batch (z (i + 1)) m (fun w m' => w = [pI q] ∧ Post x' m'))) iL_law_1063 vX2_batch mX2_batch_ok lcl rfl rfl (Nat.le_of_ble_eq_true rfl) hbx hs (fun v x' hK hbx' => ?_)
  obtain ⟨q, rfl, hm⟩ := hK
  refine xn_aload_n iL_law_1066 rfl ?_
  refine lwA (jn := 1) iL_law_1067 iL_law_1068 iL_law_1070 iL_law_1071 iL_law_1072 rfl rfl rfl (by omega) hN ?_
  refine lwM (as := [pI (z (i + 1))]) (rest := [xi q]) (K := (fun w m' => w = [pI q] ∧ Post x' m')) iL_law_1073 vX3_batch mX3_batch_ok mcl rfl rfl (Nat.le_of_ble_eq_true rfl) hbm hm (fun w m' hK hbm' => ?_)
  obtain ⟨rfl, hP⟩ := hK
  exact xn_icmp_eq iL_law_1076 (fun _ => kk x' m' out hbx' hbm' hP) (fun h => absurd rfl h)
theorem law_c25 {N : Nat} {z : Nat → Int} {Nn rc rs : Nat} {Po : Option (Option Value) → XH → Prop} (i : Nat) (hi : i + 5 ≤ N) (hN : N ≤ 3000) (x : LSt) (m : MS) (out : Nat → Int) (hbx : bdL x) (hbm : bdM m) {Post : LSt → MS → Prop} (hs : sX2_latest x (fun v x' => ∃ q, v = [pI q] ∧ sX3_latest m (fun w m' => w = [pI q] ∧ Post x' m'))) (kk : ∀ x' m' out', bdL x' → bdM m' → Post x' m' → xn_W (some (N, fun j => iI (z j), xt_E)) Nn mL_law rc rs 1466 (lwL i) [] (encZ x' m' out') Po) : xn_W (some (N, fun j => iI (z j), xt_E)) Nn mL_law rc rs 1081 (lwL i) [] (encZ x m out) Po := by
  refine xn_aload_n iL_law_1081 rfl ?_
  refine lwX (as := []) (rest := []) (K := (fun v x' => ∃ q, v = [pI q] ∧ sX3_latest  m (fun w m' => w = [pI q] ∧ Post x' m'))) iL_law_1082 vX2_latest mX2_latest_ok lcl rfl rfl (Nat.le_of_ble_eq_true rfl) hbx hs (fun v x' hK hbx' => ?_)
  obtain ⟨q, rfl, hm⟩ := hK
  refine xn_aload_n iL_law_1085 rfl ?_
  refine lwM (as := []) (rest := [xi q]) (K := (fun w m' => w = [pI q] ∧ Post x' m')) iL_law_1086 vX3_latest mX3_latest_ok mcl rfl rfl (Nat.le_of_ble_eq_true rfl) hbm hm (fun w m' hK hbm' => ?_)
  obtain ⟨rfl, hP⟩ := hK
  exact xn_icmp_eq iL_law_1089 (fun _ => kk x' m' out hbx' hbm' hP) (fun h => absurd rfl h)
theorem law_c26 {N : Nat} {z : Nat → Int} {Nn rc rs : Nat} {Po : Option (Option Value) → XH → Prop} (i : Nat) (hi : i + 5 ≤ N) (hN : N ≤ 3000) (x : LSt) (m : MS) (out : Nat → Int) (hbx : bdL x) (hbm : bdM m) {Post : LSt → MS → Prop} (hs : sX2_parts (z (i + 1)) (z (i + 2)) x (fun v x' => ∃ q, v = [pI q] ∧ sX3_parts (z (i + 1)) (z (i + 2)) m (fun w m' => w = [pI q] ∧ Post x' m'))) (kk : ∀ x' m' out', bdL x' → bdM m' → Post x' m' → xn_W (some (N, fun j => iI (z j), xt_E)) Nn mL_law rc rs 1466 (lwL i) [] (encZ x' m' out') Po) : xn_W (some (N, fun j => iI (z j), xt_E)) Nn mL_law rc rs 1094 (lwL i) [] (encZ x m out) Po := by
  refine xn_aload_n iL_law_1094 rfl ?_
  refine lwA (jn := 1) iL_law_1095 iL_law_1096 iL_law_1098 iL_law_1099 iL_law_1100 rfl rfl rfl (by omega) hN ?_
  refine lwA (jn := 2) iL_law_1101 iL_law_1102 iL_law_1104 iL_law_1105 iL_law_1106 rfl rfl rfl (by omega) hN ?_
  refine lwX (as := [pI (z (i + 1)), pI (z (i + 2))]) (rest := []) (K := (fun v x' => ∃ q, v = [pI q] ∧ sX3_parts (z (i + 1)) (z (i + 2)) m (fun w m' => w = [pI q] ∧ Post x' m'))) iL_law_1107 vX2_parts mX2_parts_ok lcl rfl rfl (Nat.le_of_ble_eq_true rfl) hbx hs (fun v x' hK hbx' => ?_)
  obtain ⟨q, rfl, hm⟩ := hK
  refine xn_aload_n iL_law_1110 rfl ?_
  refine lwA (jn := 1) iL_law_1111 iL_law_1112 iL_law_1114 iL_law_1115 iL_law_1116 rfl rfl rfl (by omega) hN ?_
  refine lwA (jn := 2) iL_law_1117 iL_law_1118 iL_law_1120 iL_law_1121 iL_law_1122 rfl rfl rfl (by omega) hN ?_
  refine lwM (as := [pI (z (i + 1)), pI (z (i + 2))]) (rest := [xi q]) (K := (fun w m' => w = [pI q] ∧ Post x' m')) iL_law_1123 vX3_parts mX3_parts_ok mcl rfl rfl (Nat.le_of_ble_eq_true rfl) hbm hm (fun w m' hK hbm' => ?_)
  obtain ⟨rfl, hP⟩ := hK
  exact xn_icmp_eq iL_law_1126 (fun _ => kk x' m' out hbx' hbm' hP) (fun h => absurd rfl h)
theorem law_c27 {N : Nat} {z : Nat → Int} {Nn rc rs : Nat} {Po : Option (Option Value) → XH → Prop} (i : Nat) (hi : i + 5 ≤ N) (hN : N ≤ 3000) (x : LSt) (m : MS) (out : Nat → Int) (hbx : bdL x) (hbm : bdM m) {Post : LSt → MS → Prop} (hs : sX2_again (z (i + 1)) (z (i + 2)) (z (i + 3)) x (fun v x' => ∃ q, v = [pI q] ∧ sX3_again (z (i + 1)) (z (i + 2)) (z (i + 3)) m (fun w m' => w = [pI q] ∧ Post x' m'))) (kk : ∀ x' m' out', bdL x' → bdM m' → Post x' m' → xn_W (some (N, fun j => iI (z j), xt_E)) Nn mL_law rc rs 1466 (lwL i) [] (encZ x' m' out') Po) : xn_W (some (N, fun j => iI (z j), xt_E)) Nn mL_law rc rs 1131 (lwL i) [] (encZ x m out) Po := by
  refine xn_aload_n iL_law_1131 rfl ?_
  refine lwA (jn := 1) iL_law_1132 iL_law_1133 iL_law_1135 iL_law_1136 iL_law_1137 rfl rfl rfl (by omega) hN ?_
  refine lwA (jn := 2) iL_law_1138 iL_law_1139 iL_law_1141 iL_law_1142 iL_law_1143 rfl rfl rfl (by omega) hN ?_
  refine lwA (jn := 3) iL_law_1144 iL_law_1145 iL_law_1147 iL_law_1148 iL_law_1149 rfl rfl rfl (by omega) hN ?_
  refine lwX (as := [pI (z (i + 1)), pI (z (i + 2)), pI (z (i + 3))]) (rest := []) (K := (fun v x' => ∃ q, v = [pI q] ∧ sX3_again (z (i + 1)) (z (i + 2)) (z (i + 3)) m (fun w m' => w = [pI q] ∧ Post x' m'))) iL_law_1150 vX2_again mX2_again_ok lcl rfl rfl (Nat.le_of_ble_eq_true rfl) hbx hs (fun v x' hK hbx' => ?_)
  obtain ⟨q, rfl, hm⟩ := hK
  refine xn_aload_n iL_law_1153 rfl ?_
  refine lwA (jn := 1) iL_law_1154 iL_law_1155 iL_law_1157 iL_law_1158 iL_law_1159 rfl rfl rfl (by omega) hN ?_
  refine lwA (jn := 2) iL_law_1160 iL_law_1161 iL_law_1163 iL_law_1164 iL_law_1165 rfl rfl rfl (by omega) hN ?_
  refine lwA (jn := 3) iL_law_1166 iL_law_1167 iL_law_1169 iL_law_1170 iL_law_1171 rfl rfl rfl (by omega) hN ?_
  refine lwM (as := [pI (z (i + 1)), pI (z (i + 2)), pI (z (i + 3))]) (rest := [xi q]) (K := (fun w m' => w = [pI q] ∧ Post x' m')) iL_law_1172 vX3_again mX3_again_ok mcl rfl rfl (Nat.le_of_ble_eq_true rfl) hbm hm (fun w m' hK hbm' => ?_)
  obtain ⟨rfl, hP⟩ := hK
  exact xn_icmp_eq iL_law_1175 (fun _ => kk x' m' out hbx' hbm' hP) (fun h => absurd rfl h)
theorem law_c28 {N : Nat} {z : Nat → Int} {Nn rc rs : Nat} {Po : Option (Option Value) → XH → Prop} (i : Nat) (hi : i + 5 ≤ N) (hN : N ≤ 3000) (x : LSt) (m : MS) (out : Nat → Int) (hbx : bdL x) (hbm : bdM m) {Post : LSt → MS → Prop} (hs : sX2_without (z (i + 1)) x (fun v x' => ∃ q, v = [pI q] ∧ sX3_without (z (i + 1)) m (fun w m' => w = [pI q] ∧ Post x' m'))) (kk : ∀ x' m' out', bdL x' → bdM m' → Post x' m' → xn_W (some (N, fun j => iI (z j), xt_E)) Nn mL_law rc rs 1466 (lwL i) [] (encZ x' m' out') Po) : xn_W (some (N, fun j => iI (z j), xt_E)) Nn mL_law rc rs 1180 (lwL i) [] (encZ x m out) Po := by
  refine xn_aload_n iL_law_1180 rfl ?_
  refine lwA (jn := 1) iL_law_1181 iL_law_1182 iL_law_1184 iL_law_1185 iL_law_1186 rfl rfl rfl (by omega) hN ?_
  refine lwX (as := [pI (z (i + 1))]) (rest := []) (K := (fun v x' => ∃ q, v = [pI q] ∧ sX3_without (z (i + 1)) m (fun w m' => w = [pI q] ∧ Post x' m'))) iL_law_1187 vX2_without mX2_without_ok lcl rfl rfl (Nat.le_of_ble_eq_true rfl) hbx hs (fun v x' hK hbx' => ?_)
  obtain ⟨q, rfl, hm⟩ := hK
  refine xn_aload_n iL_law_1190 rfl ?_
  refine lwA (jn := 1) iL_law_1191 iL_law_1192 iL_law_1194 iL_law_1195 iL_law_1196 rfl rfl rfl (by omega) hN ?_
  refine lwM (as := [pI (z (i + 1))]) (rest := [xi q]) (K := (fun w m' => w = [pI q] ∧ Post x' m')) iL_law_1197 vX3_without mX3_without_ok mcl rfl rfl (Nat.le_of_ble_eq_true rfl) hbm hm (fun w m' hK hbm' => ?_)
  obtain ⟨rfl, hP⟩ := hK
  exact xn_icmp_eq iL_law_1200 (fun _ => kk x' m' out hbx' hbm' hP) (fun h => absurd rfl h)
theorem vL_input : wr_V mL_input [(0, 10, 13, 13)] := ⟨cwL_input, stL_input, xl_iL, by decide +kernel, by decide +kernel, by decide +kernel, rfl, rfl⟩
theorem hL_input (x : LSt) (out : Nat → Int) (hbx : bdL x) (a b : Int) (ha : xB a) (hb : xB b) : wr_C mL_input [(0, 10, 13, 13)] [.ref 0, xi a, xi b, .ref 137] (encL x ++ [xL 1 out]) (fun v h' => (∃ q, xb q ∧ (((0 ≤ a ∧ a < wZ (x.2.2 0) 4) ∧ 0 ≤ b ∧ b ≤ 3) ∧ q = wI (fInput x a b)) ∧ v = some (xi 0) ∧ h' = encL x ++ [xL 1 (xup out 0 q)]) ∨ (¬ ((0 ≤ a ∧ a < wZ (x.2.2 0) 4) ∧ 0 ≤ b ∧ b ≤ 3) ∧ v = some (xi 1) ∧ h' = encL x ++ [xL 1 out])) := by
  have g := X2_input_t (K := fun v s' => (((0 ≤ a ∧ a < wZ (x.2.2 0) 4) ∧ 0 ≤ b ∧ b ≤ 3) ∧ v = [pI (fInput x a b)]) ∧ s' = x) (Pt := fun s' => ¬ ((0 ≤ a ∧ a < wZ (x.2.2 0) 4) ∧ 0 ≤ b ∧ b ≤ 3) ∧ s' = x) a b x ha hb (fun h => ⟨h, rfl⟩) (fun h => ⟨⟨h, rfl⟩, rfl⟩)
  rw [wX_lt (by decide)] at g
  have hc := xt_con (As := [.ref 0, xi a, xi b]) kX2_input yX2_input_y rfl (by decide) (by decide) [some (.ref 0), some (xi a), some (xi b)] rfl (Nat.le_of_ble_eq_true rfl) (g hbx)
  refine wr2_con FL_input vX2_input rfl rfl (by decide) a b x out hc (fun v h' q => ?_) (fun h' q => ?_)
  · obtain ⟨v', s', e1, e3, -, -, ⟨hc, rfl⟩, e4⟩ := q
    rw [e4] at e3
    match v, e1 with
    | some w, e1 =>
      have e2 : w = .int (iI (fInput x a b)) := (List.cons.inj e1).1
      subst e2
      exact ⟨wI (fInput x a b), wI_xb _, ⟨hc, rfl⟩, by rw [show xi (wI (fInput x a b)) = Value.int (iI (wI (fInput x a b))) from rfl, wI_iI], e3⟩
  · obtain ⟨s', e3, -, hc, e4⟩ := q
    rw [e4] at e3
    exact ⟨hc, e3⟩
theorem law_c29 {N : Nat} {z : Nat → Int} {Nn rc rs : Nat} {Po : Option (Option Value) → XH → Prop} (i : Nat) (hi : i + 5 ≤ N) (hN : N ≤ 3000) (x : LSt) (m : MS) (out : Nat → Int) (hbx : bdL x) (hbm : bdM m) {Post : LSt → MS → Prop} (hz : ∀ j, xB (z (i + j))) (hs : ((0 ≤ z (i + 1) ∧ z (i + 1) < wZ (x.2.2 0) 4) ∧ 0 ≤ z (i + 2) ∧ z (i + 2) ≤ 3 → sX3_input (z (i + 1)) (z (i + 2)) m (fun w m' => w = [pI (fInput x (z (i + 1)) (z (i + 2)))] ∧ m'.1 0 = 0 ∧ Post x m')) ∧ (¬ ((0 ≤ z (i + 1) ∧ z (i + 1) < wZ (x.2.2 0) 4) ∧ 0 ≤ z (i + 2) ∧ z (i + 2) ≤ 3) → sX3_input (z (i + 1)) (z (i + 2)) m (fun w m' => (∃ q, w = [pI q]) ∧ m'.1 0 = 1 ∧ Post x m'))) (kk : ∀ x' m' out', bdL x' → bdM m' → Post x' m' → xn_W (some (N, fun j => iI (z j), xt_E)) Nn mL_law rc rs 1466 (lwL i) [] (encZ x' m' out') Po) : xn_W (some (N, fun j => iI (z j), xt_E)) Nn mL_law (rc + 1) (rs + 6) 1205 (lwL i) [] (encZ x m out) Po := by
  refine xn_aload_n iL_law_1205 rfl ?_
  refine lwA (jn := 1) iL_law_1206 iL_law_1207 iL_law_1209 iL_law_1210 iL_law_1211 rfl rfl rfl (by omega) hN ?_
  refine lwA (jn := 2) iL_law_1212 iL_law_1213 iL_law_1215 iL_law_1216 iL_law_1217 rfl rfl rfl (by omega) hN ?_
  refine xn_aload_n iL_law_1218 rfl ?_
  refine lwW (As := [.ref 0, xi (z (i + 1)), xi (z (i + 2)), .ref 137]) (rest := []) iL_law_1219 vL_input rfl (Nat.le_of_ble_eq_true rfl) (hL_input x out hbx (z (i + 1)) (z (i + 2)) (hz 1) (hz 2)) (fun q hq hOk => ?_) (fun hbad => ?_)
  · refine xn_istore iL_law_1222 rfl (by decide) ?_
    refine xn_aload_n iL_law_1224 rfl ?_
    refine lwA (jn := 1) iL_law_1225 iL_law_1226 iL_law_1228 iL_law_1229 iL_law_1230 rfl rfl rfl (by omega) hN ?_
    refine lwA (jn := 2) iL_law_1231 iL_law_1232 iL_law_1234 iL_law_1235 iL_law_1236 rfl rfl rfl (by omega) hN ?_
    refine lwM (as := [pI (z (i + 1)), pI (z (i + 2))]) (rest := []) (K := (fun w m' => w = [pI (fInput x (z (i + 1)) (z (i + 2)))] ∧ m'.1 0 = 0 ∧ Post x m')) iL_law_1237 vX3_input mX3_input_ok mcl rfl rfl (Nat.le_of_ble_eq_true rfl) hbm (hs.1 hOk.1) (fun w m' hK hbm' => ?_)
    obtain ⟨rfl, h0, hP⟩ := hK
    refine xn_istore iL_law_1240 rfl (by decide) ?_
    refine xn_aload_n iL_law_1242 rfl ?_
    refine lwM (as := []) (rest := []) (K := fun t m'' => t = [pI (m'.1 0)] ∧ m'' = m') iL_law_1243 vX3_thrown mX3_thrown_ok mcl rfl rfl (Nat.le_of_ble_eq_true rfl) hbm' (fun _ => ⟨rfl, rfl⟩) (fun t m'' hK hbm'' => ?_)
    obtain ⟨rfl, e0⟩ := hK
    rw [e0]
    refine xn_iload iL_law_1246 rfl ?_
    rw [h0]
    refine xn_icmp_eq iL_law_1248 (fun _ => ?_) (fun h => absurd rfl h)
    refine xn_iload iL_law_1253 rfl ?_
    refine xn_if_ne iL_law_1255 (fun h => absurd rfl h) (fun _ => ?_)
    refine xn_aload_n iL_law_1258 rfl ?_
    refine xn_iconst 0 iL_law_1259 rfl ?_
    refine xn_lald (i := 0) iL_law_1260 (atZ _ _ _) (iI_in (z := 0) ⟨by decide, by decide⟩ (by decide) (by decide)) ?_
    refine xn_iload iL_law_1261 rfl ?_
    refine xn_i2l iL_law_1263 ?_
    refine xn_lcmp iL_law_1264 ?_
    have e9 : lg_cmp (lI (xup out 0 q 0)) ((iI (fInput x (z (i + 1)) (z (i + 2)))).toInt64) = 0 := by rw [xup_0, hOk.2, wI_long]; exact lg_cmp0 _
    refine xn_if_eq iL_law_1265 (fun _ => ?_) (fun h => absurd e9 h)
    refine xn_goto iL_law_1270 ?_
    exact xn_weak lwk (kk x m' _ hbx hbm' hP)
  · refine xn_istore iL_law_1222 rfl (by decide) ?_
    refine xn_aload_n iL_law_1224 rfl ?_
    refine lwA (jn := 1) iL_law_1225 iL_law_1226 iL_law_1228 iL_law_1229 iL_law_1230 rfl rfl rfl (by omega) hN ?_
    refine lwA (jn := 2) iL_law_1231 iL_law_1232 iL_law_1234 iL_law_1235 iL_law_1236 rfl rfl rfl (by omega) hN ?_
    refine lwM (as := [pI (z (i + 1)), pI (z (i + 2))]) (rest := []) (K := (fun w m' => (∃ q, w = [pI q]) ∧ m'.1 0 = 1 ∧ Post x m')) iL_law_1237 vX3_input mX3_input_ok mcl rfl rfl (Nat.le_of_ble_eq_true rfl) hbm (hs.2 hbad) (fun w m' hK hbm' => ?_)
    obtain ⟨⟨q2, rfl⟩, h0, hP⟩ := hK
    refine xn_istore iL_law_1240 rfl (by decide) ?_
    refine xn_aload_n iL_law_1242 rfl ?_
    refine lwM (as := []) (rest := []) (K := fun t m'' => t = [pI (m'.1 0)] ∧ m'' = m') iL_law_1243 vX3_thrown mX3_thrown_ok mcl rfl rfl (Nat.le_of_ble_eq_true rfl) hbm' (fun _ => ⟨rfl, rfl⟩) (fun t m'' hK hbm'' => ?_)
    obtain ⟨rfl, e0⟩ := hK
    rw [e0]
    refine xn_iload iL_law_1246 rfl ?_
    rw [h0]
    refine xn_icmp_eq iL_law_1248 (fun _ => ?_) (fun h => absurd rfl h)
    refine xn_iload iL_law_1253 rfl ?_
    exact xn_if_ne iL_law_1255 (fun _ => xn_goto iL_law_1270 (xn_weak lwk (kk x m' _ hbx hbm' hP))) (fun h => absurd h (by decide))
theorem law_c30 {N : Nat} {z : Nat → Int} {Nn rc rs : Nat} {Po : Option (Option Value) → XH → Prop} (i : Nat) (hi : i + 5 ≤ N) (hN : N ≤ 3000) (x : LSt) (m : MS) (out : Nat → Int) (hbx : bdL x) (hbm : bdM m) {Post : LSt → MS → Prop} (hs : sX2_day0 x (fun v x' => ∃ q, v = [pI q] ∧ sX3_day0 m (fun w m' => w = [pI q] ∧ Post x' m'))) (kk : ∀ x' m' out', bdL x' → bdM m' → Post x' m' → xn_W (some (N, fun j => iI (z j), xt_E)) Nn mL_law rc rs 1466 (lwL i) [] (encZ x' m' out') Po) : xn_W (some (N, fun j => iI (z j), xt_E)) Nn mL_law rc rs 1273 (lwL i) [] (encZ x m out) Po := by
  refine xn_aload_n iL_law_1273 rfl ?_
  refine lwX (as := []) (rest := []) (K := (fun v x' => ∃ q, v = [pI q] ∧ sX3_day0  m (fun w m' => w = [pI q] ∧ Post x' m'))) iL_law_1274 vX2_day mX2_day_ok0 lcl rfl rfl (Nat.le_of_ble_eq_true rfl) hbx hs (fun v x' hK hbx' => ?_)
  obtain ⟨q, rfl, hm⟩ := hK
  refine xn_aload_n iL_law_1277 rfl ?_
  refine lwM (as := []) (rest := [xi q]) (K := (fun w m' => w = [pI q] ∧ Post x' m')) iL_law_1278 vX3_day mX3_day_ok0 mcl rfl rfl (Nat.le_of_ble_eq_true rfl) hbm hm (fun w m' hK hbm' => ?_)
  obtain ⟨rfl, hP⟩ := hK
  exact xn_icmp_eq iL_law_1281 (fun _ => kk x' m' out hbx' hbm' hP) (fun h => absurd rfl h)
theorem law_c31 {N : Nat} {z : Nat → Int} {Nn rc rs : Nat} {Po : Option (Option Value) → XH → Prop} (i : Nat) (hi : i + 5 ≤ N) (hN : N ≤ 3000) (x : LSt) (m : MS) (out : Nat → Int) (hbx : bdL x) (hbm : bdM m) {Post : LSt → MS → Prop} (hs : sX2_undo x (fun v x' => ∃ q, v = [pI q] ∧ sX3_undo m (fun w m' => w = [pI q] ∧ Post x' m'))) (kk : ∀ x' m' out', bdL x' → bdM m' → Post x' m' → xn_W (some (N, fun j => iI (z j), xt_E)) Nn mL_law rc rs 1466 (lwL i) [] (encZ x' m' out') Po) : xn_W (some (N, fun j => iI (z j), xt_E)) Nn mL_law rc rs 1286 (lwL i) [] (encZ x m out) Po := by
  refine xn_aload_n iL_law_1286 rfl ?_
  refine lwX (as := []) (rest := []) (K := (fun v x' => ∃ q, v = [pI q] ∧ sX3_undo  m (fun w m' => w = [pI q] ∧ Post x' m'))) iL_law_1287 vX2_undo mX2_undo_ok lcl rfl rfl (Nat.le_of_ble_eq_true rfl) hbx hs (fun v x' hK hbx' => ?_)
  obtain ⟨q, rfl, hm⟩ := hK
  refine xn_aload_n iL_law_1290 rfl ?_
  refine lwM (as := []) (rest := [xi q]) (K := (fun w m' => w = [pI q] ∧ Post x' m')) iL_law_1291 vX3_undo mX3_undo_ok mcl rfl rfl (Nat.le_of_ble_eq_true rfl) hbm hm (fun w m' hK hbm' => ?_)
  obtain ⟨rfl, hP⟩ := hK
  exact xn_icmp_eq iL_law_1294 (fun _ => kk x' m' out hbx' hbm' hP) (fun h => absurd rfl h)
theorem law_c32 {N : Nat} {z : Nat → Int} {Nn rc rs : Nat} {Po : Option (Option Value) → XH → Prop} (i : Nat) (hi : i + 5 ≤ N) (hN : N ≤ 3000) (x : LSt) (m : MS) (out : Nat → Int) (hbx : bdL x) (hbm : bdM m) {Post : LSt → MS → Prop} (hs : sX2_years (z (i + 1)) (z (i + 2)) x (fun v x' => ∃ q, v = [pI q] ∧ sX3_years (z (i + 1)) (z (i + 2)) m (fun w m' => w = [pI q] ∧ Post x' m'))) (kk : ∀ x' m' out', bdL x' → bdM m' → Post x' m' → xn_W (some (N, fun j => iI (z j), xt_E)) Nn mL_law rc rs 1466 (lwL i) [] (encZ x' m' out') Po) : xn_W (some (N, fun j => iI (z j), xt_E)) Nn mL_law rc rs 1299 (lwL i) [] (encZ x m out) Po := by
  refine xn_aload_n iL_law_1299 rfl ?_
  refine lwA (jn := 1) iL_law_1300 iL_law_1301 iL_law_1303 iL_law_1304 iL_law_1305 rfl rfl rfl (by omega) hN ?_
  refine lwA (jn := 2) iL_law_1306 iL_law_1307 iL_law_1309 iL_law_1310 iL_law_1311 rfl rfl rfl (by omega) hN ?_
  refine lwX (as := [pI (z (i + 1)), pI (z (i + 2))]) (rest := []) (K := (fun v x' => ∃ q, v = [pI q] ∧ sX3_years (z (i + 1)) (z (i + 2)) m (fun w m' => w = [pI q] ∧ Post x' m'))) iL_law_1312 vX2_years mX2_years_ok lcl rfl rfl (Nat.le_of_ble_eq_true rfl) hbx hs (fun v x' hK hbx' => ?_)
  obtain ⟨q, rfl, hm⟩ := hK
  refine xn_aload_n iL_law_1315 rfl ?_
  refine lwA (jn := 1) iL_law_1316 iL_law_1317 iL_law_1319 iL_law_1320 iL_law_1321 rfl rfl rfl (by omega) hN ?_
  refine lwA (jn := 2) iL_law_1322 iL_law_1323 iL_law_1325 iL_law_1326 iL_law_1327 rfl rfl rfl (by omega) hN ?_
  refine lwM (as := [pI (z (i + 1)), pI (z (i + 2))]) (rest := [xi q]) (K := (fun w m' => w = [pI q] ∧ Post x' m')) iL_law_1328 vX3_years mX3_years_ok mcl rfl rfl (Nat.le_of_ble_eq_true rfl) hbm hm (fun w m' hK hbm' => ?_)
  obtain ⟨rfl, hP⟩ := hK
  exact xn_icmp_eq iL_law_1331 (fun _ => kk x' m' out hbx' hbm' hP) (fun h => absurd rfl h)
theorem law_c33 {N : Nat} {z : Nat → Int} {Nn rc rs : Nat} {Po : Option (Option Value) → XH → Prop} (i : Nat) (hi : i + 5 ≤ N) (hN : N ≤ 3000) (x : LSt) (m : MS) (out : Nat → Int) (hbx : bdL x) (hbm : bdM m) {Post : LSt → MS → Prop} (hs : sX2_keep (z (i + 1)) x (fun v x' => ∃ q, v = [pI q] ∧ sX3_keep (z (i + 1)) m (fun w m' => w = [pI q] ∧ Post x' m'))) (kk : ∀ x' m' out', bdL x' → bdM m' → Post x' m' → xn_W (some (N, fun j => iI (z j), xt_E)) Nn mL_law rc rs 1466 (lwL i) [] (encZ x' m' out') Po) : xn_W (some (N, fun j => iI (z j), xt_E)) Nn mL_law rc rs 1336 (lwL i) [] (encZ x m out) Po := by
  refine xn_aload_n iL_law_1336 rfl ?_
  refine lwA (jn := 1) iL_law_1337 iL_law_1338 iL_law_1340 iL_law_1341 iL_law_1342 rfl rfl rfl (by omega) hN ?_
  refine lwX (as := [pI (z (i + 1))]) (rest := []) (K := (fun v x' => ∃ q, v = [pI q] ∧ sX3_keep (z (i + 1)) m (fun w m' => w = [pI q] ∧ Post x' m'))) iL_law_1343 vX2_keep mX2_keep_ok lcl rfl rfl (Nat.le_of_ble_eq_true rfl) hbx hs (fun v x' hK hbx' => ?_)
  obtain ⟨q, rfl, hm⟩ := hK
  refine xn_aload_n iL_law_1346 rfl ?_
  refine lwA (jn := 1) iL_law_1347 iL_law_1348 iL_law_1350 iL_law_1351 iL_law_1352 rfl rfl rfl (by omega) hN ?_
  refine lwM (as := [pI (z (i + 1))]) (rest := [xi q]) (K := (fun w m' => w = [pI q] ∧ Post x' m')) iL_law_1353 vX3_keep mX3_keep_ok mcl rfl rfl (Nat.le_of_ble_eq_true rfl) hbm hm (fun w m' hK hbm' => ?_)
  obtain ⟨rfl, hP⟩ := hK
  exact xn_icmp_eq iL_law_1356 (fun _ => kk x' m' out hbx' hbm' hP) (fun h => absurd rfl h)
theorem law_c34 {N : Nat} {z : Nat → Int} {Nn rc rs : Nat} {Po : Option (Option Value) → XH → Prop} (i : Nat) (hi : i + 5 ≤ N) (hN : N ≤ 3000) (x : LSt) (m : MS) (out : Nat → Int) (hbx : bdL x) (hbm : bdM m) {Post : LSt → MS → Prop} (hs : sX2_back (z (i + 1)) x (fun v x' => ∃ q, v = [pI q] ∧ sX3_back (z (i + 1)) m (fun w m' => w = [pI q] ∧ Post x' m'))) (kk : ∀ x' m' out', bdL x' → bdM m' → Post x' m' → xn_W (some (N, fun j => iI (z j), xt_E)) Nn mL_law rc rs 1466 (lwL i) [] (encZ x' m' out') Po) : xn_W (some (N, fun j => iI (z j), xt_E)) Nn mL_law rc rs 1361 (lwL i) [] (encZ x m out) Po := by
  refine xn_aload_n iL_law_1361 rfl ?_
  refine lwA (jn := 1) iL_law_1362 iL_law_1363 iL_law_1365 iL_law_1366 iL_law_1367 rfl rfl rfl (by omega) hN ?_
  refine lwX (as := [pI (z (i + 1))]) (rest := []) (K := (fun v x' => ∃ q, v = [pI q] ∧ sX3_back (z (i + 1)) m (fun w m' => w = [pI q] ∧ Post x' m'))) iL_law_1368 vX2_back mX2_back_ok lcl rfl rfl (Nat.le_of_ble_eq_true rfl) hbx hs (fun v x' hK hbx' => ?_)
  obtain ⟨q, rfl, hm⟩ := hK
  refine xn_aload_n iL_law_1371 rfl ?_
  refine lwA (jn := 1) iL_law_1372 iL_law_1373 iL_law_1375 iL_law_1376 iL_law_1377 rfl rfl rfl (by omega) hN ?_
  refine lwM (as := [pI (z (i + 1))]) (rest := [xi q]) (K := (fun w m' => w = [pI q] ∧ Post x' m')) iL_law_1378 vX3_back mX3_back_ok mcl rfl rfl (Nat.le_of_ble_eq_true rfl) hbm hm (fun w m' hK hbm' => ?_)
  obtain ⟨rfl, hP⟩ := hK
  exact xn_icmp_eq iL_law_1381 (fun _ => kk x' m' out hbx' hbm' hP) (fun h => absurd rfl h)
theorem law_c35 {N : Nat} {z : Nat → Int} {Nn rc rs : Nat} {Po : Option (Option Value) → XH → Prop} (i : Nat) (hi : i + 5 ≤ N) (hN : N ≤ 3000) (x : LSt) (m : MS) (out : Nat → Int) (hbx : bdL x) (hbm : bdM m) {Post : LSt → MS → Prop} (hs : sX2_count (z (i + 1)) x (fun v x' => ∃ q, v = [pI q] ∧ sX3_count (z (i + 1)) m (fun w m' => w = [pI q] ∧ Post x' m'))) (kk : ∀ x' m' out', bdL x' → bdM m' → Post x' m' → xn_W (some (N, fun j => iI (z j), xt_E)) Nn mL_law rc rs 1466 (lwL i) [] (encZ x' m' out') Po) : xn_W (some (N, fun j => iI (z j), xt_E)) Nn mL_law rc rs 1386 (lwL i) [] (encZ x m out) Po := by
  refine xn_aload_n iL_law_1386 rfl ?_
  refine lwA (jn := 1) iL_law_1387 iL_law_1388 iL_law_1390 iL_law_1391 iL_law_1392 rfl rfl rfl (by omega) hN ?_
  refine lwX (as := [pI (z (i + 1))]) (rest := []) (K := (fun v x' => ∃ q, v = [pI q] ∧ sX3_count (z (i + 1)) m (fun w m' => w = [pI q] ∧ Post x' m'))) iL_law_1393 vX2_count mX2_count_ok lcl rfl rfl (Nat.le_of_ble_eq_true rfl) hbx hs (fun v x' hK hbx' => ?_)
  obtain ⟨q, rfl, hm⟩ := hK
  refine xn_aload_n iL_law_1396 rfl ?_
  refine lwA (jn := 1) iL_law_1397 iL_law_1398 iL_law_1400 iL_law_1401 iL_law_1402 rfl rfl rfl (by omega) hN ?_
  refine lwM (as := [pI (z (i + 1))]) (rest := [xi q]) (K := (fun w m' => w = [pI q] ∧ Post x' m')) iL_law_1403 vX3_count mX3_count_ok mcl rfl rfl (Nat.le_of_ble_eq_true rfl) hbm hm (fun w m' hK hbm' => ?_)
  obtain ⟨rfl, hP⟩ := hK
  exact xn_icmp_eq iL_law_1406 (fun _ => kk x' m' out hbx' hbm' hP) (fun h => absurd rfl h)
theorem vL_row : wr_V mL_row [(0, 8, 11, 13)] := ⟨cwL_row, stL_row, xl_iL, by decide +kernel, by decide +kernel, by decide +kernel, rfl, rfl⟩
theorem hL_row (x : LSt) (out : Nat → Int) (hbx : bdL x) (a : Int) (ha : xB a) : wr_C mL_row [(0, 8, 11, 13)] [.ref 0, xi a, .ref 137] (encL x ++ [xL 1 out]) (fun v h' => (∃ q, xb q ∧ ((0 ≤ a ∧ a < x.1 3 ∧ a < 6) ∧ q = fRow x a) ∧ v = some (xi 0) ∧ h' = encL x ++ [xL 1 (xup out 0 q)]) ∨ (¬ (0 ≤ a ∧ a < x.1 3 ∧ a < 6) ∧ v = some (xi 1) ∧ h' = encL x ++ [xL 1 out])) := by
  have g := X2_row_t (K := fun v s' => ((0 ≤ a ∧ a < x.1 3 ∧ a < 6) ∧ v = [pJ (fRow x a)]) ∧ s' = x) (Pt := fun s' => ¬ (0 ≤ a ∧ a < x.1 3 ∧ a < 6) ∧ s' = x) a x ha (fun h => ⟨h, rfl⟩) (fun h => ⟨⟨h, rfl⟩, rfl⟩)
  rw [wX_lt (by decide)] at g
  have hc := xt_con (As := [.ref 0, xi a]) kX2_row yX2_row_y rfl (by decide) (by decide) [some (.ref 0), some (xi a)] rfl (Nat.le_of_ble_eq_true rfl) (g hbx)
  refine wr1_con FL_row vX2_row rfl rfl (by decide) a x out hc (fun v h' q => ?_) (fun h' q => ?_)
  · obtain ⟨v', s', e1, e3, -, -, ⟨hc, rfl⟩, e4⟩ := q
    rw [e4] at e3
    match v, e1 with
    | some w, e1 =>
      have e2 : w = .long (lI (fRow x a)) := (List.cons.inj e1).1
      subst e2
      exact ⟨fRow x a, hbx.2.1 _ _, ⟨hc, rfl⟩, rfl, e3⟩
  · obtain ⟨s', e3, -, hc, e4⟩ := q
    rw [e4] at e3
    exact ⟨hc, e3⟩
theorem law_c36 {N : Nat} {z : Nat → Int} {Nn rc rs : Nat} {Po : Option (Option Value) → XH → Prop} (i : Nat) (hi : i + 5 ≤ N) (hN : N ≤ 3000) (x : LSt) (m : MS) (out : Nat → Int) (hbx : bdL x) (hbm : bdM m) {Post : LSt → MS → Prop} (hz : ∀ j, xB (z (i + j))) (hs : (0 ≤ z (i + 1) ∧ z (i + 1) < x.1 3 ∧ z (i + 1) < 6 → sX3_row (z (i + 1)) m (fun w m' => w = [.inr (.inl (fRow x (z (i + 1))))] ∧ m'.1 0 = 0 ∧ Post x m')) ∧ (¬ (0 ≤ z (i + 1) ∧ z (i + 1) < x.1 3 ∧ z (i + 1) < 6) → sX3_row (z (i + 1)) m (fun w m' => (∃ q, w = [pJ q]) ∧ m'.1 0 = 1 ∧ Post x m'))) (kk : ∀ x' m' out', bdL x' → bdM m' → Post x' m' → xn_W (some (N, fun j => iI (z j), xt_E)) Nn mL_law rc rs 1466 (lwL i) [] (encZ x' m' out') Po) : xn_W (some (N, fun j => iI (z j), xt_E)) Nn mL_law (rc + 1) (rs + 6) 1411 (lwL i) [] (encZ x m out) Po := by
  refine xn_aload_n iL_law_1411 rfl ?_
  refine lwA (jn := 1) iL_law_1412 iL_law_1413 iL_law_1415 iL_law_1416 iL_law_1417 rfl rfl rfl (by omega) hN ?_
  refine xn_aload_n iL_law_1418 rfl ?_
  refine lwW (As := [.ref 0, xi (z (i + 1)), .ref 137]) (rest := []) iL_law_1419 vL_row rfl (Nat.le_of_ble_eq_true rfl) (hL_row x out hbx (z (i + 1)) (hz 1)) (fun q hq hOk => ?_) (fun hbad => ?_)
  · refine xn_istore iL_law_1422 rfl (by decide) ?_
    refine xn_aload_n iL_law_1424 rfl ?_
    refine lwA (jn := 1) iL_law_1425 iL_law_1426 iL_law_1428 iL_law_1429 iL_law_1430 rfl rfl rfl (by omega) hN ?_
    refine lwM (as := [pI (z (i + 1))]) (rest := []) (K := (fun w m' => w = [.inr (.inl (fRow x (z (i + 1))))] ∧ m'.1 0 = 0 ∧ Post x m')) iL_law_1431 vX3_row mX3_row_ok mcl rfl rfl (Nat.le_of_ble_eq_true rfl) hbm (hs.1 hOk.1) (fun w m' hK hbm' => ?_)
    obtain ⟨rfl, h0, hP⟩ := hK
    refine xn_lstore iL_law_1434 rfl (by decide) ?_
    refine xn_aload_n iL_law_1436 rfl ?_
    refine lwM (as := []) (rest := []) (K := fun t m'' => t = [pI (m'.1 0)] ∧ m'' = m') iL_law_1437 vX3_thrown mX3_thrown_ok mcl rfl rfl (Nat.le_of_ble_eq_true rfl) hbm' (fun _ => ⟨rfl, rfl⟩) (fun t m'' hK hbm'' => ?_)
    obtain ⟨rfl, e0⟩ := hK
    rw [e0]
    refine xn_iload iL_law_1440 rfl ?_
    rw [h0]
    refine xn_icmp_eq iL_law_1442 (fun _ => ?_) (fun h => absurd rfl h)
    refine xn_iload iL_law_1447 rfl ?_
    refine xn_if_ne iL_law_1449 (fun h => absurd rfl h) (fun _ => ?_)
    refine xn_aload_n iL_law_1452 rfl ?_
    refine xn_iconst 0 iL_law_1453 rfl ?_
    refine xn_lald (i := 0) iL_law_1454 (atZ _ _ _) (iI_in (z := 0) ⟨by decide, by decide⟩ (by decide) (by decide)) ?_
    refine xn_lload iL_law_1455 rfl ?_
    refine xn_lcmp iL_law_1457 ?_
    have e9 : lg_cmp (lI (xup out 0 q 0)) (lI (fRow x (z (i + 1)))) = 0 := by rw [xup_0, hOk.2]; exact lg_cmp0 _
    refine xn_if_eq iL_law_1458 (fun _ => ?_) (fun h => absurd e9 h)
    refine xn_goto iL_law_1463 ?_
    exact xn_weak lwk (kk x m' _ hbx hbm' hP)
  · refine xn_istore iL_law_1422 rfl (by decide) ?_
    refine xn_aload_n iL_law_1424 rfl ?_
    refine lwA (jn := 1) iL_law_1425 iL_law_1426 iL_law_1428 iL_law_1429 iL_law_1430 rfl rfl rfl (by omega) hN ?_
    refine lwM (as := [pI (z (i + 1))]) (rest := []) (K := (fun w m' => (∃ q, w = [pJ q]) ∧ m'.1 0 = 1 ∧ Post x m')) iL_law_1431 vX3_row mX3_row_ok mcl rfl rfl (Nat.le_of_ble_eq_true rfl) hbm (hs.2 hbad) (fun w m' hK hbm' => ?_)
    obtain ⟨⟨q2, rfl⟩, h0, hP⟩ := hK
    refine xn_lstore iL_law_1434 rfl (by decide) ?_
    refine xn_aload_n iL_law_1436 rfl ?_
    refine lwM (as := []) (rest := []) (K := fun t m'' => t = [pI (m'.1 0)] ∧ m'' = m') iL_law_1437 vX3_thrown mX3_thrown_ok mcl rfl rfl (Nat.le_of_ble_eq_true rfl) hbm' (fun _ => ⟨rfl, rfl⟩) (fun t m'' hK hbm'' => ?_)
    obtain ⟨rfl, e0⟩ := hK
    rw [e0]
    refine xn_iload iL_law_1440 rfl ?_
    rw [h0]
    refine xn_icmp_eq iL_law_1442 (fun _ => ?_) (fun h => absurd rfl h)
    refine xn_iload iL_law_1447 rfl ?_
    exact xn_if_ne iL_law_1449 (fun _ => xn_goto iL_law_1463 (xn_weak lwk (kk x m' _ hbx hbm' hP))) (fun h => absurd h (by decide))
