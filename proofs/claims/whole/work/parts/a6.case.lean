/-! the law, case by case -/
section QK
variable {p : Program} {l : Launch} {e : Env} {s : State} {m : MethodId} {below : List Frame} {meth : Method} {c : Code} {H : Heap} {locs : List Loc} {Q : State → Prop} {b L : Nat} {xs : Nat → Int32} {D : va_G} {cI cL : ClassId} {adK adV : Nat → Nat} {w : Option Nat} {tA : Nat → Nat} {μ ν μ1 ν1 : z_M} {ls : Array Slot} {pc : Nat} {S st : List Value}

theorem q_callCi {d nL n index : Nat} {yn : MethodName} {cc : ByteArray} {ret : Option FieldType} {As : List Value} {Gf : Option (Int32 × z_M)} {r1 : Int32} (C : q_C p s m c b L xs D cI cL adK adV w tA) (I : q_I s D cI cL μ ν H locs) (hSp : z_S (q_Ec D cI cL s.heap.size adK adV w) d yn cc nL ret z_ei (.ref (s.heap.size + 0) :: As) μ Gf) (hG : Gf = some (r1, μ1)) (hM : z_MW yn cc nL ret) (hV : z_MV yn) (hlink : Cond.methodLink RL index yn ∈ z_tbl) (hn : (parseMethodDescriptor yn.desc).map (fun d => d.parameters.length) = some n) (hnA : As.length = n) (hrc : z_Recv (q_Ec D cI cL s.heap.size adK adV w) yn.cls (s.heap.size + 0) μ) (hst : st = As.reverse ++ .ref (s.heap.size + 0) :: S) (hcat : (S.map fun v => v.category).sum ≤ 8) (hd' : d ≤ 100) (hnL : nL ≤ 40) (hls : ls.size = 4)
    (hd : decode code pc = .ok (.invokevirtual index, 3)) (k : ∀ (H1 : Heap) (locs1 : List Loc), q_I s D cI cL μ1 ν H1 locs1 → W p l e room_1 s m #[Value.ref b] below meth c H1 locs1 77 4398 Q (F0 m (pc + 3) ls (.int r1 :: S))) : W p l e room_1 s m #[Value.ref b] below meth c H locs 77 4398 Q (F0 m pc ls st) :=
  q_callC C I hSp hG hM hV hlink hn hnA hrc hst hcat hd' hnL hls hd k
theorem q_callCl {d nL n index : Nat} {yn : MethodName} {cc : ByteArray} {ret : Option FieldType} {As : List Value} {Gf : Option (Int64 × z_M)} {r1 : Int64} (C : q_C p s m c b L xs D cI cL adK adV w tA) (I : q_I s D cI cL μ ν H locs) (hSp : z_S (q_Ec D cI cL s.heap.size adK adV w) d yn cc nL ret z_el (.ref (s.heap.size + 0) :: As) μ Gf) (hG : Gf = some (r1, μ1)) (hM : z_MW yn cc nL ret) (hV : z_MV yn) (hlink : Cond.methodLink RL index yn ∈ z_tbl) (hn : (parseMethodDescriptor yn.desc).map (fun d => d.parameters.length) = some n) (hnA : As.length = n) (hrc : z_Recv (q_Ec D cI cL s.heap.size adK adV w) yn.cls (s.heap.size + 0) μ) (hst : st = As.reverse ++ .ref (s.heap.size + 0) :: S) (hcat : (S.map fun v => v.category).sum ≤ 8) (hd' : d ≤ 100) (hnL : nL ≤ 40) (hls : ls.size = 4)
    (hd : decode code pc = .ok (.invokevirtual index, 3)) (k : ∀ (H1 : Heap) (locs1 : List Loc), q_I s D cI cL μ1 ν H1 locs1 → W p l e room_1 s m #[Value.ref b] below meth c H1 locs1 77 4398 Q (F0 m (pc + 3) ls (.long r1 :: S))) : W p l e room_1 s m #[Value.ref b] below meth c H locs 77 4398 Q (F0 m pc ls st) :=
  q_callC C I hSp hG hM hV hlink hn hnA hrc hst hcat hd' hnL hls hd k
theorem q_callMi {d nL n index : Nat} {yn : MethodName} {cc : ByteArray} {ret : Option FieldType} {As : List Value} {Gf : Option (Int32 × z_M)} {r1 : Int32} (C : q_C p s m c b L xs D cI cL adK adV w tA) (I : q_I s D cI cL μ ν H locs) (hSp : z_S (q_Em D cI cL s.heap.size tA) d yn cc nL ret z_ei (.ref (s.heap.size + 50 + 0) :: As) ν Gf) (hG : Gf = some (r1, ν1)) (hM : z_MW yn cc nL ret) (hV : z_MV yn) (hlink : Cond.methodLink RL index yn ∈ z_tbl) (hn : (parseMethodDescriptor yn.desc).map (fun d => d.parameters.length) = some n) (hnA : As.length = n) (hrc : z_Recv (q_Em D cI cL s.heap.size tA) yn.cls (s.heap.size + 50 + 0) ν) (hst : st = As.reverse ++ .ref (s.heap.size + 50 + 0) :: S) (hcat : (S.map fun v => v.category).sum ≤ 8) (hd' : d ≤ 100) (hnL : nL ≤ 40) (hls : ls.size = 4)
    (hd : decode code pc = .ok (.invokevirtual index, 3)) (k : ∀ (H1 : Heap) (locs1 : List Loc), q_I s D cI cL μ ν1 H1 locs1 → W p l e room_1 s m #[Value.ref b] below meth c H1 locs1 77 4398 Q (F0 m (pc + 3) ls (.int r1 :: S))) : W p l e room_1 s m #[Value.ref b] below meth c H locs 77 4398 Q (F0 m pc ls st) :=
  q_callM C I hSp hG hM hV hlink hn hnA hrc hst hcat hd' hnL hls hd k
theorem q_callMl {d nL n index : Nat} {yn : MethodName} {cc : ByteArray} {ret : Option FieldType} {As : List Value} {Gf : Option (Int64 × z_M)} {r1 : Int64} (C : q_C p s m c b L xs D cI cL adK adV w tA) (I : q_I s D cI cL μ ν H locs) (hSp : z_S (q_Em D cI cL s.heap.size tA) d yn cc nL ret z_el (.ref (s.heap.size + 50 + 0) :: As) ν Gf) (hG : Gf = some (r1, ν1)) (hM : z_MW yn cc nL ret) (hV : z_MV yn) (hlink : Cond.methodLink RL index yn ∈ z_tbl) (hn : (parseMethodDescriptor yn.desc).map (fun d => d.parameters.length) = some n) (hnA : As.length = n) (hrc : z_Recv (q_Em D cI cL s.heap.size tA) yn.cls (s.heap.size + 50 + 0) ν) (hst : st = As.reverse ++ .ref (s.heap.size + 50 + 0) :: S) (hcat : (S.map fun v => v.category).sum ≤ 8) (hd' : d ≤ 100) (hnL : nL ≤ 40) (hls : ls.size = 4)
    (hd : decode code pc = .ok (.invokevirtual index, 3)) (k : ∀ (H1 : Heap) (locs1 : List Loc), q_I s D cI cL μ ν1 H1 locs1 → W p l e room_1 s m #[Value.ref b] below meth c H1 locs1 77 4398 Q (F0 m (pc + 3) ls (.long r1 :: S))) : W p l e room_1 s m #[Value.ref b] below meth c H locs 77 4398 Q (F0 m pc ls st) :=
  q_callM C I hSp hG hM hV hlink hn hnA hrc hst hcat hd' hnL hls hd k
end QK
section QK
variable {p : Program} {l : Launch} {e : Env} {s : State} {m : MethodId} {below : List Frame} {meth : Method} {c : Code} {H : Heap} {locs : List Loc} {Q : State → Prop} {b L : Nat} {xs : Nat → Int32} {D : va_G} {cI cL : ClassId} {adK adV : Nat → Nat} {w : Option Nat} {tA : Nat → Nat} {μ ν μ1 ν1 : z_M} {ls : Array Slot} {pc : Nat} {S st : List Value}

theorem w_L_0 (C : q_C p s m c b L xs D cI cL adK adV w tA) (I : q_I s D cI cL μ ν H locs) {i N : Nat} (hi : i + 6 ≤ L) (hN : 0 < N) (hN2 : N ≤ 2 ^ 30) (R : Rr N μ ν) (hl : lv_has ls 4 [(0, .ref b), (1, .ref (s.heap.size + 0)), (2, .ref (s.heap.size + 50 + 0)), (3, .int (nI i))]) (K : ∀ (H1 : Heap) (locs1 : List Loc) (μ1 ν1 : z_M), q_I s D cI cL μ1 ν1 H1 locs1 → Rr (N + 41) μ1 ν1 → W p l e room_1 s m #[Value.ref b] below meth c H1 locs1 77 4398 Q (F0 m 1721 ls [])) : W p l e room_1 s m #[Value.ref b] below meth c H locs 77 4398 Q (F0 m 228 ls []) := by
  have hx := C.1.1
  have hb := C.1.2.1
  obtain ⟨r, μ1, ν1, ⟨n, hc⟩, ⟨n', hm⟩, R1⟩ := ag_row R ((xs (i + 1))) ((xs (i + 2))) ((xs (i + 3)))
  refine lv_aload_n hx hb dL_law_228 rfl (lv_at hl 1 rfl) ?_
  refine q_arg (k := 1) C I.2.2 hl hi (by decide) (by decide) dL_law_229 dL_law_230 dL_law_231 dL_law_232 dL_law_233 ?_
  refine q_arg (k := 2) C I.2.2 hl hi (by decide) (by decide) dL_law_234 dL_law_235 dL_law_236 dL_law_237 dL_law_238 ?_
  refine q_arg (k := 3) C I.2.2 hl hi (by decide) (by decide) dL_law_239 dL_law_240 dL_law_241 dL_law_242 dL_law_243 ?_
  refine q_callCi (As := [.int (xs (i + 1)), .int (xs (i + 2)), .int (xs (i + 3))]) (S := []) C I (c_X8_row (D := D) (cI := cI) (cL := cL) (b := s.heap.size) (Z := q_Zc s.heap.size adK adV w) n ((xs (i + 1))) ((xs (i + 2))) ((xs (i + 3))) μ) hc zw_X8_row zv_X8_row zm_L_13 (n := 3) (by decide) rfl (z_recv gc_0 (T := TX8) (N := 11) rfl) rfl (Nat.le_of_ble_eq_true rfl) (by decide) (by decide) hl.1 dL_law_244 (fun H1 locs1 I1 => ?_)
  refine lv_aload_n hx hb dL_law_247 rfl (lv_at hl 2 rfl) ?_
  refine q_arg (k := 1) C I1.2.2 hl hi (by decide) (by decide) dL_law_248 dL_law_249 dL_law_250 dL_law_251 dL_law_252 ?_
  refine q_arg (k := 2) C I1.2.2 hl hi (by decide) (by decide) dL_law_253 dL_law_254 dL_law_255 dL_law_256 dL_law_257 ?_
  refine q_arg (k := 3) C I1.2.2 hl hi (by decide) (by decide) dL_law_258 dL_law_259 dL_law_260 dL_law_261 dL_law_262 ?_
  refine q_callMi (As := [.int (xs (i + 1)), .int (xs (i + 2)), .int (xs (i + 3))]) (S := [.int r]) C I1 (c_X9_row (D := D) (cI := cI) (cL := cL) (b := s.heap.size + 50) (Z := q_Zm s.heap.size tA) n' ((xs (i + 1))) ((xs (i + 2))) ((xs (i + 3))) ν) hm zw_X9_row zv_X9_row zm_L_17 (n := 3) (by decide) rfl (z_recv gm_0 (T := TX9) (N := 52) rfl) rfl (Nat.le_of_ble_eq_true rfl) (by decide) (by decide) hl.1 dL_law_263 (fun H2 locs2 I2 => ?_)
  exact lv_icmp_eq hx hb (tgt := 1721) dL_law_266 (by decide) (fun _ => K _ _ _ _ I2 (R1.mono (by omega))) (fun h => absurd rfl h)
theorem w_L_1 (C : q_C p s m c b L xs D cI cL adK adV w tA) (I : q_I s D cI cL μ ν H locs) {i N : Nat} (hi : i + 6 ≤ L) (hN : 0 < N) (hN2 : N ≤ 2 ^ 30) (R : Rr N μ ν) (hl : lv_has ls 4 [(0, .ref b), (1, .ref (s.heap.size + 0)), (2, .ref (s.heap.size + 50 + 0)), (3, .int (nI i))]) (K : ∀ (H1 : Heap) (locs1 : List Loc) (μ1 ν1 : z_M), q_I s D cI cL μ1 ν1 H1 locs1 → Rr (N + 41) μ1 ν1 → W p l e room_1 s m #[Value.ref b] below meth c H1 locs1 77 4398 Q (F0 m 1721 ls [])) : W p l e room_1 s m #[Value.ref b] below meth c H locs 77 4398 Q (F0 m 271 ls []) := by
  have hx := C.1.1
  have hb := C.1.2.1
  obtain ⟨r, μ1, ν1, ⟨n, hc⟩, ⟨n', hm⟩, R1⟩ := ag_set R ((xs (i + 1))) ((xs (i + 2))) (((((xs (i + 3)).toInt64) <<< (((32 : Int32)).toInt64 &&& 63)) ||| (((xs (i + 4)).toInt64) &&& 4294967295)))
  refine lv_aload_n hx hb dL_law_271 rfl (lv_at hl 1 rfl) ?_
  refine q_arg (k := 1) C I.2.2 hl hi (by decide) (by decide) dL_law_272 dL_law_273 dL_law_274 dL_law_275 dL_law_276 ?_
  refine q_arg (k := 2) C I.2.2 hl hi (by decide) (by decide) dL_law_277 dL_law_278 dL_law_279 dL_law_280 dL_law_281 ?_
  refine q_arg (k := 3) C I.2.2 hl hi (by decide) (by decide) dL_law_282 dL_law_283 dL_law_284 dL_law_285 dL_law_286 ?_
  refine lv_i2l hx hb dL_law_287 rfl ?_
  refine lv_bipush hx hb dL_law_288 zcb_32 ?_
  refine lv_lshl hx hb dL_law_290 rfl ?_
  refine q_arg (k := 4) C I.2.2 hl hi (by decide) (by decide) dL_law_291 dL_law_292 dL_law_293 dL_law_294 dL_law_295 ?_
  refine lv_i2l hx hb dL_law_296 rfl ?_
  refine lv_ldc2 hx hb C.1.2.2.2.1 (C.1.2.2.2.2 _ zc_L_18) dL_law_297 ?_
  refine lv_land hx hb dL_law_300 ?_
  refine lv_lor hx hb dL_law_301 ?_
  refine q_callCi (As := [.int (xs (i + 1)), .int (xs (i + 2)), .long ((((xs (i + 3)).toInt64) <<< (((32 : Int32)).toInt64 &&& 63)) ||| (((xs (i + 4)).toInt64) &&& 4294967295))]) (S := []) C I (c_X8_set (D := D) (cI := cI) (cL := cL) (b := s.heap.size) (Z := q_Zc s.heap.size adK adV w) ((xs (i + 1))) ((xs (i + 2))) (((((xs (i + 3)).toInt64) <<< (((32 : Int32)).toInt64 &&& 63)) ||| (((xs (i + 4)).toInt64) &&& 4294967295))) μ) hc zw_X8_set zv_X8_set zm_L_20 (n := 3) (by decide) rfl (z_recv gc_0 (T := TX8) (N := 11) rfl) rfl (Nat.le_of_ble_eq_true rfl) (by decide) (by decide) hl.1 dL_law_302 (fun H1 locs1 I1 => ?_)
  refine lv_aload_n hx hb dL_law_305 rfl (lv_at hl 2 rfl) ?_
  refine q_arg (k := 1) C I1.2.2 hl hi (by decide) (by decide) dL_law_306 dL_law_307 dL_law_308 dL_law_309 dL_law_310 ?_
  refine q_arg (k := 2) C I1.2.2 hl hi (by decide) (by decide) dL_law_311 dL_law_312 dL_law_313 dL_law_314 dL_law_315 ?_
  refine q_arg (k := 3) C I1.2.2 hl hi (by decide) (by decide) dL_law_316 dL_law_317 dL_law_318 dL_law_319 dL_law_320 ?_
  refine lv_i2l hx hb dL_law_321 rfl ?_
  refine lv_bipush hx hb dL_law_322 zcb_32 ?_
  refine lv_lshl hx hb dL_law_324 rfl ?_
  refine q_arg (k := 4) C I1.2.2 hl hi (by decide) (by decide) dL_law_325 dL_law_326 dL_law_327 dL_law_328 dL_law_329 ?_
  refine lv_i2l hx hb dL_law_330 rfl ?_
  refine lv_ldc2 hx hb C.1.2.2.2.1 (C.1.2.2.2.2 _ zc_L_18) dL_law_331 ?_
  refine lv_land hx hb dL_law_334 ?_
  refine lv_lor hx hb dL_law_335 ?_
  refine q_callMi (As := [.int (xs (i + 1)), .int (xs (i + 2)), .long ((((xs (i + 3)).toInt64) <<< (((32 : Int32)).toInt64 &&& 63)) ||| (((xs (i + 4)).toInt64) &&& 4294967295))]) (S := [.int r]) C I1 (c_X9_set (D := D) (cI := cI) (cL := cL) (b := s.heap.size + 50) (Z := q_Zm s.heap.size tA) ((xs (i + 1))) ((xs (i + 2))) (((((xs (i + 3)).toInt64) <<< (((32 : Int32)).toInt64 &&& 63)) ||| (((xs (i + 4)).toInt64) &&& 4294967295))) ν) hm zw_X9_set zv_X9_set zm_L_24 (n := 3) (by decide) rfl (z_recv gm_0 (T := TX9) (N := 52) rfl) rfl (Nat.le_of_ble_eq_true rfl) (by decide) (by decide) hl.1 dL_law_336 (fun H2 locs2 I2 => ?_)
  exact lv_icmp_eq hx hb (tgt := 1721) dL_law_339 (by decide) (fun _ => K _ _ _ _ I2 (R1.mono (by omega))) (fun h => absurd rfl h)
theorem w_L_2 (C : q_C p s m c b L xs D cI cL adK adV w tA) (I : q_I s D cI cL μ ν H locs) {i N : Nat} (hi : i + 6 ≤ L) (hN : 0 < N) (hN2 : N ≤ 2 ^ 30) (R : Rr N μ ν) (hl : lv_has ls 4 [(0, .ref b), (1, .ref (s.heap.size + 0)), (2, .ref (s.heap.size + 50 + 0)), (3, .int (nI i))]) (K : ∀ (H1 : Heap) (locs1 : List Loc) (μ1 ν1 : z_M), q_I s D cI cL μ1 ν1 H1 locs1 → Rr (N + 41) μ1 ν1 → W p l e room_1 s m #[Value.ref b] below meth c H1 locs1 77 4398 Q (F0 m 1721 ls [])) : W p l e room_1 s m #[Value.ref b] below meth c H locs 77 4398 Q (F0 m 344 ls []) := by
  have hx := C.1.1
  have hb := C.1.2.1
  obtain ⟨r, μ1, ν1, ⟨n, hc⟩, ⟨n', hm⟩, R1⟩ := ag_copy R ((xs (i + 1))) ((xs (i + 2))) ((xs (i + 3))) ((xs (i + 4))) ((xs (i + 5)))
  refine lv_aload_n hx hb dL_law_344 rfl (lv_at hl 1 rfl) ?_
  refine q_arg (k := 1) C I.2.2 hl hi (by decide) (by decide) dL_law_345 dL_law_346 dL_law_347 dL_law_348 dL_law_349 ?_
  refine q_arg (k := 2) C I.2.2 hl hi (by decide) (by decide) dL_law_350 dL_law_351 dL_law_352 dL_law_353 dL_law_354 ?_
  refine q_arg (k := 3) C I.2.2 hl hi (by decide) (by decide) dL_law_355 dL_law_356 dL_law_357 dL_law_358 dL_law_359 ?_
  refine q_arg (k := 4) C I.2.2 hl hi (by decide) (by decide) dL_law_360 dL_law_361 dL_law_362 dL_law_363 dL_law_364 ?_
  refine q_arg (k := 5) C I.2.2 hl hi (by decide) (by decide) dL_law_365 dL_law_366 dL_law_367 dL_law_368 dL_law_369 ?_
  refine q_callCi (As := [.int (xs (i + 1)), .int (xs (i + 2)), .int (xs (i + 3)), .int (xs (i + 4)), .int (xs (i + 5))]) (S := []) C I (c_X8_copy (D := D) (cI := cI) (cL := cL) (b := s.heap.size) (Z := q_Zc s.heap.size adK adV w) ((xs (i + 1))) ((xs (i + 2))) ((xs (i + 3))) ((xs (i + 4))) ((xs (i + 5))) μ) hc zw_X8_copy zv_X8_copy zm_L_25 (n := 5) (by decide) rfl (z_recv gc_0 (T := TX8) (N := 11) rfl) rfl (Nat.le_of_ble_eq_true rfl) (by decide) (by decide) hl.1 dL_law_370 (fun H1 locs1 I1 => ?_)
  refine lv_aload_n hx hb dL_law_373 rfl (lv_at hl 2 rfl) ?_
  refine q_arg (k := 1) C I1.2.2 hl hi (by decide) (by decide) dL_law_374 dL_law_375 dL_law_376 dL_law_377 dL_law_378 ?_
  refine q_arg (k := 2) C I1.2.2 hl hi (by decide) (by decide) dL_law_379 dL_law_380 dL_law_381 dL_law_382 dL_law_383 ?_
  refine q_arg (k := 3) C I1.2.2 hl hi (by decide) (by decide) dL_law_384 dL_law_385 dL_law_386 dL_law_387 dL_law_388 ?_
  refine q_arg (k := 4) C I1.2.2 hl hi (by decide) (by decide) dL_law_389 dL_law_390 dL_law_391 dL_law_392 dL_law_393 ?_
  refine q_arg (k := 5) C I1.2.2 hl hi (by decide) (by decide) dL_law_394 dL_law_395 dL_law_396 dL_law_397 dL_law_398 ?_
  refine q_callMi (As := [.int (xs (i + 1)), .int (xs (i + 2)), .int (xs (i + 3)), .int (xs (i + 4)), .int (xs (i + 5))]) (S := [.int r]) C I1 (c_X9_copy (D := D) (cI := cI) (cL := cL) (b := s.heap.size + 50) (Z := q_Zm s.heap.size tA) n' ((xs (i + 1))) ((xs (i + 2))) ((xs (i + 3))) ((xs (i + 4))) ((xs (i + 5))) ν) hm zw_X9_copy zv_X9_copy zm_L_29 (n := 5) (by decide) rfl (z_recv gm_0 (T := TX9) (N := 52) rfl) rfl (Nat.le_of_ble_eq_true rfl) (by decide) (by decide) hl.1 dL_law_399 (fun H2 locs2 I2 => ?_)
  exact lv_icmp_eq hx hb (tgt := 1721) dL_law_402 (by decide) (fun _ => K _ _ _ _ I2 (R1.mono (by omega))) (fun h => absurd rfl h)
theorem w_L_3 (C : q_C p s m c b L xs D cI cL adK adV w tA) (I : q_I s D cI cL μ ν H locs) {i N : Nat} (hi : i + 6 ≤ L) (hN : 0 < N) (hN2 : N ≤ 2 ^ 30) (R : Rr N μ ν) (hl : lv_has ls 4 [(0, .ref b), (1, .ref (s.heap.size + 0)), (2, .ref (s.heap.size + 50 + 0)), (3, .int (nI i))]) (K : ∀ (H1 : Heap) (locs1 : List Loc) (μ1 ν1 : z_M), q_I s D cI cL μ1 ν1 H1 locs1 → Rr (N + 41) μ1 ν1 → W p l e room_1 s m #[Value.ref b] below meth c H1 locs1 77 4398 Q (F0 m 1721 ls [])) : W p l e room_1 s m #[Value.ref b] below meth c H locs 77 4398 Q (F0 m 407 ls []) := by
  have hx := C.1.1
  have hb := C.1.2.1
  obtain ⟨r, μ1, ν1, ⟨n, hc⟩, ⟨n', hm⟩, R1⟩ := ag_element R ((xs (i + 1))) ((xs (i + 2)))
  refine lv_aload_n hx hb dL_law_407 rfl (lv_at hl 1 rfl) ?_
  refine q_arg (k := 1) C I.2.2 hl hi (by decide) (by decide) dL_law_408 dL_law_409 dL_law_410 dL_law_411 dL_law_412 ?_
  refine q_arg (k := 2) C I.2.2 hl hi (by decide) (by decide) dL_law_413 dL_law_414 dL_law_415 dL_law_416 dL_law_417 ?_
  refine q_callCl (As := [.int (xs (i + 1)), .int (xs (i + 2))]) (S := []) C I (c_X8_element (D := D) (cI := cI) (cL := cL) (b := s.heap.size) (Z := q_Zc s.heap.size adK adV w) ((xs (i + 1))) ((xs (i + 2))) μ) hc zw_X8_element zv_X8_element zm_L_30 (n := 2) (by decide) rfl (z_recv gc_0 (T := TX8) (N := 11) rfl) rfl (Nat.le_of_ble_eq_true rfl) (by decide) (by decide) hl.1 dL_law_418 (fun H1 locs1 I1 => ?_)
  refine lv_aload_n hx hb dL_law_421 rfl (lv_at hl 2 rfl) ?_
  refine q_arg (k := 1) C I1.2.2 hl hi (by decide) (by decide) dL_law_422 dL_law_423 dL_law_424 dL_law_425 dL_law_426 ?_
  refine q_arg (k := 2) C I1.2.2 hl hi (by decide) (by decide) dL_law_427 dL_law_428 dL_law_429 dL_law_430 dL_law_431 ?_
  refine q_callMl (As := [.int (xs (i + 1)), .int (xs (i + 2))]) (S := [.long r]) C I1 (c_X9_element (D := D) (cI := cI) (cL := cL) (b := s.heap.size + 50) (Z := q_Zm s.heap.size tA) ((xs (i + 1))) ((xs (i + 2))) ν) hm zw_X9_element zv_X9_element zm_L_34 (n := 2) (by decide) rfl (z_recv gm_0 (T := TX9) (N := 52) rfl) rfl (Nat.le_of_ble_eq_true rfl) (by decide) (by decide) hl.1 dL_law_432 (fun H2 locs2 I2 => ?_)
  refine W.lcmp hx hb dL_law_435 ?_
  rw [lg_same]
  exact lv_if_eq hx hb (tgt := 1721) dL_law_436 (by decide) (fun _ => K _ _ _ _ I2 (R1.mono (by omega))) (fun h => absurd rfl h)
theorem w_L_4 (C : q_C p s m c b L xs D cI cL adK adV w tA) (I : q_I s D cI cL μ ν H locs) {i N : Nat} (hi : i + 6 ≤ L) (hN : 0 < N) (hN2 : N ≤ 2 ^ 30) (R : Rr N μ ν) (hl : lv_has ls 4 [(0, .ref b), (1, .ref (s.heap.size + 0)), (2, .ref (s.heap.size + 50 + 0)), (3, .int (nI i))]) (K : ∀ (H1 : Heap) (locs1 : List Loc) (μ1 ν1 : z_M), q_I s D cI cL μ1 ν1 H1 locs1 → Rr (N + 41) μ1 ν1 → W p l e room_1 s m #[Value.ref b] below meth c H1 locs1 77 4398 Q (F0 m 1721 ls [])) : W p l e room_1 s m #[Value.ref b] below meth c H locs 77 4398 Q (F0 m 441 ls []) := by
  have hx := C.1.1
  have hb := C.1.2.1
  obtain ⟨r, μ1, ν1, ⟨n, hc⟩, ⟨n', hm⟩, R1⟩ := ag_show R ((xs (i + 1))) ((xs (i + 2)))
  refine lv_aload_n hx hb dL_law_441 rfl (lv_at hl 1 rfl) ?_
  refine q_arg (k := 1) C I.2.2 hl hi (by decide) (by decide) dL_law_442 dL_law_443 dL_law_444 dL_law_445 dL_law_446 ?_
  refine q_arg (k := 2) C I.2.2 hl hi (by decide) (by decide) dL_law_447 dL_law_448 dL_law_449 dL_law_450 dL_law_451 ?_
  refine q_callCi (As := [.int (xs (i + 1)), .int (xs (i + 2))]) (S := []) C I (c_X8_show (D := D) (cI := cI) (cL := cL) (b := s.heap.size) (Z := q_Zc s.heap.size adK adV w) ((xs (i + 1))) ((xs (i + 2))) μ) hc zw_X8_show zv_X8_show zm_L_35 (n := 2) (by decide) rfl (z_recv gc_0 (T := TX8) (N := 11) rfl) rfl (Nat.le_of_ble_eq_true rfl) (by decide) (by decide) hl.1 dL_law_452 (fun H1 locs1 I1 => ?_)
  refine lv_aload_n hx hb dL_law_455 rfl (lv_at hl 2 rfl) ?_
  refine q_arg (k := 1) C I1.2.2 hl hi (by decide) (by decide) dL_law_456 dL_law_457 dL_law_458 dL_law_459 dL_law_460 ?_
  refine q_arg (k := 2) C I1.2.2 hl hi (by decide) (by decide) dL_law_461 dL_law_462 dL_law_463 dL_law_464 dL_law_465 ?_
  refine q_callMi (As := [.int (xs (i + 1)), .int (xs (i + 2))]) (S := [.int r]) C I1 (c_X9_show (D := D) (cI := cI) (cL := cL) (b := s.heap.size + 50) (Z := q_Zm s.heap.size tA) ((xs (i + 1))) ((xs (i + 2))) ν) hm zw_X9_show zv_X9_show zm_L_39 (n := 2) (by decide) rfl (z_recv gm_0 (T := TX9) (N := 52) rfl) rfl (Nat.le_of_ble_eq_true rfl) (by decide) (by decide) hl.1 dL_law_466 (fun H2 locs2 I2 => ?_)
  exact lv_icmp_eq hx hb (tgt := 1721) dL_law_469 (by decide) (fun _ => K _ _ _ _ I2 (R1.mono (by omega))) (fun h => absurd rfl h)
theorem w_L_5 (C : q_C p s m c b L xs D cI cL adK adV w tA) (I : q_I s D cI cL μ ν H locs) {i N : Nat} (hi : i + 6 ≤ L) (hN : 0 < N) (hN2 : N ≤ 2 ^ 30) (R : Rr N μ ν) (hl : lv_has ls 4 [(0, .ref b), (1, .ref (s.heap.size + 0)), (2, .ref (s.heap.size + 50 + 0)), (3, .int (nI i))]) (K : ∀ (H1 : Heap) (locs1 : List Loc) (μ1 ν1 : z_M), q_I s D cI cL μ1 ν1 H1 locs1 → Rr (N + 41) μ1 ν1 → W p l e room_1 s m #[Value.ref b] below meth c H1 locs1 77 4398 Q (F0 m 1721 ls [])) : W p l e room_1 s m #[Value.ref b] below meth c H locs 77 4398 Q (F0 m 474 ls []) := by
  have hx := C.1.1
  have hb := C.1.2.1
  obtain ⟨r, μ1, ν1, ⟨n, hc⟩, ⟨n', hm⟩, R1⟩ := ag_holds R ((xs (i + 1)))
  refine lv_aload_n hx hb dL_law_474 rfl (lv_at hl 1 rfl) ?_
  refine q_arg (k := 1) C I.2.2 hl hi (by decide) (by decide) dL_law_475 dL_law_476 dL_law_477 dL_law_478 dL_law_479 ?_
  refine q_callCi (As := [.int (xs (i + 1))]) (S := []) C I (c_X8_holds (D := D) (cI := cI) (cL := cL) (b := s.heap.size) (Z := q_Zc s.heap.size adK adV w) ((xs (i + 1))) μ) hc zw_X8_holds zv_X8_holds zm_L_40 (n := 1) (by decide) rfl (z_recv gc_0 (T := TX8) (N := 11) rfl) rfl (Nat.le_of_ble_eq_true rfl) (by decide) (by decide) hl.1 dL_law_480 (fun H1 locs1 I1 => ?_)
  refine lv_aload_n hx hb dL_law_483 rfl (lv_at hl 2 rfl) ?_
  refine q_arg (k := 1) C I1.2.2 hl hi (by decide) (by decide) dL_law_484 dL_law_485 dL_law_486 dL_law_487 dL_law_488 ?_
  refine q_callMi (As := [.int (xs (i + 1))]) (S := [.int r]) C I1 (c_X9_holds (D := D) (cI := cI) (cL := cL) (b := s.heap.size + 50) (Z := q_Zm s.heap.size tA) ((xs (i + 1))) ν) hm zw_X9_holds zv_X9_holds zm_L_44 (n := 1) (by decide) rfl (z_recv gm_0 (T := TX9) (N := 52) rfl) rfl (Nat.le_of_ble_eq_true rfl) (by decide) (by decide) hl.1 dL_law_489 (fun H2 locs2 I2 => ?_)
  exact lv_icmp_eq hx hb (tgt := 1721) dL_law_492 (by decide) (fun _ => K _ _ _ _ I2 (R1.mono (by omega))) (fun h => absurd rfl h)
theorem w_L_6 (C : q_C p s m c b L xs D cI cL adK adV w tA) (I : q_I s D cI cL μ ν H locs) {i N : Nat} (hi : i + 6 ≤ L) (hN : 0 < N) (hN2 : N ≤ 2 ^ 30) (R : Rr N μ ν) (hl : lv_has ls 4 [(0, .ref b), (1, .ref (s.heap.size + 0)), (2, .ref (s.heap.size + 50 + 0)), (3, .int (nI i))]) (K : ∀ (H1 : Heap) (locs1 : List Loc) (μ1 ν1 : z_M), q_I s D cI cL μ1 ν1 H1 locs1 → Rr (N + 41) μ1 ν1 → W p l e room_1 s m #[Value.ref b] below meth c H1 locs1 77 4398 Q (F0 m 1721 ls [])) : W p l e room_1 s m #[Value.ref b] below meth c H locs 77 4398 Q (F0 m 497 ls []) := by
  have hx := C.1.1
  have hb := C.1.2.1
  obtain ⟨r, μ1, ν1, ⟨n, hc⟩, ⟨n', hm⟩, R1⟩ := ag_says R hN2 ((xs (i + 1))) ((xs (i + 2)))
  refine lv_aload_n hx hb dL_law_497 rfl (lv_at hl 1 rfl) ?_
  refine q_arg (k := 1) C I.2.2 hl hi (by decide) (by decide) dL_law_498 dL_law_499 dL_law_500 dL_law_501 dL_law_502 ?_
  refine q_arg (k := 2) C I.2.2 hl hi (by decide) (by decide) dL_law_503 dL_law_504 dL_law_505 dL_law_506 dL_law_507 ?_
  refine q_callCi (As := [.int (xs (i + 1)), .int (xs (i + 2))]) (S := []) C I (c_X8_says (D := D) (cI := cI) (cL := cL) (b := s.heap.size) (Z := q_Zc s.heap.size adK adV w) ((xs (i + 1))) ((xs (i + 2))) μ) hc zw_X8_says zv_X8_says zm_L_45 (n := 2) (by decide) rfl (z_recv gc_0 (T := TX8) (N := 11) rfl) rfl (Nat.le_of_ble_eq_true rfl) (by decide) (by decide) hl.1 dL_law_508 (fun H1 locs1 I1 => ?_)
  refine lv_aload_n hx hb dL_law_511 rfl (lv_at hl 2 rfl) ?_
  refine q_arg (k := 1) C I1.2.2 hl hi (by decide) (by decide) dL_law_512 dL_law_513 dL_law_514 dL_law_515 dL_law_516 ?_
  refine q_arg (k := 2) C I1.2.2 hl hi (by decide) (by decide) dL_law_517 dL_law_518 dL_law_519 dL_law_520 dL_law_521 ?_
  refine q_callMi (As := [.int (xs (i + 1)), .int (xs (i + 2))]) (S := [.int r]) C I1 (c_X9_says (D := D) (cI := cI) (cL := cL) (b := s.heap.size + 50) (Z := q_Zm s.heap.size tA) ((xs (i + 1))) ((xs (i + 2))) ν) hm zw_X9_says zv_X9_says zm_L_48 (n := 2) (by decide) rfl (z_recv gm_0 (T := TX9) (N := 52) rfl) rfl (Nat.le_of_ble_eq_true rfl) (by decide) (by decide) hl.1 dL_law_522 (fun H2 locs2 I2 => ?_)
  exact lv_icmp_eq hx hb (tgt := 1721) dL_law_525 (by decide) (fun _ => K _ _ _ _ I2 (R1.mono (by omega))) (fun h => absurd rfl h)
theorem w_L_7 (C : q_C p s m c b L xs D cI cL adK adV w tA) (I : q_I s D cI cL μ ν H locs) {i N : Nat} (hi : i + 6 ≤ L) (hN : 0 < N) (hN2 : N ≤ 2 ^ 30) (R : Rr N μ ν) (hl : lv_has ls 4 [(0, .ref b), (1, .ref (s.heap.size + 0)), (2, .ref (s.heap.size + 50 + 0)), (3, .int (nI i))]) (K : ∀ (H1 : Heap) (locs1 : List Loc) (μ1 ν1 : z_M), q_I s D cI cL μ1 ν1 H1 locs1 → Rr (N + 41) μ1 ν1 → W p l e room_1 s m #[Value.ref b] below meth c H1 locs1 77 4398 Q (F0 m 1721 ls [])) : W p l e room_1 s m #[Value.ref b] below meth c H locs 77 4398 Q (F0 m 530 ls []) := by
  have hx := C.1.1
  have hb := C.1.2.1
  obtain ⟨r, μ1, ν1, ⟨n, hc⟩, ⟨n', hm⟩, R1⟩ := ag_house R hN ((xs (i + 1))) ((xs (i + 2))) ((xs (i + 3)))
  refine lv_aload_n hx hb dL_law_530 rfl (lv_at hl 1 rfl) ?_
  refine q_arg (k := 1) C I.2.2 hl hi (by decide) (by decide) dL_law_531 dL_law_532 dL_law_533 dL_law_534 dL_law_535 ?_
  refine q_arg (k := 2) C I.2.2 hl hi (by decide) (by decide) dL_law_536 dL_law_537 dL_law_538 dL_law_539 dL_law_540 ?_
  refine q_arg (k := 3) C I.2.2 hl hi (by decide) (by decide) dL_law_541 dL_law_542 dL_law_543 dL_law_544 dL_law_545 ?_
  refine q_callCi (As := [.int (xs (i + 1)), .int (xs (i + 2)), .int (xs (i + 3))]) (S := []) C I (c_X8_house (D := D) (cI := cI) (cL := cL) (b := s.heap.size) (Z := q_Zc s.heap.size adK adV w) ((xs (i + 1))) ((xs (i + 2))) ((xs (i + 3))) μ) hc zw_X8_house zv_X8_house zm_L_49 (n := 3) (by decide) rfl (z_recv gc_0 (T := TX8) (N := 11) rfl) rfl (Nat.le_of_ble_eq_true rfl) (by decide) (by decide) hl.1 dL_law_546 (fun H1 locs1 I1 => ?_)
  refine lv_aload_n hx hb dL_law_549 rfl (lv_at hl 2 rfl) ?_
  refine q_arg (k := 1) C I1.2.2 hl hi (by decide) (by decide) dL_law_550 dL_law_551 dL_law_552 dL_law_553 dL_law_554 ?_
  refine q_arg (k := 2) C I1.2.2 hl hi (by decide) (by decide) dL_law_555 dL_law_556 dL_law_557 dL_law_558 dL_law_559 ?_
  refine q_arg (k := 3) C I1.2.2 hl hi (by decide) (by decide) dL_law_560 dL_law_561 dL_law_562 dL_law_563 dL_law_564 ?_
  refine q_callMi (As := [.int (xs (i + 1)), .int (xs (i + 2)), .int (xs (i + 3))]) (S := [.int r]) C I1 (c_X9_house (D := D) (cI := cI) (cL := cL) (b := s.heap.size + 50) (Z := q_Zm s.heap.size tA) ((xs (i + 1))) ((xs (i + 2))) ((xs (i + 3))) ν) hm zw_X9_house zv_X9_house zm_L_52 (n := 3) (by decide) rfl (z_recv gm_0 (T := TX9) (N := 52) rfl) rfl (Nat.le_of_ble_eq_true rfl) (by decide) (by decide) hl.1 dL_law_565 (fun H2 locs2 I2 => ?_)
  exact lv_icmp_eq hx hb (tgt := 1721) dL_law_568 (by decide) (fun _ => K _ _ _ _ I2 (R1.mono (by omega))) (fun h => absurd rfl h)
theorem w_L_8 (C : q_C p s m c b L xs D cI cL adK adV w tA) (I : q_I s D cI cL μ ν H locs) {i N : Nat} (hi : i + 6 ≤ L) (hN : 0 < N) (hN2 : N ≤ 2 ^ 30) (R : Rr N μ ν) (hl : lv_has ls 4 [(0, .ref b), (1, .ref (s.heap.size + 0)), (2, .ref (s.heap.size + 50 + 0)), (3, .int (nI i))]) (K : ∀ (H1 : Heap) (locs1 : List Loc) (μ1 ν1 : z_M), q_I s D cI cL μ1 ν1 H1 locs1 → Rr (N + 41) μ1 ν1 → W p l e room_1 s m #[Value.ref b] below meth c H1 locs1 77 4398 Q (F0 m 1721 ls [])) : W p l e room_1 s m #[Value.ref b] below meth c H locs 77 4398 Q (F0 m 573 ls []) := by
  have hx := C.1.1
  have hb := C.1.2.1
  obtain ⟨r, μ1, ν1, ⟨n, hc⟩, ⟨n', hm⟩, R1⟩ := ag_way R ((xs (i + 1))) ((xs (i + 2))) ((xs (i + 3)))
  refine lv_aload_n hx hb dL_law_573 rfl (lv_at hl 1 rfl) ?_
  refine q_arg (k := 1) C I.2.2 hl hi (by decide) (by decide) dL_law_574 dL_law_575 dL_law_576 dL_law_577 dL_law_578 ?_
  refine q_arg (k := 2) C I.2.2 hl hi (by decide) (by decide) dL_law_579 dL_law_580 dL_law_581 dL_law_582 dL_law_583 ?_
  refine q_arg (k := 3) C I.2.2 hl hi (by decide) (by decide) dL_law_584 dL_law_585 dL_law_586 dL_law_587 dL_law_588 ?_
  refine q_callCi (As := [.int (xs (i + 1)), .int (xs (i + 2)), .int (xs (i + 3))]) (S := []) C I (c_X8_way (D := D) (cI := cI) (cL := cL) (b := s.heap.size) (Z := q_Zc s.heap.size adK adV w) ((xs (i + 1))) ((xs (i + 2))) ((xs (i + 3))) μ) hc zw_X8_way zv_X8_way zm_L_53 (n := 3) (by decide) rfl (z_recv gc_0 (T := TX8) (N := 11) rfl) rfl (Nat.le_of_ble_eq_true rfl) (by decide) (by decide) hl.1 dL_law_589 (fun H1 locs1 I1 => ?_)
  refine lv_aload_n hx hb dL_law_592 rfl (lv_at hl 2 rfl) ?_
  refine q_arg (k := 1) C I1.2.2 hl hi (by decide) (by decide) dL_law_593 dL_law_594 dL_law_595 dL_law_596 dL_law_597 ?_
  refine q_arg (k := 2) C I1.2.2 hl hi (by decide) (by decide) dL_law_598 dL_law_599 dL_law_600 dL_law_601 dL_law_602 ?_
  refine q_arg (k := 3) C I1.2.2 hl hi (by decide) (by decide) dL_law_603 dL_law_604 dL_law_605 dL_law_606 dL_law_607 ?_
  refine q_callMi (As := [.int (xs (i + 1)), .int (xs (i + 2)), .int (xs (i + 3))]) (S := [.int r]) C I1 (c_X9_way (D := D) (cI := cI) (cL := cL) (b := s.heap.size + 50) (Z := q_Zm s.heap.size tA) ((xs (i + 1))) ((xs (i + 2))) ((xs (i + 3))) ν) hm zw_X9_way zv_X9_way zm_L_56 (n := 3) (by decide) rfl (z_recv gm_0 (T := TX9) (N := 52) rfl) rfl (Nat.le_of_ble_eq_true rfl) (by decide) (by decide) hl.1 dL_law_608 (fun H2 locs2 I2 => ?_)
  exact lv_icmp_eq hx hb (tgt := 1721) dL_law_611 (by decide) (fun _ => K _ _ _ _ I2 (R1.mono (by omega))) (fun h => absurd rfl h)
theorem w_L_9 (C : q_C p s m c b L xs D cI cL adK adV w tA) (I : q_I s D cI cL μ ν H locs) {i N : Nat} (hi : i + 6 ≤ L) (hN : 0 < N) (hN2 : N ≤ 2 ^ 30) (R : Rr N μ ν) (hl : lv_has ls 4 [(0, .ref b), (1, .ref (s.heap.size + 0)), (2, .ref (s.heap.size + 50 + 0)), (3, .int (nI i))]) (K : ∀ (H1 : Heap) (locs1 : List Loc) (μ1 ν1 : z_M), q_I s D cI cL μ1 ν1 H1 locs1 → Rr (N + 41) μ1 ν1 → W p l e room_1 s m #[Value.ref b] below meth c H1 locs1 77 4398 Q (F0 m 1721 ls [])) : W p l e room_1 s m #[Value.ref b] below meth c H locs 77 4398 Q (F0 m 616 ls []) := by
  have hx := C.1.1
  have hb := C.1.2.1
  obtain ⟨r, μ1, ν1, ⟨n, hc⟩, ⟨n', hm⟩, R1⟩ := ag_ways R ((xs (i + 1))) ((xs (i + 2))) ((xs (i + 3)))
  refine lv_aload_n hx hb dL_law_616 rfl (lv_at hl 1 rfl) ?_
  refine q_arg (k := 1) C I.2.2 hl hi (by decide) (by decide) dL_law_617 dL_law_618 dL_law_619 dL_law_620 dL_law_621 ?_
  refine q_arg (k := 2) C I.2.2 hl hi (by decide) (by decide) dL_law_622 dL_law_623 dL_law_624 dL_law_625 dL_law_626 ?_
  refine q_arg (k := 3) C I.2.2 hl hi (by decide) (by decide) dL_law_627 dL_law_628 dL_law_629 dL_law_630 dL_law_631 ?_
  refine q_callCi (As := [.int (xs (i + 1)), .int (xs (i + 2)), .int (xs (i + 3))]) (S := []) C I (c_X8_ways (D := D) (cI := cI) (cL := cL) (b := s.heap.size) (Z := q_Zc s.heap.size adK adV w) n ((xs (i + 1))) ((xs (i + 2))) ((xs (i + 3))) μ) hc zw_X8_ways zv_X8_ways zm_L_57 (n := 3) (by decide) rfl (z_recv gc_0 (T := TX8) (N := 11) rfl) rfl (Nat.le_of_ble_eq_true rfl) (by decide) (by decide) hl.1 dL_law_632 (fun H1 locs1 I1 => ?_)
  refine lv_aload_n hx hb dL_law_635 rfl (lv_at hl 2 rfl) ?_
  refine q_arg (k := 1) C I1.2.2 hl hi (by decide) (by decide) dL_law_636 dL_law_637 dL_law_638 dL_law_639 dL_law_640 ?_
  refine q_arg (k := 2) C I1.2.2 hl hi (by decide) (by decide) dL_law_641 dL_law_642 dL_law_643 dL_law_644 dL_law_645 ?_
  refine q_arg (k := 3) C I1.2.2 hl hi (by decide) (by decide) dL_law_646 dL_law_647 dL_law_648 dL_law_649 dL_law_650 ?_
  refine q_callMi (As := [.int (xs (i + 1)), .int (xs (i + 2)), .int (xs (i + 3))]) (S := [.int r]) C I1 (c_X9_ways (D := D) (cI := cI) (cL := cL) (b := s.heap.size + 50) (Z := q_Zm s.heap.size tA) n' ((xs (i + 1))) ((xs (i + 2))) ((xs (i + 3))) ν) hm zw_X9_ways zv_X9_ways zm_L_60 (n := 3) (by decide) rfl (z_recv gm_0 (T := TX9) (N := 52) rfl) rfl (Nat.le_of_ble_eq_true rfl) (by decide) (by decide) hl.1 dL_law_651 (fun H2 locs2 I2 => ?_)
  exact lv_icmp_eq hx hb (tgt := 1721) dL_law_654 (by decide) (fun _ => K _ _ _ _ I2 (R1.mono (by omega))) (fun h => absurd rfl h)
theorem w_L_10 (C : q_C p s m c b L xs D cI cL adK adV w tA) (I : q_I s D cI cL μ ν H locs) {i N : Nat} (hi : i + 6 ≤ L) (hN : 0 < N) (hN2 : N ≤ 2 ^ 30) (R : Rr N μ ν) (hl : lv_has ls 4 [(0, .ref b), (1, .ref (s.heap.size + 0)), (2, .ref (s.heap.size + 50 + 0)), (3, .int (nI i))]) (K : ∀ (H1 : Heap) (locs1 : List Loc) (μ1 ν1 : z_M), q_I s D cI cL μ1 ν1 H1 locs1 → Rr (N + 41) μ1 ν1 → W p l e room_1 s m #[Value.ref b] below meth c H1 locs1 77 4398 Q (F0 m 1721 ls [])) : W p l e room_1 s m #[Value.ref b] below meth c H locs 77 4398 Q (F0 m 659 ls []) := by
  have hx := C.1.1
  have hb := C.1.2.1
  by_cases hz : xs (i + 2) = 0
  · obtain ⟨r, μ1, ν1, ⟨n, hc⟩, ⟨n', hm⟩, R1⟩ := ag_shut R ((xs (i + 1))) (0)
    refine lv_aload_n hx hb dL_law_659 rfl (lv_at hl 1 rfl) ?_
    refine q_arg (k := 1) C I.2.2 hl hi (by decide) (by decide) dL_law_660 dL_law_661 dL_law_662 dL_law_663 dL_law_664 ?_
    refine q_arg (k := 2) C I.2.2 hl hi (by decide) (by decide) dL_law_665 dL_law_666 dL_law_667 dL_law_668 dL_law_669 ?_
    refine lv_if_eq hx hb (tgt := 677) dL_law_670 (by decide) (fun _ => ?_) (fun h => absurd hz h)
    refine lv_iconst hx hb dL_law_677 zci_0 ?_
    refine q_callCi (As := [.int (xs (i + 1)), .int 0]) (S := []) C I (c_X8_shut (D := D) (cI := cI) (cL := cL) (b := s.heap.size) (Z := q_Zc s.heap.size adK adV w) ((xs (i + 1))) (0) μ) hc zw_X8_shut zv_X8_shut zm_L_61 (n := 2) (by decide) rfl (z_recv gc_0 (T := TX8) (N := 11) rfl) rfl (Nat.le_of_ble_eq_true rfl) (by decide) (by decide) hl.1 dL_law_678 (fun H1 locs1 I1 => ?_)
    refine lv_aload_n hx hb dL_law_681 rfl (lv_at hl 2 rfl) ?_
    refine q_arg (k := 1) C I1.2.2 hl hi (by decide) (by decide) dL_law_682 dL_law_683 dL_law_684 dL_law_685 dL_law_686 ?_
    refine q_arg (k := 2) C I1.2.2 hl hi (by decide) (by decide) dL_law_687 dL_law_688 dL_law_689 dL_law_690 dL_law_691 ?_
    refine lv_if_eq hx hb (tgt := 699) dL_law_692 (by decide) (fun _ => ?_) (fun h => absurd hz h)
    refine lv_iconst hx hb dL_law_699 zci_0 ?_
    refine q_callMi (As := [.int (xs (i + 1)), .int 0]) (S := [.int r]) C I1 (c_X9_shut (D := D) (cI := cI) (cL := cL) (b := s.heap.size + 50) (Z := q_Zm s.heap.size tA) ((xs (i + 1))) (0) ν) hm zw_X9_shut zv_X9_shut zm_L_65 (n := 2) (by decide) rfl (z_recv gm_0 (T := TX9) (N := 52) rfl) rfl (Nat.le_of_ble_eq_true rfl) (by decide) (by decide) hl.1 dL_law_700 (fun H2 locs2 I2 => ?_)
    exact lv_icmp_eq hx hb (tgt := 1721) dL_law_703 (by decide) (fun _ => K _ _ _ _ I2 (R1.mono (by omega))) (fun h => absurd rfl h)
  · obtain ⟨r, μ1, ν1, ⟨n, hc⟩, ⟨n', hm⟩, R1⟩ := ag_shut R ((xs (i + 1))) (1)
    refine lv_aload_n hx hb dL_law_659 rfl (lv_at hl 1 rfl) ?_
    refine q_arg (k := 1) C I.2.2 hl hi (by decide) (by decide) dL_law_660 dL_law_661 dL_law_662 dL_law_663 dL_law_664 ?_
    refine q_arg (k := 2) C I.2.2 hl hi (by decide) (by decide) dL_law_665 dL_law_666 dL_law_667 dL_law_668 dL_law_669 ?_
    refine lv_if_eq hx hb (tgt := 677) dL_law_670 (by decide) (fun h => absurd h hz) (fun _ => ?_)
    refine lv_iconst hx hb dL_law_673 zci_1 ?_
    refine lv_goto hx hb (tgt := 678) dL_law_674 (by decide) ?_
    refine q_callCi (As := [.int (xs (i + 1)), .int 1]) (S := []) C I (c_X8_shut (D := D) (cI := cI) (cL := cL) (b := s.heap.size) (Z := q_Zc s.heap.size adK adV w) ((xs (i + 1))) (1) μ) hc zw_X8_shut zv_X8_shut zm_L_61 (n := 2) (by decide) rfl (z_recv gc_0 (T := TX8) (N := 11) rfl) rfl (Nat.le_of_ble_eq_true rfl) (by decide) (by decide) hl.1 dL_law_678 (fun H1 locs1 I1 => ?_)
    refine lv_aload_n hx hb dL_law_681 rfl (lv_at hl 2 rfl) ?_
    refine q_arg (k := 1) C I1.2.2 hl hi (by decide) (by decide) dL_law_682 dL_law_683 dL_law_684 dL_law_685 dL_law_686 ?_
    refine q_arg (k := 2) C I1.2.2 hl hi (by decide) (by decide) dL_law_687 dL_law_688 dL_law_689 dL_law_690 dL_law_691 ?_
    refine lv_if_eq hx hb (tgt := 699) dL_law_692 (by decide) (fun h => absurd h hz) (fun _ => ?_)
    refine lv_iconst hx hb dL_law_695 zci_1 ?_
    refine lv_goto hx hb (tgt := 700) dL_law_696 (by decide) ?_
    refine q_callMi (As := [.int (xs (i + 1)), .int 1]) (S := [.int r]) C I1 (c_X9_shut (D := D) (cI := cI) (cL := cL) (b := s.heap.size + 50) (Z := q_Zm s.heap.size tA) ((xs (i + 1))) (1) ν) hm zw_X9_shut zv_X9_shut zm_L_65 (n := 2) (by decide) rfl (z_recv gm_0 (T := TX9) (N := 52) rfl) rfl (Nat.le_of_ble_eq_true rfl) (by decide) (by decide) hl.1 dL_law_700 (fun H2 locs2 I2 => ?_)
    exact lv_icmp_eq hx hb (tgt := 1721) dL_law_703 (by decide) (fun _ => K _ _ _ _ I2 (R1.mono (by omega))) (fun h => absurd rfl h)
theorem w_L_11 (C : q_C p s m c b L xs D cI cL adK adV w tA) (I : q_I s D cI cL μ ν H locs) {i N : Nat} (hi : i + 6 ≤ L) (hN : 0 < N) (hN2 : N ≤ 2 ^ 30) (R : Rr N μ ν) (hl : lv_has ls 4 [(0, .ref b), (1, .ref (s.heap.size + 0)), (2, .ref (s.heap.size + 50 + 0)), (3, .int (nI i))]) (K : ∀ (H1 : Heap) (locs1 : List Loc) (μ1 ν1 : z_M), q_I s D cI cL μ1 ν1 H1 locs1 → Rr (N + 41) μ1 ν1 → W p l e room_1 s m #[Value.ref b] below meth c H1 locs1 77 4398 Q (F0 m 1721 ls [])) : W p l e room_1 s m #[Value.ref b] below meth c H locs 77 4398 Q (F0 m 708 ls []) := by
  have hx := C.1.1
  have hb := C.1.2.1
  obtain ⟨r, μ1, ν1, ⟨n, hc⟩, ⟨n', hm⟩, R1⟩ := ag_lag R ((xs (i + 1)))
  refine lv_aload_n hx hb dL_law_708 rfl (lv_at hl 1 rfl) ?_
  refine q_arg (k := 1) C I.2.2 hl hi (by decide) (by decide) dL_law_709 dL_law_710 dL_law_711 dL_law_712 dL_law_713 ?_
  refine q_callCi (As := [.int (xs (i + 1))]) (S := []) C I (c_X8_lag (D := D) (cI := cI) (cL := cL) (b := s.heap.size) (Z := q_Zc s.heap.size adK adV w) ((xs (i + 1))) μ) hc zw_X8_lag zv_X8_lag zm_L_66 (n := 1) (by decide) rfl (z_recv gc_0 (T := TX8) (N := 11) rfl) rfl (Nat.le_of_ble_eq_true rfl) (by decide) (by decide) hl.1 dL_law_714 (fun H1 locs1 I1 => ?_)
  refine lv_aload_n hx hb dL_law_717 rfl (lv_at hl 2 rfl) ?_
  refine q_arg (k := 1) C I1.2.2 hl hi (by decide) (by decide) dL_law_718 dL_law_719 dL_law_720 dL_law_721 dL_law_722 ?_
  refine q_callMi (As := [.int (xs (i + 1))]) (S := [.int r]) C I1 (c_X9_lag (D := D) (cI := cI) (cL := cL) (b := s.heap.size + 50) (Z := q_Zm s.heap.size tA) ((xs (i + 1))) ν) hm zw_X9_lag zv_X9_lag zm_L_69 (n := 1) (by decide) rfl (z_recv gm_0 (T := TX9) (N := 52) rfl) rfl (Nat.le_of_ble_eq_true rfl) (by decide) (by decide) hl.1 dL_law_723 (fun H2 locs2 I2 => ?_)
  exact lv_icmp_eq hx hb (tgt := 1721) dL_law_726 (by decide) (fun _ => K _ _ _ _ I2 (R1.mono (by omega))) (fun h => absurd rfl h)
theorem w_L_12 (C : q_C p s m c b L xs D cI cL adK adV w tA) (I : q_I s D cI cL μ ν H locs) {i N : Nat} (hi : i + 6 ≤ L) (hN : 0 < N) (hN2 : N ≤ 2 ^ 30) (R : Rr N μ ν) (hl : lv_has ls 4 [(0, .ref b), (1, .ref (s.heap.size + 0)), (2, .ref (s.heap.size + 50 + 0)), (3, .int (nI i))]) (K : ∀ (H1 : Heap) (locs1 : List Loc) (μ1 ν1 : z_M), q_I s D cI cL μ1 ν1 H1 locs1 → Rr (N + 41) μ1 ν1 → W p l e room_1 s m #[Value.ref b] below meth c H1 locs1 77 4398 Q (F0 m 1721 ls [])) : W p l e room_1 s m #[Value.ref b] below meth c H locs 77 4398 Q (F0 m 731 ls []) := by
  have hx := C.1.1
  have hb := C.1.2.1
  obtain ⟨r, μ1, ν1, ⟨n, hc⟩, ⟨n', hm⟩, R1⟩ := ag_said R ((xs (i + 1))) ((xs (i + 2)))
  refine lv_aload_n hx hb dL_law_731 rfl (lv_at hl 1 rfl) ?_
  refine q_arg (k := 1) C I.2.2 hl hi (by decide) (by decide) dL_law_732 dL_law_733 dL_law_734 dL_law_735 dL_law_736 ?_
  refine q_arg (k := 2) C I.2.2 hl hi (by decide) (by decide) dL_law_737 dL_law_738 dL_law_739 dL_law_740 dL_law_741 ?_
  refine q_callCi (As := [.int (xs (i + 1)), .int (xs (i + 2))]) (S := []) C I (c_X8_said (D := D) (cI := cI) (cL := cL) (b := s.heap.size) (Z := q_Zc s.heap.size adK adV w) ((xs (i + 1))) ((xs (i + 2))) μ) hc zw_X8_said zv_X8_said zm_L_70 (n := 2) (by decide) rfl (z_recv gc_0 (T := TX8) (N := 11) rfl) rfl (Nat.le_of_ble_eq_true rfl) (by decide) (by decide) hl.1 dL_law_742 (fun H1 locs1 I1 => ?_)
  refine lv_aload_n hx hb dL_law_745 rfl (lv_at hl 2 rfl) ?_
  refine q_arg (k := 1) C I1.2.2 hl hi (by decide) (by decide) dL_law_746 dL_law_747 dL_law_748 dL_law_749 dL_law_750 ?_
  refine q_arg (k := 2) C I1.2.2 hl hi (by decide) (by decide) dL_law_751 dL_law_752 dL_law_753 dL_law_754 dL_law_755 ?_
  refine q_callMi (As := [.int (xs (i + 1)), .int (xs (i + 2))]) (S := [.int r]) C I1 (c_X9_said (D := D) (cI := cI) (cL := cL) (b := s.heap.size + 50) (Z := q_Zm s.heap.size tA) ((xs (i + 1))) ((xs (i + 2))) ν) hm zw_X9_said zv_X9_said zm_L_73 (n := 2) (by decide) rfl (z_recv gm_0 (T := TX9) (N := 52) rfl) rfl (Nat.le_of_ble_eq_true rfl) (by decide) (by decide) hl.1 dL_law_756 (fun H2 locs2 I2 => ?_)
  exact lv_icmp_eq hx hb (tgt := 1721) dL_law_759 (by decide) (fun _ => K _ _ _ _ I2 (R1.mono (by omega))) (fun h => absurd rfl h)
theorem w_L_13 (C : q_C p s m c b L xs D cI cL adK adV w tA) (I : q_I s D cI cL μ ν H locs) {i N : Nat} (hi : i + 6 ≤ L) (hN : 0 < N) (hN2 : N ≤ 2 ^ 30) (R : Rr N μ ν) (hl : lv_has ls 4 [(0, .ref b), (1, .ref (s.heap.size + 0)), (2, .ref (s.heap.size + 50 + 0)), (3, .int (nI i))]) (K : ∀ (H1 : Heap) (locs1 : List Loc) (μ1 ν1 : z_M), q_I s D cI cL μ1 ν1 H1 locs1 → Rr (N + 41) μ1 ν1 → W p l e room_1 s m #[Value.ref b] below meth c H1 locs1 77 4398 Q (F0 m 1721 ls [])) : W p l e room_1 s m #[Value.ref b] below meth c H locs 77 4398 Q (F0 m 764 ls []) := by
  have hx := C.1.1
  have hb := C.1.2.1
  obtain ⟨r, μ1, ν1, ⟨n, hc⟩, ⟨n', hm⟩, R1⟩ := ag_houseOf R ((xs (i + 1))) ((xs (i + 2)))
  refine lv_aload_n hx hb dL_law_764 rfl (lv_at hl 1 rfl) ?_
  refine q_arg (k := 1) C I.2.2 hl hi (by decide) (by decide) dL_law_765 dL_law_766 dL_law_767 dL_law_768 dL_law_769 ?_
  refine q_arg (k := 2) C I.2.2 hl hi (by decide) (by decide) dL_law_770 dL_law_771 dL_law_772 dL_law_773 dL_law_774 ?_
  refine q_callCi (As := [.int (xs (i + 1)), .int (xs (i + 2))]) (S := []) C I (c_X8_houseOf (D := D) (cI := cI) (cL := cL) (b := s.heap.size) (Z := q_Zc s.heap.size adK adV w) ((xs (i + 1))) ((xs (i + 2))) μ) hc zw_X8_houseOf zv_X8_houseOf zm_L_74 (n := 2) (by decide) rfl (z_recv gc_0 (T := TX8) (N := 11) rfl) rfl (Nat.le_of_ble_eq_true rfl) (by decide) (by decide) hl.1 dL_law_775 (fun H1 locs1 I1 => ?_)
  refine lv_aload_n hx hb dL_law_778 rfl (lv_at hl 2 rfl) ?_
  refine q_arg (k := 1) C I1.2.2 hl hi (by decide) (by decide) dL_law_779 dL_law_780 dL_law_781 dL_law_782 dL_law_783 ?_
  refine q_arg (k := 2) C I1.2.2 hl hi (by decide) (by decide) dL_law_784 dL_law_785 dL_law_786 dL_law_787 dL_law_788 ?_
  refine q_callMi (As := [.int (xs (i + 1)), .int (xs (i + 2))]) (S := [.int r]) C I1 (c_X9_houseOf (D := D) (cI := cI) (cL := cL) (b := s.heap.size + 50) (Z := q_Zm s.heap.size tA) ((xs (i + 1))) ((xs (i + 2))) ν) hm zw_X9_houseOf zv_X9_houseOf zm_L_77 (n := 2) (by decide) rfl (z_recv gm_0 (T := TX9) (N := 52) rfl) rfl (Nat.le_of_ble_eq_true rfl) (by decide) (by decide) hl.1 dL_law_789 (fun H2 locs2 I2 => ?_)
  exact lv_icmp_eq hx hb (tgt := 1721) dL_law_792 (by decide) (fun _ => K _ _ _ _ I2 (R1.mono (by omega))) (fun h => absurd rfl h)
theorem w_L_14 (C : q_C p s m c b L xs D cI cL adK adV w tA) (I : q_I s D cI cL μ ν H locs) {i N : Nat} (hi : i + 6 ≤ L) (hN : 0 < N) (hN2 : N ≤ 2 ^ 30) (R : Rr N μ ν) (hl : lv_has ls 4 [(0, .ref b), (1, .ref (s.heap.size + 0)), (2, .ref (s.heap.size + 50 + 0)), (3, .int (nI i))]) (K : ∀ (H1 : Heap) (locs1 : List Loc) (μ1 ν1 : z_M), q_I s D cI cL μ1 ν1 H1 locs1 → Rr (N + 41) μ1 ν1 → W p l e room_1 s m #[Value.ref b] below meth c H1 locs1 77 4398 Q (F0 m 1721 ls [])) : W p l e room_1 s m #[Value.ref b] below meth c H locs 77 4398 Q (F0 m 797 ls []) := by
  have hx := C.1.1
  have hb := C.1.2.1
  obtain ⟨r, μ1, ν1, ⟨n, hc⟩, ⟨n', hm⟩, R1⟩ := ag_wayOf R ((xs (i + 1))) ((xs (i + 2)))
  refine lv_aload_n hx hb dL_law_797 rfl (lv_at hl 1 rfl) ?_
  refine q_arg (k := 1) C I.2.2 hl hi (by decide) (by decide) dL_law_798 dL_law_799 dL_law_800 dL_law_801 dL_law_802 ?_
  refine q_arg (k := 2) C I.2.2 hl hi (by decide) (by decide) dL_law_803 dL_law_804 dL_law_805 dL_law_806 dL_law_807 ?_
  refine q_callCi (As := [.int (xs (i + 1)), .int (xs (i + 2))]) (S := []) C I (c_X8_wayOf (D := D) (cI := cI) (cL := cL) (b := s.heap.size) (Z := q_Zc s.heap.size adK adV w) ((xs (i + 1))) ((xs (i + 2))) μ) hc zw_X8_wayOf zv_X8_wayOf zm_L_78 (n := 2) (by decide) rfl (z_recv gc_0 (T := TX8) (N := 11) rfl) rfl (Nat.le_of_ble_eq_true rfl) (by decide) (by decide) hl.1 dL_law_808 (fun H1 locs1 I1 => ?_)
  refine lv_aload_n hx hb dL_law_811 rfl (lv_at hl 2 rfl) ?_
  refine q_arg (k := 1) C I1.2.2 hl hi (by decide) (by decide) dL_law_812 dL_law_813 dL_law_814 dL_law_815 dL_law_816 ?_
  refine q_arg (k := 2) C I1.2.2 hl hi (by decide) (by decide) dL_law_817 dL_law_818 dL_law_819 dL_law_820 dL_law_821 ?_
  refine q_callMi (As := [.int (xs (i + 1)), .int (xs (i + 2))]) (S := [.int r]) C I1 (c_X9_wayOf (D := D) (cI := cI) (cL := cL) (b := s.heap.size + 50) (Z := q_Zm s.heap.size tA) ((xs (i + 1))) ((xs (i + 2))) ν) hm zw_X9_wayOf zv_X9_wayOf zm_L_81 (n := 2) (by decide) rfl (z_recv gm_0 (T := TX9) (N := 52) rfl) rfl (Nat.le_of_ble_eq_true rfl) (by decide) (by decide) hl.1 dL_law_822 (fun H2 locs2 I2 => ?_)
  exact lv_icmp_eq hx hb (tgt := 1721) dL_law_825 (by decide) (fun _ => K _ _ _ _ I2 (R1.mono (by omega))) (fun h => absurd rfl h)
end QK
