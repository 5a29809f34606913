/-! the law, case by case -/
section QK
variable {p : Program} {l : Launch} {e : Env} {s : State} {m : MethodId} {below : List Frame} {meth : Method} {c : Code} {H : Heap} {locs : List Loc} {Q : State → Prop} {b L : Nat} {xs : Nat → Int32} {D : va_G} {cI cL : ClassId} {adK adV : Nat → Nat} {w : Option Nat} {tA : Nat → Nat} {μ ν μ1 ν1 : z_M} {ls : Array Slot} {pc : Nat} {S st : List Value}

theorem w_L_30 (C : q_C p s m c b L xs D cI cL adK adV w tA) (I : q_I s D cI cL μ ν H locs) {i N : Nat} (hi : i + 6 ≤ L) (hN : 0 < N) (hN2 : N ≤ 2 ^ 30) (R : Rr N μ ν) (hl : lv_has ls 4 [(0, .ref b), (1, .ref (s.heap.size + 0)), (2, .ref (s.heap.size + 50 + 0)), (3, .int (nI i))]) (K : ∀ (H1 : Heap) (locs1 : List Loc) (μ1 ν1 : z_M), q_I s D cI cL μ1 ν1 H1 locs1 → Rr (N + 41) μ1 ν1 → W p l e room_1 s m #[Value.ref b] below meth c H1 locs1 77 4398 Q (F0 m 1721 ls [])) : W p l e room_1 s m #[Value.ref b] below meth c H locs 77 4398 Q (F0 m 1295 ls []) := by
  have hx := C.1.1
  have hb := C.1.2.1
  obtain ⟨r, μ1, ν1, ⟨n, hc⟩, ⟨n', hm⟩, R1⟩ := ag_fits R ((xs (i + 1))) ((xs (i + 2)))
  refine lv_aload_n hx hb dL_law_1295 rfl (lv_at hl 1 rfl) ?_
  refine q_arg (k := 1) C I.2.2 hl hi (by decide) (by decide) dL_law_1296 dL_law_1297 dL_law_1298 dL_law_1299 dL_law_1300 ?_
  refine q_arg (k := 2) C I.2.2 hl hi (by decide) (by decide) dL_law_1301 dL_law_1302 dL_law_1303 dL_law_1304 dL_law_1305 ?_
  refine q_callCi (As := [.int (xs (i + 1)), .int (xs (i + 2))]) (S := []) C I (c_X8_fits (D := D) (cI := cI) (cL := cL) (b := s.heap.size) (Z := q_Zc s.heap.size adK adV w) n ((xs (i + 1))) ((xs (i + 2))) μ) hc zw_X8_fits zv_X8_fits zm_L_144 (n := 2) (by decide) rfl (z_recv gc_0 (T := TX8) (N := 11) rfl) rfl (Nat.le_of_ble_eq_true rfl) (by decide) (by decide) hl.1 dL_law_1306 (fun H1 locs1 I1 => ?_)
  refine lv_aload_n hx hb dL_law_1309 rfl (lv_at hl 2 rfl) ?_
  refine q_arg (k := 1) C I1.2.2 hl hi (by decide) (by decide) dL_law_1310 dL_law_1311 dL_law_1312 dL_law_1313 dL_law_1314 ?_
  refine q_arg (k := 2) C I1.2.2 hl hi (by decide) (by decide) dL_law_1315 dL_law_1316 dL_law_1317 dL_law_1318 dL_law_1319 ?_
  refine q_callMi (As := [.int (xs (i + 1)), .int (xs (i + 2))]) (S := [.int r]) C I1 (c_X9_fits (D := D) (cI := cI) (cL := cL) (b := s.heap.size + 50) (Z := q_Zm s.heap.size tA) n' ((xs (i + 1))) ((xs (i + 2))) ν) hm zw_X9_fits zv_X9_fits zm_L_147 (n := 2) (by decide) rfl (z_recv gm_0 (T := TX9) (N := 52) rfl) rfl (Nat.le_of_ble_eq_true rfl) (by decide) (by decide) hl.1 dL_law_1320 (fun H2 locs2 I2 => ?_)
  exact lv_icmp_eq hx hb (tgt := 1721) dL_law_1323 (by decide) (fun _ => K _ _ _ _ I2 (R1.mono (by omega))) (fun h => absurd rfl h)
theorem w_L_31 (C : q_C p s m c b L xs D cI cL adK adV w tA) (I : q_I s D cI cL μ ν H locs) {i N : Nat} (hi : i + 6 ≤ L) (hN : 0 < N) (hN2 : N ≤ 2 ^ 30) (R : Rr N μ ν) (hl : lv_has ls 4 [(0, .ref b), (1, .ref (s.heap.size + 0)), (2, .ref (s.heap.size + 50 + 0)), (3, .int (nI i))]) (K : ∀ (H1 : Heap) (locs1 : List Loc) (μ1 ν1 : z_M), q_I s D cI cL μ1 ν1 H1 locs1 → Rr (N + 41) μ1 ν1 → W p l e room_1 s m #[Value.ref b] below meth c H1 locs1 77 4398 Q (F0 m 1721 ls [])) : W p l e room_1 s m #[Value.ref b] below meth c H locs 77 4398 Q (F0 m 1328 ls []) := by
  have hx := C.1.1
  have hb := C.1.2.1
  obtain ⟨r, μ1, ν1, ⟨n, hc⟩, ⟨n', hm⟩, R1⟩ := ag_from R ((xs (i + 1))) ((xs (i + 2))) ((xs (i + 3)))
  refine lv_aload_n hx hb dL_law_1328 rfl (lv_at hl 1 rfl) ?_
  refine q_arg (k := 1) C I.2.2 hl hi (by decide) (by decide) dL_law_1329 dL_law_1330 dL_law_1331 dL_law_1332 dL_law_1333 ?_
  refine q_arg (k := 2) C I.2.2 hl hi (by decide) (by decide) dL_law_1334 dL_law_1335 dL_law_1336 dL_law_1337 dL_law_1338 ?_
  refine q_arg (k := 3) C I.2.2 hl hi (by decide) (by decide) dL_law_1339 dL_law_1340 dL_law_1341 dL_law_1342 dL_law_1343 ?_
  refine q_callCi (As := [.int (xs (i + 1)), .int (xs (i + 2)), .int (xs (i + 3))]) (S := []) C I (c_X8_from (D := D) (cI := cI) (cL := cL) (b := s.heap.size) (Z := q_Zc s.heap.size adK adV w) n ((xs (i + 1))) ((xs (i + 2))) ((xs (i + 3))) μ) hc zw_X8_from zv_X8_from zm_L_148 (n := 3) (by decide) rfl (z_recv gc_0 (T := TX8) (N := 11) rfl) rfl (Nat.le_of_ble_eq_true rfl) (by decide) (by decide) hl.1 dL_law_1344 (fun H1 locs1 I1 => ?_)
  refine lv_aload_n hx hb dL_law_1347 rfl (lv_at hl 2 rfl) ?_
  refine q_arg (k := 1) C I1.2.2 hl hi (by decide) (by decide) dL_law_1348 dL_law_1349 dL_law_1350 dL_law_1351 dL_law_1352 ?_
  refine q_arg (k := 2) C I1.2.2 hl hi (by decide) (by decide) dL_law_1353 dL_law_1354 dL_law_1355 dL_law_1356 dL_law_1357 ?_
  refine q_arg (k := 3) C I1.2.2 hl hi (by decide) (by decide) dL_law_1358 dL_law_1359 dL_law_1360 dL_law_1361 dL_law_1362 ?_
  refine q_callMi (As := [.int (xs (i + 1)), .int (xs (i + 2)), .int (xs (i + 3))]) (S := [.int r]) C I1 (c_X9_from (D := D) (cI := cI) (cL := cL) (b := s.heap.size + 50) (Z := q_Zm s.heap.size tA) n' ((xs (i + 1))) ((xs (i + 2))) ((xs (i + 3))) ν) hm zw_X9_from zv_X9_from zm_L_151 (n := 3) (by decide) rfl (z_recv gm_0 (T := TX9) (N := 52) rfl) rfl (Nat.le_of_ble_eq_true rfl) (by decide) (by decide) hl.1 dL_law_1363 (fun H2 locs2 I2 => ?_)
  exact lv_icmp_eq hx hb (tgt := 1721) dL_law_1366 (by decide) (fun _ => K _ _ _ _ I2 (R1.mono (by omega))) (fun h => absurd rfl h)
theorem w_L_32 (C : q_C p s m c b L xs D cI cL adK adV w tA) (I : q_I s D cI cL μ ν H locs) {i N : Nat} (hi : i + 6 ≤ L) (hN : 0 < N) (hN2 : N ≤ 2 ^ 30) (R : Rr N μ ν) (hl : lv_has ls 4 [(0, .ref b), (1, .ref (s.heap.size + 0)), (2, .ref (s.heap.size + 50 + 0)), (3, .int (nI i))]) (K : ∀ (H1 : Heap) (locs1 : List Loc) (μ1 ν1 : z_M), q_I s D cI cL μ1 ν1 H1 locs1 → Rr (N + 41) μ1 ν1 → W p l e room_1 s m #[Value.ref b] below meth c H1 locs1 77 4398 Q (F0 m 1721 ls [])) : W p l e room_1 s m #[Value.ref b] below meth c H locs 77 4398 Q (F0 m 1371 ls []) := by
  have hx := C.1.1
  have hb := C.1.2.1
  obtain ⟨r, μ1, ν1, ⟨n, hc⟩, ⟨n', hm⟩, R1⟩ := ag_odds R ((xs (i + 1))) ((xs (i + 2))) ((xs (i + 3)))
  refine lv_aload_n hx hb dL_law_1371 rfl (lv_at hl 1 rfl) ?_
  refine q_arg (k := 1) C I.2.2 hl hi (by decide) (by decide) dL_law_1372 dL_law_1373 dL_law_1374 dL_law_1375 dL_law_1376 ?_
  refine q_arg (k := 2) C I.2.2 hl hi (by decide) (by decide) dL_law_1377 dL_law_1378 dL_law_1379 dL_law_1380 dL_law_1381 ?_
  refine q_arg (k := 3) C I.2.2 hl hi (by decide) (by decide) dL_law_1382 dL_law_1383 dL_law_1384 dL_law_1385 dL_law_1386 ?_
  refine q_callCl (As := [.int (xs (i + 1)), .int (xs (i + 2)), .int (xs (i + 3))]) (S := []) C I (c_X8_odds (D := D) (cI := cI) (cL := cL) (b := s.heap.size) (Z := q_Zc s.heap.size adK adV w) n ((xs (i + 1))) ((xs (i + 2))) ((xs (i + 3))) μ) hc zw_X8_odds zv_X8_odds zm_L_152 (n := 3) (by decide) rfl (z_recv gc_0 (T := TX8) (N := 11) rfl) rfl (Nat.le_of_ble_eq_true rfl) (by decide) (by decide) hl.1 dL_law_1387 (fun H1 locs1 I1 => ?_)
  refine lv_aload_n hx hb dL_law_1390 rfl (lv_at hl 2 rfl) ?_
  refine q_arg (k := 1) C I1.2.2 hl hi (by decide) (by decide) dL_law_1391 dL_law_1392 dL_law_1393 dL_law_1394 dL_law_1395 ?_
  refine q_arg (k := 2) C I1.2.2 hl hi (by decide) (by decide) dL_law_1396 dL_law_1397 dL_law_1398 dL_law_1399 dL_law_1400 ?_
  refine q_arg (k := 3) C I1.2.2 hl hi (by decide) (by decide) dL_law_1401 dL_law_1402 dL_law_1403 dL_law_1404 dL_law_1405 ?_
  refine q_callMl (As := [.int (xs (i + 1)), .int (xs (i + 2)), .int (xs (i + 3))]) (S := [.long r]) C I1 (c_X9_odds (D := D) (cI := cI) (cL := cL) (b := s.heap.size + 50) (Z := q_Zm s.heap.size tA) n' ((xs (i + 1))) ((xs (i + 2))) ((xs (i + 3))) ν) hm zw_X9_odds zv_X9_odds zm_L_156 (n := 3) (by decide) rfl (z_recv gm_0 (T := TX9) (N := 52) rfl) rfl (Nat.le_of_ble_eq_true rfl) (by decide) (by decide) hl.1 dL_law_1406 (fun H2 locs2 I2 => ?_)
  refine W.lcmp hx hb dL_law_1409 ?_
  rw [lg_same]
  exact lv_if_eq hx hb (tgt := 1721) dL_law_1410 (by decide) (fun _ => K _ _ _ _ I2 (R1.mono (by omega))) (fun h => absurd rfl h)
theorem w_L_33 (C : q_C p s m c b L xs D cI cL adK adV w tA) (I : q_I s D cI cL μ ν H locs) {i N : Nat} (hi : i + 6 ≤ L) (hN : 0 < N) (hN2 : N ≤ 2 ^ 30) (R : Rr N μ ν) (hl : lv_has ls 4 [(0, .ref b), (1, .ref (s.heap.size + 0)), (2, .ref (s.heap.size + 50 + 0)), (3, .int (nI i))]) (K : ∀ (H1 : Heap) (locs1 : List Loc) (μ1 ν1 : z_M), q_I s D cI cL μ1 ν1 H1 locs1 → Rr (N + 41) μ1 ν1 → W p l e room_1 s m #[Value.ref b] below meth c H1 locs1 77 4398 Q (F0 m 1721 ls [])) : W p l e room_1 s m #[Value.ref b] below meth c H locs 77 4398 Q (F0 m 1415 ls []) := by
  have hx := C.1.1
  have hb := C.1.2.1
  obtain ⟨r, μ1, ν1, ⟨n, hc⟩, ⟨n', hm⟩, R1⟩ := ag_shuts R ((xs (i + 1))) ((xs (i + 2))) ((xs (i + 3)))
  refine lv_aload_n hx hb dL_law_1415 rfl (lv_at hl 1 rfl) ?_
  refine q_arg (k := 1) C I.2.2 hl hi (by decide) (by decide) dL_law_1416 dL_law_1417 dL_law_1418 dL_law_1419 dL_law_1420 ?_
  refine q_arg (k := 2) C I.2.2 hl hi (by decide) (by decide) dL_law_1421 dL_law_1422 dL_law_1423 dL_law_1424 dL_law_1425 ?_
  refine q_arg (k := 3) C I.2.2 hl hi (by decide) (by decide) dL_law_1426 dL_law_1427 dL_law_1428 dL_law_1429 dL_law_1430 ?_
  refine q_callCi (As := [.int (xs (i + 1)), .int (xs (i + 2)), .int (xs (i + 3))]) (S := []) C I (c_X8_shuts (D := D) (cI := cI) (cL := cL) (b := s.heap.size) (Z := q_Zc s.heap.size adK adV w) n ((xs (i + 1))) ((xs (i + 2))) ((xs (i + 3))) μ) hc zw_X8_shuts zv_X8_shuts zm_L_157 (n := 3) (by decide) rfl (z_recv gc_0 (T := TX8) (N := 11) rfl) rfl (Nat.le_of_ble_eq_true rfl) (by decide) (by decide) hl.1 dL_law_1431 (fun H1 locs1 I1 => ?_)
  refine lv_aload_n hx hb dL_law_1434 rfl (lv_at hl 2 rfl) ?_
  refine q_arg (k := 1) C I1.2.2 hl hi (by decide) (by decide) dL_law_1435 dL_law_1436 dL_law_1437 dL_law_1438 dL_law_1439 ?_
  refine q_arg (k := 2) C I1.2.2 hl hi (by decide) (by decide) dL_law_1440 dL_law_1441 dL_law_1442 dL_law_1443 dL_law_1444 ?_
  refine q_arg (k := 3) C I1.2.2 hl hi (by decide) (by decide) dL_law_1445 dL_law_1446 dL_law_1447 dL_law_1448 dL_law_1449 ?_
  refine q_callMi (As := [.int (xs (i + 1)), .int (xs (i + 2)), .int (xs (i + 3))]) (S := [.int r]) C I1 (c_X9_shuts (D := D) (cI := cI) (cL := cL) (b := s.heap.size + 50) (Z := q_Zm s.heap.size tA) n' ((xs (i + 1))) ((xs (i + 2))) ((xs (i + 3))) ν) hm zw_X9_shuts zv_X9_shuts zm_L_160 (n := 3) (by decide) rfl (z_recv gm_0 (T := TX9) (N := 52) rfl) rfl (Nat.le_of_ble_eq_true rfl) (by decide) (by decide) hl.1 dL_law_1450 (fun H2 locs2 I2 => ?_)
  exact lv_icmp_eq hx hb (tgt := 1721) dL_law_1453 (by decide) (fun _ => K _ _ _ _ I2 (R1.mono (by omega))) (fun h => absurd rfl h)
theorem w_L_34 (C : q_C p s m c b L xs D cI cL adK adV w tA) (I : q_I s D cI cL μ ν H locs) {i N : Nat} (hi : i + 6 ≤ L) (hN : 0 < N) (hN2 : N ≤ 2 ^ 30) (R : Rr N μ ν) (hl : lv_has ls 4 [(0, .ref b), (1, .ref (s.heap.size + 0)), (2, .ref (s.heap.size + 50 + 0)), (3, .int (nI i))]) (K : ∀ (H1 : Heap) (locs1 : List Loc) (μ1 ν1 : z_M), q_I s D cI cL μ1 ν1 H1 locs1 → Rr (N + 41) μ1 ν1 → W p l e room_1 s m #[Value.ref b] below meth c H1 locs1 77 4398 Q (F0 m 1721 ls [])) : W p l e room_1 s m #[Value.ref b] below meth c H locs 77 4398 Q (F0 m 1458 ls []) := by
  have hx := C.1.1
  have hb := C.1.2.1
  obtain ⟨r, μ1, ν1, ⟨n, hc⟩, ⟨n', hm⟩, R1⟩ := ag_reach R ((xs (i + 1))) ((xs (i + 2)))
  refine lv_aload_n hx hb dL_law_1458 rfl (lv_at hl 1 rfl) ?_
  refine q_arg (k := 1) C I.2.2 hl hi (by decide) (by decide) dL_law_1459 dL_law_1460 dL_law_1461 dL_law_1462 dL_law_1463 ?_
  refine q_arg (k := 2) C I.2.2 hl hi (by decide) (by decide) dL_law_1464 dL_law_1465 dL_law_1466 dL_law_1467 dL_law_1468 ?_
  refine q_callCi (As := [.int (xs (i + 1)), .int (xs (i + 2))]) (S := []) C I (c_X8_reach (D := D) (cI := cI) (cL := cL) (b := s.heap.size) (Z := q_Zc s.heap.size adK adV w) n ((xs (i + 1))) ((xs (i + 2))) μ) hc zw_X8_reach zv_X8_reach zm_L_161 (n := 2) (by decide) rfl (z_recv gc_0 (T := TX8) (N := 11) rfl) rfl (Nat.le_of_ble_eq_true rfl) (by decide) (by decide) hl.1 dL_law_1469 (fun H1 locs1 I1 => ?_)
  refine lv_aload_n hx hb dL_law_1472 rfl (lv_at hl 2 rfl) ?_
  refine q_arg (k := 1) C I1.2.2 hl hi (by decide) (by decide) dL_law_1473 dL_law_1474 dL_law_1475 dL_law_1476 dL_law_1477 ?_
  refine q_arg (k := 2) C I1.2.2 hl hi (by decide) (by decide) dL_law_1478 dL_law_1479 dL_law_1480 dL_law_1481 dL_law_1482 ?_
  refine q_callMi (As := [.int (xs (i + 1)), .int (xs (i + 2))]) (S := [.int r]) C I1 (c_X9_reach (D := D) (cI := cI) (cL := cL) (b := s.heap.size + 50) (Z := q_Zm s.heap.size tA) n' ((xs (i + 1))) ((xs (i + 2))) ν) hm zw_X9_reach zv_X9_reach zm_L_164 (n := 2) (by decide) rfl (z_recv gm_0 (T := TX9) (N := 52) rfl) rfl (Nat.le_of_ble_eq_true rfl) (by decide) (by decide) hl.1 dL_law_1483 (fun H2 locs2 I2 => ?_)
  exact lv_icmp_eq hx hb (tgt := 1721) dL_law_1486 (by decide) (fun _ => K _ _ _ _ I2 (R1.mono (by omega))) (fun h => absurd rfl h)
theorem w_L_35 (C : q_C p s m c b L xs D cI cL adK adV w tA) (I : q_I s D cI cL μ ν H locs) {i N : Nat} (hi : i + 6 ≤ L) (hN : 0 < N) (hN2 : N ≤ 2 ^ 30) (R : Rr N μ ν) (hl : lv_has ls 4 [(0, .ref b), (1, .ref (s.heap.size + 0)), (2, .ref (s.heap.size + 50 + 0)), (3, .int (nI i))]) (K : ∀ (H1 : Heap) (locs1 : List Loc) (μ1 ν1 : z_M), q_I s D cI cL μ1 ν1 H1 locs1 → Rr (N + 41) μ1 ν1 → W p l e room_1 s m #[Value.ref b] below meth c H1 locs1 77 4398 Q (F0 m 1721 ls [])) : W p l e room_1 s m #[Value.ref b] below meth c H locs 77 4398 Q (F0 m 1491 ls []) := by
  have hx := C.1.1
  have hb := C.1.2.1
  obtain ⟨r, μ1, ν1, ⟨n, hc⟩, ⟨n', hm⟩, R1⟩ := ag_first R ((xs (i + 1))) ((xs (i + 2)))
  refine lv_aload_n hx hb dL_law_1491 rfl (lv_at hl 1 rfl) ?_
  refine q_arg (k := 1) C I.2.2 hl hi (by decide) (by decide) dL_law_1492 dL_law_1493 dL_law_1494 dL_law_1495 dL_law_1496 ?_
  refine q_arg (k := 2) C I.2.2 hl hi (by decide) (by decide) dL_law_1497 dL_law_1498 dL_law_1499 dL_law_1500 dL_law_1501 ?_
  refine q_callCi (As := [.int (xs (i + 1)), .int (xs (i + 2))]) (S := []) C I (c_X8_first (D := D) (cI := cI) (cL := cL) (b := s.heap.size) (Z := q_Zc s.heap.size adK adV w) n ((xs (i + 1))) ((xs (i + 2))) μ) hc zw_X8_first zv_X8_first zm_L_165 (n := 2) (by decide) rfl (z_recv gc_0 (T := TX8) (N := 11) rfl) rfl (Nat.le_of_ble_eq_true rfl) (by decide) (by decide) hl.1 dL_law_1502 (fun H1 locs1 I1 => ?_)
  refine lv_aload_n hx hb dL_law_1505 rfl (lv_at hl 2 rfl) ?_
  refine q_arg (k := 1) C I1.2.2 hl hi (by decide) (by decide) dL_law_1506 dL_law_1507 dL_law_1508 dL_law_1509 dL_law_1510 ?_
  refine q_arg (k := 2) C I1.2.2 hl hi (by decide) (by decide) dL_law_1511 dL_law_1512 dL_law_1513 dL_law_1514 dL_law_1515 ?_
  refine q_callMi (As := [.int (xs (i + 1)), .int (xs (i + 2))]) (S := [.int r]) C I1 (c_X9_first (D := D) (cI := cI) (cL := cL) (b := s.heap.size + 50) (Z := q_Zm s.heap.size tA) n' ((xs (i + 1))) ((xs (i + 2))) ν) hm zw_X9_first zv_X9_first zm_L_168 (n := 2) (by decide) rfl (z_recv gm_0 (T := TX9) (N := 52) rfl) rfl (Nat.le_of_ble_eq_true rfl) (by decide) (by decide) hl.1 dL_law_1516 (fun H2 locs2 I2 => ?_)
  exact lv_icmp_eq hx hb (tgt := 1721) dL_law_1519 (by decide) (fun _ => K _ _ _ _ I2 (R1.mono (by omega))) (fun h => absurd rfl h)
theorem w_L_36 (C : q_C p s m c b L xs D cI cL adK adV w tA) (I : q_I s D cI cL μ ν H locs) {i N : Nat} (hi : i + 6 ≤ L) (hN : 0 < N) (hN2 : N ≤ 2 ^ 30) (R : Rr N μ ν) (hl : lv_has ls 4 [(0, .ref b), (1, .ref (s.heap.size + 0)), (2, .ref (s.heap.size + 50 + 0)), (3, .int (nI i))]) (K : ∀ (H1 : Heap) (locs1 : List Loc) (μ1 ν1 : z_M), q_I s D cI cL μ1 ν1 H1 locs1 → Rr (N + 41) μ1 ν1 → W p l e room_1 s m #[Value.ref b] below meth c H1 locs1 77 4398 Q (F0 m 1721 ls [])) : W p l e room_1 s m #[Value.ref b] below meth c H locs 77 4398 Q (F0 m 1524 ls []) := by
  have hx := C.1.1
  have hb := C.1.2.1
  obtain ⟨r, μ1, ν1, ⟨n, hc⟩, ⟨n', hm⟩, R1⟩ := ag_wander R ((xs (i + 1)))
  refine lv_aload_n hx hb dL_law_1524 rfl (lv_at hl 1 rfl) ?_
  refine q_arg (k := 1) C I.2.2 hl hi (by decide) (by decide) dL_law_1525 dL_law_1526 dL_law_1527 dL_law_1528 dL_law_1529 ?_
  refine q_callCi (As := [.int (xs (i + 1))]) (S := []) C I (c_X8_wander (D := D) (cI := cI) (cL := cL) (b := s.heap.size) (Z := q_Zc s.heap.size adK adV w) n ((xs (i + 1))) μ) hc zw_X8_wander zv_X8_wander zm_L_169 (n := 1) (by decide) rfl (z_recv gc_0 (T := TX8) (N := 11) rfl) rfl (Nat.le_of_ble_eq_true rfl) (by decide) (by decide) hl.1 dL_law_1530 (fun H1 locs1 I1 => ?_)
  refine lv_aload_n hx hb dL_law_1533 rfl (lv_at hl 2 rfl) ?_
  refine q_arg (k := 1) C I1.2.2 hl hi (by decide) (by decide) dL_law_1534 dL_law_1535 dL_law_1536 dL_law_1537 dL_law_1538 ?_
  refine q_callMi (As := [.int (xs (i + 1))]) (S := [.int r]) C I1 (c_X9_wander (D := D) (cI := cI) (cL := cL) (b := s.heap.size + 50) (Z := q_Zm s.heap.size tA) n' ((xs (i + 1))) ν) hm zw_X9_wander zv_X9_wander zm_L_172 (n := 1) (by decide) rfl (z_recv gm_0 (T := TX9) (N := 52) rfl) rfl (Nat.le_of_ble_eq_true rfl) (by decide) (by decide) hl.1 dL_law_1539 (fun H2 locs2 I2 => ?_)
  exact lv_icmp_eq hx hb (tgt := 1721) dL_law_1542 (by decide) (fun _ => K _ _ _ _ I2 (R1.mono (by omega))) (fun h => absurd rfl h)
theorem w_L_37 (C : q_C p s m c b L xs D cI cL adK adV w tA) (I : q_I s D cI cL μ ν H locs) {i N : Nat} (hi : i + 6 ≤ L) (hN : 0 < N) (hN2 : N ≤ 2 ^ 30) (R : Rr N μ ν) (hl : lv_has ls 4 [(0, .ref b), (1, .ref (s.heap.size + 0)), (2, .ref (s.heap.size + 50 + 0)), (3, .int (nI i))]) (K : ∀ (H1 : Heap) (locs1 : List Loc) (μ1 ν1 : z_M), q_I s D cI cL μ1 ν1 H1 locs1 → Rr (N + 41) μ1 ν1 → W p l e room_1 s m #[Value.ref b] below meth c H1 locs1 77 4398 Q (F0 m 1721 ls [])) : W p l e room_1 s m #[Value.ref b] below meth c H locs 77 4398 Q (F0 m 1547 ls []) := by
  have hx := C.1.1
  have hb := C.1.2.1
  obtain ⟨r, μ1, ν1, ⟨n, hc⟩, ⟨n', hm⟩, R1⟩ := ag_who R ((xs (i + 1)))
  refine lv_aload_n hx hb dL_law_1547 rfl (lv_at hl 1 rfl) ?_
  refine q_arg (k := 1) C I.2.2 hl hi (by decide) (by decide) dL_law_1548 dL_law_1549 dL_law_1550 dL_law_1551 dL_law_1552 ?_
  refine q_callCi (As := [.int (xs (i + 1))]) (S := []) C I (c_X8_who (D := D) (cI := cI) (cL := cL) (b := s.heap.size) (Z := q_Zc s.heap.size adK adV w) n ((xs (i + 1))) μ) hc zw_X8_who zv_X8_who zm_L_173 (n := 1) (by decide) rfl (z_recv gc_0 (T := TX8) (N := 11) rfl) rfl (Nat.le_of_ble_eq_true rfl) (by decide) (by decide) hl.1 dL_law_1553 (fun H1 locs1 I1 => ?_)
  refine lv_aload_n hx hb dL_law_1556 rfl (lv_at hl 2 rfl) ?_
  refine q_arg (k := 1) C I1.2.2 hl hi (by decide) (by decide) dL_law_1557 dL_law_1558 dL_law_1559 dL_law_1560 dL_law_1561 ?_
  refine q_callMi (As := [.int (xs (i + 1))]) (S := [.int r]) C I1 (c_X9_who (D := D) (cI := cI) (cL := cL) (b := s.heap.size + 50) (Z := q_Zm s.heap.size tA) n' ((xs (i + 1))) ν) hm zw_X9_who zv_X9_who zm_L_176 (n := 1) (by decide) rfl (z_recv gm_0 (T := TX9) (N := 52) rfl) rfl (Nat.le_of_ble_eq_true rfl) (by decide) (by decide) hl.1 dL_law_1562 (fun H2 locs2 I2 => ?_)
  exact lv_icmp_eq hx hb (tgt := 1721) dL_law_1565 (by decide) (fun _ => K _ _ _ _ I2 (R1.mono (by omega))) (fun h => absurd rfl h)
theorem w_L_38 (C : q_C p s m c b L xs D cI cL adK adV w tA) (I : q_I s D cI cL μ ν H locs) {i N : Nat} (hi : i + 6 ≤ L) (hN : 0 < N) (hN2 : N ≤ 2 ^ 30) (R : Rr N μ ν) (hl : lv_has ls 4 [(0, .ref b), (1, .ref (s.heap.size + 0)), (2, .ref (s.heap.size + 50 + 0)), (3, .int (nI i))]) (K : ∀ (H1 : Heap) (locs1 : List Loc) (μ1 ν1 : z_M), q_I s D cI cL μ1 ν1 H1 locs1 → Rr (N + 41) μ1 ν1 → W p l e room_1 s m #[Value.ref b] below meth c H1 locs1 77 4398 Q (F0 m 1721 ls [])) : W p l e room_1 s m #[Value.ref b] below meth c H locs 77 4398 Q (F0 m 1570 ls []) := by
  have hx := C.1.1
  have hb := C.1.2.1
  obtain ⟨r, μ1, ν1, ⟨n, hc⟩, ⟨n', hm⟩, R1⟩ := ag_forget R hN 
  refine lv_aload_n hx hb dL_law_1570 rfl (lv_at hl 1 rfl) ?_
  refine q_callCi (As := []) (S := []) C I (c_X8_forget (D := D) (cI := cI) (cL := cL) (b := s.heap.size) (Z := q_Zc s.heap.size adK adV w) n  μ) hc zw_X8_forget zv_X8_forget zm_L_177 (n := 0) (by decide) rfl (z_recv gc_0 (T := TX8) (N := 11) rfl) rfl (Nat.le_of_ble_eq_true rfl) (by decide) (by decide) hl.1 dL_law_1571 (fun H1 locs1 I1 => ?_)
  refine lv_aload_n hx hb dL_law_1574 rfl (lv_at hl 2 rfl) ?_
  refine q_callMi (As := []) (S := [.int r]) C I1 (c_X9_forget (D := D) (cI := cI) (cL := cL) (b := s.heap.size + 50) (Z := q_Zm s.heap.size tA) n'  ν) hm zw_X9_forget zv_X9_forget zm_L_180 (n := 0) (by decide) rfl (z_recv gm_0 (T := TX9) (N := 52) rfl) rfl (Nat.le_of_ble_eq_true rfl) (by decide) (by decide) hl.1 dL_law_1575 (fun H2 locs2 I2 => ?_)
  exact lv_icmp_eq hx hb (tgt := 1721) dL_law_1578 (by decide) (fun _ => K _ _ _ _ I2 (R1.mono (by omega))) (fun h => absurd rfl h)
theorem w_L_39 (C : q_C p s m c b L xs D cI cL adK adV w tA) (I : q_I s D cI cL μ ν H locs) {i N : Nat} (hi : i + 6 ≤ L) (hN : 0 < N) (hN2 : N ≤ 2 ^ 30) (R : Rr N μ ν) (hl : lv_has ls 4 [(0, .ref b), (1, .ref (s.heap.size + 0)), (2, .ref (s.heap.size + 50 + 0)), (3, .int (nI i))]) (K : ∀ (H1 : Heap) (locs1 : List Loc) (μ1 ν1 : z_M), q_I s D cI cL μ1 ν1 H1 locs1 → Rr (N + 41) μ1 ν1 → W p l e room_1 s m #[Value.ref b] below meth c H1 locs1 77 4398 Q (F0 m 1721 ls [])) : W p l e room_1 s m #[Value.ref b] below meth c H locs 77 4398 Q (F0 m 1583 ls []) := by
  have hx := C.1.1
  have hb := C.1.2.1
  obtain ⟨r, μ1, ν1, ⟨n, hc⟩, ⟨n', hm⟩, R1⟩ := ag_seed R ((xs (i + 1)))
  refine lv_aload_n hx hb dL_law_1583 rfl (lv_at hl 1 rfl) ?_
  refine q_arg (k := 1) C I.2.2 hl hi (by decide) (by decide) dL_law_1584 dL_law_1585 dL_law_1586 dL_law_1587 dL_law_1588 ?_
  refine q_callCi (As := [.int (xs (i + 1))]) (S := []) C I (c_X8_seed (D := D) (cI := cI) (cL := cL) (b := s.heap.size) (Z := q_Zc s.heap.size adK adV w) ((xs (i + 1))) μ) hc zw_X8_seed zv_X8_seed zm_L_181 (n := 1) (by decide) rfl (z_recv gc_0 (T := TX8) (N := 11) rfl) rfl (Nat.le_of_ble_eq_true rfl) (by decide) (by decide) hl.1 dL_law_1589 (fun H1 locs1 I1 => ?_)
  refine lv_aload_n hx hb dL_law_1592 rfl (lv_at hl 2 rfl) ?_
  refine q_arg (k := 1) C I1.2.2 hl hi (by decide) (by decide) dL_law_1593 dL_law_1594 dL_law_1595 dL_law_1596 dL_law_1597 ?_
  refine q_callMi (As := [.int (xs (i + 1))]) (S := [.int r]) C I1 (c_X9_seed (D := D) (cI := cI) (cL := cL) (b := s.heap.size + 50) (Z := q_Zm s.heap.size tA) ((xs (i + 1))) ν) hm zw_X9_seed zv_X9_seed zm_L_184 (n := 1) (by decide) rfl (z_recv gm_0 (T := TX9) (N := 52) rfl) rfl (Nat.le_of_ble_eq_true rfl) (by decide) (by decide) hl.1 dL_law_1598 (fun H2 locs2 I2 => ?_)
  exact lv_icmp_eq hx hb (tgt := 1721) dL_law_1601 (by decide) (fun _ => K _ _ _ _ I2 (R1.mono (by omega))) (fun h => absurd rfl h)
theorem w_L_40 (C : q_C p s m c b L xs D cI cL adK adV w tA) (I : q_I s D cI cL μ ν H locs) {i N : Nat} (hi : i + 6 ≤ L) (hN : 0 < N) (hN2 : N ≤ 2 ^ 30) (R : Rr N μ ν) (hl : lv_has ls 4 [(0, .ref b), (1, .ref (s.heap.size + 0)), (2, .ref (s.heap.size + 50 + 0)), (3, .int (nI i))]) (K : ∀ (H1 : Heap) (locs1 : List Loc) (μ1 ν1 : z_M), q_I s D cI cL μ1 ν1 H1 locs1 → Rr (N + 41) μ1 ν1 → W p l e room_1 s m #[Value.ref b] below meth c H1 locs1 77 4398 Q (F0 m 1721 ls [])) : W p l e room_1 s m #[Value.ref b] below meth c H locs 77 4398 Q (F0 m 1606 ls []) := by
  have hx := C.1.1
  have hb := C.1.2.1
  obtain ⟨r, μ1, ν1, ⟨n, hc⟩, ⟨n', hm⟩, R1⟩ := ag_act R ((xs (i + 1))) ((xs (i + 2))) ((xs (i + 3)))
  refine lv_aload_n hx hb dL_law_1606 rfl (lv_at hl 1 rfl) ?_
  refine q_arg (k := 1) C I.2.2 hl hi (by decide) (by decide) dL_law_1607 dL_law_1608 dL_law_1609 dL_law_1610 dL_law_1611 ?_
  refine q_arg (k := 2) C I.2.2 hl hi (by decide) (by decide) dL_law_1612 dL_law_1613 dL_law_1614 dL_law_1615 dL_law_1616 ?_
  refine q_arg (k := 3) C I.2.2 hl hi (by decide) (by decide) dL_law_1617 dL_law_1618 dL_law_1619 dL_law_1620 dL_law_1621 ?_
  refine q_callCi (As := [.int (xs (i + 1)), .int (xs (i + 2)), .int (xs (i + 3))]) (S := []) C I (c_X8_act (D := D) (cI := cI) (cL := cL) (b := s.heap.size) (Z := q_Zc s.heap.size adK adV w) ((xs (i + 1))) ((xs (i + 2))) ((xs (i + 3))) μ) hc zw_X8_act zv_X8_act zm_L_185 (n := 3) (by decide) rfl (z_recv gc_0 (T := TX8) (N := 11) rfl) rfl (Nat.le_of_ble_eq_true rfl) (by decide) (by decide) hl.1 dL_law_1622 (fun H1 locs1 I1 => ?_)
  refine lv_aload_n hx hb dL_law_1625 rfl (lv_at hl 2 rfl) ?_
  refine q_arg (k := 1) C I1.2.2 hl hi (by decide) (by decide) dL_law_1626 dL_law_1627 dL_law_1628 dL_law_1629 dL_law_1630 ?_
  refine q_arg (k := 2) C I1.2.2 hl hi (by decide) (by decide) dL_law_1631 dL_law_1632 dL_law_1633 dL_law_1634 dL_law_1635 ?_
  refine q_arg (k := 3) C I1.2.2 hl hi (by decide) (by decide) dL_law_1636 dL_law_1637 dL_law_1638 dL_law_1639 dL_law_1640 ?_
  refine q_callMi (As := [.int (xs (i + 1)), .int (xs (i + 2)), .int (xs (i + 3))]) (S := [.int r]) C I1 (c_X9_act (D := D) (cI := cI) (cL := cL) (b := s.heap.size + 50) (Z := q_Zm s.heap.size tA) ((xs (i + 1))) ((xs (i + 2))) ((xs (i + 3))) ν) hm zw_X9_act zv_X9_act zm_L_188 (n := 3) (by decide) rfl (z_recv gm_0 (T := TX9) (N := 52) rfl) rfl (Nat.le_of_ble_eq_true rfl) (by decide) (by decide) hl.1 dL_law_1641 (fun H2 locs2 I2 => ?_)
  exact lv_icmp_eq hx hb (tgt := 1721) dL_law_1644 (by decide) (fun _ => K _ _ _ _ I2 (R1.mono (by omega))) (fun h => absurd rfl h)
theorem w_L_41 (C : q_C p s m c b L xs D cI cL adK adV w tA) (I : q_I s D cI cL μ ν H locs) {i N : Nat} (hi : i + 6 ≤ L) (hN : 0 < N) (hN2 : N ≤ 2 ^ 30) (R : Rr N μ ν) (hl : lv_has ls 4 [(0, .ref b), (1, .ref (s.heap.size + 0)), (2, .ref (s.heap.size + 50 + 0)), (3, .int (nI i))]) (K : ∀ (H1 : Heap) (locs1 : List Loc) (μ1 ν1 : z_M), q_I s D cI cL μ1 ν1 H1 locs1 → Rr (N + 41) μ1 ν1 → W p l e room_1 s m #[Value.ref b] below meth c H1 locs1 77 4398 Q (F0 m 1721 ls [])) : W p l e room_1 s m #[Value.ref b] below meth c H locs 77 4398 Q (F0 m 1649 ls []) := by
  have hx := C.1.1
  have hb := C.1.2.1
  obtain ⟨r, μ1, ν1, ⟨n, hc⟩, ⟨n', hm⟩, R1⟩ := ag_trace R ((xs (i + 1)))
  refine lv_aload_n hx hb dL_law_1649 rfl (lv_at hl 1 rfl) ?_
  refine q_arg (k := 1) C I.2.2 hl hi (by decide) (by decide) dL_law_1650 dL_law_1651 dL_law_1652 dL_law_1653 dL_law_1654 ?_
  refine q_callCi (As := [.int (xs (i + 1))]) (S := []) C I (c_X8_trace (D := D) (cI := cI) (cL := cL) (b := s.heap.size) (Z := q_Zc s.heap.size adK adV w) ((xs (i + 1))) μ) hc zw_X8_trace zv_X8_trace zm_L_189 (n := 1) (by decide) rfl (z_recv gc_0 (T := TX8) (N := 11) rfl) rfl (Nat.le_of_ble_eq_true rfl) (by decide) (by decide) hl.1 dL_law_1655 (fun H1 locs1 I1 => ?_)
  refine lv_aload_n hx hb dL_law_1658 rfl (lv_at hl 2 rfl) ?_
  refine q_arg (k := 1) C I1.2.2 hl hi (by decide) (by decide) dL_law_1659 dL_law_1660 dL_law_1661 dL_law_1662 dL_law_1663 ?_
  refine q_callMi (As := [.int (xs (i + 1))]) (S := [.int r]) C I1 (c_X9_trace (D := D) (cI := cI) (cL := cL) (b := s.heap.size + 50) (Z := q_Zm s.heap.size tA) ((xs (i + 1))) ν) hm zw_X9_trace zv_X9_trace zm_L_192 (n := 1) (by decide) rfl (z_recv gm_0 (T := TX9) (N := 52) rfl) rfl (Nat.le_of_ble_eq_true rfl) (by decide) (by decide) hl.1 dL_law_1664 (fun H2 locs2 I2 => ?_)
  exact lv_icmp_eq hx hb (tgt := 1721) dL_law_1667 (by decide) (fun _ => K _ _ _ _ I2 (R1.mono (by omega))) (fun h => absurd rfl h)
theorem w_L_42 (C : q_C p s m c b L xs D cI cL adK adV w tA) (I : q_I s D cI cL μ ν H locs) {i N : Nat} (hi : i + 6 ≤ L) (hN : 0 < N) (hN2 : N ≤ 2 ^ 30) (R : Rr N μ ν) (hl : lv_has ls 4 [(0, .ref b), (1, .ref (s.heap.size + 0)), (2, .ref (s.heap.size + 50 + 0)), (3, .int (nI i))]) (K : ∀ (H1 : Heap) (locs1 : List Loc) (μ1 ν1 : z_M), q_I s D cI cL μ1 ν1 H1 locs1 → Rr (N + 41) μ1 ν1 → W p l e room_1 s m #[Value.ref b] below meth c H1 locs1 77 4398 Q (F0 m 1721 ls [])) : W p l e room_1 s m #[Value.ref b] below meth c H locs 77 4398 Q (F0 m 1672 ls []) := by
  have hx := C.1.1
  have hb := C.1.2.1
  obtain ⟨r, μ1, ν1, ⟨n, hc⟩, ⟨n', hm⟩, R1⟩ := ag_image R 
  refine lv_aload_n hx hb dL_law_1672 rfl (lv_at hl 1 rfl) ?_
  refine q_callCi (As := []) (S := []) C I (c_X8_image (D := D) (cI := cI) (cL := cL) (b := s.heap.size) (Z := q_Zc s.heap.size adK adV w)  μ) hc zw_X8_image zv_X8_image zm_L_193 (n := 0) (by decide) rfl (z_recv gc_0 (T := TX8) (N := 11) rfl) rfl (Nat.le_of_ble_eq_true rfl) (by decide) (by decide) hl.1 dL_law_1673 (fun H1 locs1 I1 => ?_)
  refine lv_aload_n hx hb dL_law_1676 rfl (lv_at hl 2 rfl) ?_
  refine q_callMi (As := []) (S := [.int r]) C I1 (c_X9_image (D := D) (cI := cI) (cL := cL) (b := s.heap.size + 50) (Z := q_Zm s.heap.size tA) n'  ν) hm zw_X9_image zv_X9_image zm_L_196 (n := 0) (by decide) rfl (z_recv gm_0 (T := TX9) (N := 52) rfl) rfl (Nat.le_of_ble_eq_true rfl) (by decide) (by decide) hl.1 dL_law_1677 (fun H2 locs2 I2 => ?_)
  exact lv_icmp_eq hx hb (tgt := 1721) dL_law_1680 (by decide) (fun _ => K _ _ _ _ I2 (R1.mono (by omega))) (fun h => absurd rfl h)
theorem w_L_43 (C : q_C p s m c b L xs D cI cL adK adV w tA) (I : q_I s D cI cL μ ν H locs) {i N : Nat} (hi : i + 6 ≤ L) (hN : 0 < N) (hN2 : N ≤ 2 ^ 30) (R : Rr N μ ν) (hl : lv_has ls 4 [(0, .ref b), (1, .ref (s.heap.size + 0)), (2, .ref (s.heap.size + 50 + 0)), (3, .int (nI i))]) (K : ∀ (H1 : Heap) (locs1 : List Loc) (μ1 ν1 : z_M), q_I s D cI cL μ1 ν1 H1 locs1 → Rr (N + 41) μ1 ν1 → W p l e room_1 s m #[Value.ref b] below meth c H1 locs1 77 4398 Q (F0 m 1721 ls [])) : W p l e room_1 s m #[Value.ref b] below meth c H locs 77 4398 Q (F0 m 1685 ls []) := by
  have hx := C.1.1
  have hb := C.1.2.1
  obtain ⟨r, μ1, ν1, ⟨n, hc⟩, ⟨n', hm⟩, R1⟩ := ag_restore R 
  refine lv_aload_n hx hb dL_law_1685 rfl (lv_at hl 1 rfl) ?_
  refine q_callCi (As := []) (S := []) C I (c_X8_restore (D := D) (cI := cI) (cL := cL) (b := s.heap.size) (Z := q_Zc s.heap.size adK adV w) n  μ) hc zw_X8_restore zv_X8_restore zm_L_197 (n := 0) (by decide) rfl (z_recv gc_0 (T := TX8) (N := 11) rfl) rfl (Nat.le_of_ble_eq_true rfl) (by decide) (by decide) hl.1 dL_law_1686 (fun H1 locs1 I1 => ?_)
  refine lv_aload_n hx hb dL_law_1689 rfl (lv_at hl 2 rfl) ?_
  refine q_callMi (As := []) (S := [.int r]) C I1 (c_X9_restore (D := D) (cI := cI) (cL := cL) (b := s.heap.size + 50) (Z := q_Zm s.heap.size tA) n'  ν) hm zw_X9_restore zv_X9_restore zm_L_200 (n := 0) (by decide) rfl (z_recv gm_0 (T := TX9) (N := 52) rfl) rfl (Nat.le_of_ble_eq_true rfl) (by decide) (by decide) hl.1 dL_law_1690 (fun H2 locs2 I2 => ?_)
  exact lv_icmp_eq hx hb (tgt := 1721) dL_law_1693 (by decide) (fun _ => K _ _ _ _ I2 (R1.mono (by omega))) (fun h => absurd rfl h)
theorem w_L_44 (C : q_C p s m c b L xs D cI cL adK adV w tA) (I : q_I s D cI cL μ ν H locs) {i N : Nat} (hi : i + 6 ≤ L) (hN : 0 < N) (hN2 : N ≤ 2 ^ 30) (R : Rr N μ ν) (hl : lv_has ls 4 [(0, .ref b), (1, .ref (s.heap.size + 0)), (2, .ref (s.heap.size + 50 + 0)), (3, .int (nI i))]) (K : ∀ (H1 : Heap) (locs1 : List Loc) (μ1 ν1 : z_M), q_I s D cI cL μ1 ν1 H1 locs1 → Rr (N + 41) μ1 ν1 → W p l e room_1 s m #[Value.ref b] below meth c H1 locs1 77 4398 Q (F0 m 1721 ls [])) : W p l e room_1 s m #[Value.ref b] below meth c H locs 77 4398 Q (F0 m 1698 ls []) := by
  have hx := C.1.1
  have hb := C.1.2.1
  obtain ⟨r, μ1, ν1, ⟨n, hc⟩, ⟨n', hm⟩, R1⟩ := ag_status R ((xs (i + 1)))
  refine lv_aload_n hx hb dL_law_1698 rfl (lv_at hl 1 rfl) ?_
  refine q_arg (k := 1) C I.2.2 hl hi (by decide) (by decide) dL_law_1699 dL_law_1700 dL_law_1701 dL_law_1702 dL_law_1703 ?_
  refine q_callCi (As := [.int (xs (i + 1))]) (S := []) C I (c_X8_status (D := D) (cI := cI) (cL := cL) (b := s.heap.size) (Z := q_Zc s.heap.size adK adV w) n ((xs (i + 1))) μ) hc zw_X8_status zv_X8_status zm_L_201 (n := 1) (by decide) rfl (z_recv gc_0 (T := TX8) (N := 11) rfl) rfl (Nat.le_of_ble_eq_true rfl) (by decide) (by decide) hl.1 dL_law_1704 (fun H1 locs1 I1 => ?_)
  refine lv_aload_n hx hb dL_law_1707 rfl (lv_at hl 2 rfl) ?_
  refine q_arg (k := 1) C I1.2.2 hl hi (by decide) (by decide) dL_law_1708 dL_law_1709 dL_law_1710 dL_law_1711 dL_law_1712 ?_
  refine q_callMi (As := [.int (xs (i + 1))]) (S := [.int r]) C I1 (c_X9_status (D := D) (cI := cI) (cL := cL) (b := s.heap.size + 50) (Z := q_Zm s.heap.size tA) n' ((xs (i + 1))) ν) hm zw_X9_status zv_X9_status zm_L_204 (n := 1) (by decide) rfl (z_recv gm_0 (T := TX9) (N := 52) rfl) rfl (Nat.le_of_ble_eq_true rfl) (by decide) (by decide) hl.1 dL_law_1713 (fun H2 locs2 I2 => ?_)
  exact lv_icmp_eq hx hb (tgt := 1721) dL_law_1716 (by decide) (fun _ => K _ _ _ _ I2 (R1.mono (by omega))) (fun h => absurd rfl h)
end QK
