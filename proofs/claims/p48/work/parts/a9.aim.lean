/-! the law: aim() and what follows -/
section QA
variable {p0 : Program} {l : Launch} {e : Env} {s : State} {m : MethodId} {below : List Frame} {meth : Method} {c : Code} {Q : State → Prop} {b L : Nat} {xs : Nat → Int32} {D : va_G} {cI cL : ClassId} {T0 : zS} {hh ww gg bb : Nat} {cA : ClassId} {ra k hr hm w : Nat} {p : List Nat}
theorem q_tell (C : q_C p0 s m c b L xs D cI cL) (F : ∀ (H : Heap) (locs : List Loc) (ls : Array Slot), va_S (q_A s) s.heap H locs → lv_has ls 14 [] → W p0 l e room_1 s m #[Value.ref b] below meth c H locs 100 5000 Q (F0 m 597 ls [])) (K3 : va_K D vwCl [(cI, .int), (cL, .long), (cA, .int)] s) (hA : AvV T0 gg ww bb k hr hm (sb w) = some p) (hh1 : hr < hh) (hh2 : hm < hh) (hw : w < 8) (h1 : 1 ≤ k) (h3 : k ≤ 3) (g1 : gb (hdV T0 gg ww bb p hr) w = true) (g2 : gb (hdV T0 gg ww bb p hm) w = false) (hp : p.length ≤ 6) (u : ups (okL T0 0 ww bb) 8 [] p) {f : Nat → Int32} (hf : ∀ j, j < p.length → f j = nI (hsAt p j)) {H : Heap} {locs : List Loc} {μ : z_M} {ls : Array Slot} (I : q_I s D cI cL μ [(ra, .inl (cA, p.length, .inl f))] H locs) (CC : Cs μ T0 hh ww gg bb) (hl : lv_has ls 14 [(1, .ref (s.heap.size + 0)), (3, .int (nI k)), (6, .int (nI hr)), (7, .int (nI hm)), (8, .int (sb w)), (9, .int (nI p.length)), (10, .ref ra)]) : W p0 l e room_1 s m #[Value.ref b] below meth c H locs 100 5000 Q (F0 m 425 ls []) := by
  have hx := C.1.1
  have hb := C.1.2.1
  have hw32 : w < 32 := by omega
  have hv : 2 ^ w < 256 := Nat.pow_lt_pow_right (by decide) hw
  obtain ⟨μ1, e1, D1, f1⟩ := cList (μ := μ) (m := p.length) (xs := f) (by omega) 100 (by omega)
  refine lv_aload_n hx hb dL_law_425 rfl (z_look_at hl rfl) ?_
  refine lv_iconst hx hb dL_law_426 zci_1 ?_
  refine lv_aload hx hb dL_law_427 (z_look_at hl rfl) ?_
  refine q_callSv C I (q_zr K3 I (show p.length < 2 ^ 31 by omega)) (As := [.ref (s.heap.size + 0), .int 1, .ref ra]) (S := []) (c_L_list q_hz 100 (nI 1) μ) e1 zw_L_list zs_L_list zm_L_88 (n := 3) (by decide) rfl rfl (Nat.le_of_ble_eq_true rfl) (by decide) (by decide) (q_lv hl) (Nat.le_of_ble_eq_true rfl) (Nat.le_of_ble_eq_true rfl) dL_law_429 (fun H locs I => ?_)
  have CC := CC.row f1
  refine lv_aload_n hx hb dL_law_432 rfl (z_look_at hl rfl) ?_
  refine lv_iconst hx hb dL_law_433 zci_1 ?_
  refine lv_iload hx hb dL_law_434 (z_look_at hl rfl) ?_
  obtain ⟨μ2, e2, k2⟩ := cJudge CC hp u hf D1
  refine q_callVi C I (q_zs C I) (As := [.int 1, .int (nI p.length)]) (S := []) (c_X8_judge 700000 (nI 1) (nI p.length) μ1) e2 zw_X8_judge zv_X8_judge zm_L_92 (n := 2) (by decide) rfl (z_recv gc_0 (T := TX8) (N := 11) rfl) rfl (Nat.le_of_ble_eq_true rfl) (by decide) (by decide) (q_lv hl) (Nat.le_of_ble_eq_true rfl) (Nat.le_of_ble_eq_true rfl) dL_law_436 (fun H locs I => ?_)
  have CC := CC.kc k2
  have D1 := D1.same k2
  refine lv_iconst hx hb dL_law_439 zci_m1 ?_
  refine lv_icmp_ne hx hb (tgt := 497) dL_law_440 (by decide) (fun h => absurd h (fun q => q rfl)) (fun _ => ?_)
  refine lv_aload_n hx hb dL_law_443 rfl (z_look_at hl rfl) ?_
  refine lv_iconst hx hb dL_law_444 zci_1 ?_
  refine lv_iload hx hb dL_law_445 (z_look_at hl rfl) ?_
  obtain ⟨μ3, e3, k3⟩ := cMinutes CC hp u hf D1
  refine q_callVi C I (q_zs C I) (As := [.int 1, .int (nI p.length)]) (S := []) (c_X8_minutes 700000 (nI 1) (nI p.length) μ2) e3 zw_X8_minutes zv_X8_minutes zm_L_95 (n := 2) (by decide) rfl (z_recv gc_0 (T := TX8) (N := 11) rfl) rfl (Nat.le_of_ble_eq_true rfl) (by decide) (by decide) (q_lv hl) (Nat.le_of_ble_eq_true rfl) (Nat.le_of_ble_eq_true rfl) dL_law_447 (fun H locs I => ?_)
  have CC := CC.kc k3
  have D1 := D1.same k3
  refine lv_aload_n hx hb dL_law_450 rfl (z_look_at hl rfl) ?_
  refine lv_iload hx hb dL_law_451 (z_look_at hl rfl) ?_
  refine lv_iload hx hb dL_law_453 (z_look_at hl rfl) ?_
  refine lv_iload hx hb dL_law_455 (z_look_at hl rfl) ?_
  refine lv_iload_n hx hb dL_law_457 rfl (z_look_at hl rfl) ?_
  refine lv_iconst hx hb dL_law_458 zci_0 ?_
  obtain ⟨r4, μ4, e4, t4, k4⟩ := cAimT CC hh1 hh2 hv h1 (show k ≤ 6 by omega) 0 (by decide)
  have t4 : tdv (tR T0 gg (fun a c => sLk T0 0 a c ww) bb (t00 T0 false 0)) (AvV T0 gg ww bb k hr hm (sb w)) 0 r4 := t4
  rw [hA] at t4
  refine q_callVi C I (q_zs C I) (As := [.int (nI hr), .int (nI hm), .int (sb w), .int (nI k), .int 0]) (S := [.int (tR T0 gg (fun a c => sLk T0 0 a c ww) bb (t00 T0 false 0) p 4 1)]) (c_X8_aim 700000 (nI hr) (nI hm) (sb w) (nI k) 0 μ3) e4 zw_X8_aim zv_X8_aim zm_L_84 (n := 5) (by decide) rfl (z_recv gc_0 (T := TX8) (N := 11) rfl) rfl (Nat.le_of_ble_eq_true rfl) (by decide) (by decide) (q_lv hl) (Nat.le_of_ble_eq_true rfl) (Nat.le_of_ble_eq_true rfl) dL_law_459 (fun H locs I => ?_)
  have CC := CC.kc k4
  have D1 := D1.same k4
  refine lv_icmp_ne hx hb (tgt := 497) dL_law_462 (by decide) (fun h => absurd h (fun q => q (t4.2.1 rfl).symm)) (fun _ => ?_)
  refine lv_aload_n hx hb dL_law_465 rfl (z_look_at hl rfl) ?_
  refine lv_iconst hx hb dL_law_466 zci_1 ?_
  refine lv_iload hx hb dL_law_467 (z_look_at hl rfl) ?_
  refine lv_iload hx hb dL_law_469 (z_look_at hl rfl) ?_
  obtain ⟨μ5, e5, k5⟩ := cHears CC hh1 hp u hf D1
  refine q_callVi C I (q_zs C I) (As := [.int 1, .int (nI p.length), .int (nI hr)]) (S := []) (c_X8_hears 700000 (nI 1) (nI p.length) (nI hr) μ4) e5 zw_X8_hears zv_X8_hears zm_L_98 (n := 3) (by decide) rfl (z_recv gc_0 (T := TX8) (N := 11) rfl) rfl (Nat.le_of_ble_eq_true rfl) (by decide) (by decide) (q_lv hl) (Nat.le_of_ble_eq_true rfl) (Nat.le_of_ble_eq_true rfl) dL_law_471 (fun H locs I => ?_)
  have CC := CC.kc k5
  have D1 := D1.same k5
  refine lv_iload hx hb dL_law_474 (z_look_at hl rfl) ?_
  refine lv_iand hx hb dL_law_476 ?_
  refine lv_iload hx hb dL_law_477 (z_look_at hl rfl) ?_
  refine lv_icmp_ne hx hb (tgt := 497) dL_law_479 (by decide) (fun h => absurd h (fun q => q ((and_sb_eq hw32).2 g1))) (fun _ => ?_)
  refine lv_aload_n hx hb dL_law_482 rfl (z_look_at hl rfl) ?_
  refine lv_iconst hx hb dL_law_483 zci_1 ?_
  refine lv_iload hx hb dL_law_484 (z_look_at hl rfl) ?_
  refine lv_iload hx hb dL_law_486 (z_look_at hl rfl) ?_
  obtain ⟨μ6, e6, k6⟩ := cHears CC hh2 hp u hf D1
  refine q_callVi C I (q_zs C I) (As := [.int 1, .int (nI p.length), .int (nI hm)]) (S := []) (c_X8_hears 700000 (nI 1) (nI p.length) (nI hm) μ5) e6 zw_X8_hears zv_X8_hears zm_L_98 (n := 3) (by decide) rfl (z_recv gc_0 (T := TX8) (N := 11) rfl) rfl (Nat.le_of_ble_eq_true rfl) (by decide) (by decide) (q_lv hl) (Nat.le_of_ble_eq_true rfl) (Nat.le_of_ble_eq_true rfl) dL_law_488 (fun H locs I => ?_)
  have CC := CC.kc k6
  have D1 := D1.same k6
  refine lv_iload hx hb dL_law_491 (z_look_at hl rfl) ?_
  refine lv_iand hx hb dL_law_493 ?_
  refine lv_if_eq hx hb (tgt := 499) dL_law_494 (by decide) (fun _ => ?_) (fun h => absurd ((and_sb hw32).2 g2) h)
  refine lv_aload_n hx hb dL_law_499 rfl (z_look_at hl rfl) ?_
  refine lv_iconst hx hb dL_law_500 zci_4 ?_
  refine q_callVi C I (q_zs C I) (As := [.int 4]) (S := []) (c_X8_status 100 4 μ6) (cStatus4 CC.1 100) zw_X8_status zv_X8_status zm_L_27 (n := 1) (by decide) rfl (z_recv gc_0 (T := TX8) (N := 11) rfl) rfl (Nat.le_of_ble_eq_true rfl) (by decide) (by decide) (q_lv hl) (Nat.le_of_ble_eq_true rfl) (Nat.le_of_ble_eq_true rfl) dL_law_501 (fun H locs I => ?_)
  refine lv_istore hx hb dL_law_504 hl (by decide) rfl (fun ls hl => ?_)
  have hl : lv_has ls 14 [(1, .ref (s.heap.size + 0)), (3, .int (nI k)), (6, .int (nI hr)), (7, .int (nI hm)), (8, .int (sb w)), (9, .int (nI p.length)), (10, .ref ra), (11, .int (T0 10 4))] := z_sto1_has hl
  refine lv_aload_n hx hb dL_law_506 rfl (z_look_at hl rfl) ?_
  refine lv_iconst hx hb dL_law_507 zci_1 ?_
  refine lv_iload hx hb dL_law_508 (z_look_at hl rfl) ?_
  obtain ⟨μ7, e7, k7⟩ := cMinutes CC hp u hf D1
  refine q_callVi C I (q_zs C I) (As := [.int 1, .int (nI p.length)]) (S := []) (c_X8_minutes 700000 (nI 1) (nI p.length) μ6) e7 zw_X8_minutes zv_X8_minutes zm_L_95 (n := 2) (by decide) rfl (z_recv gc_0 (T := TX8) (N := 11) rfl) rfl (Nat.le_of_ble_eq_true rfl) (by decide) (by decide) (q_lv hl) (Nat.le_of_ble_eq_true rfl) (Nat.le_of_ble_eq_true rfl) dL_law_510 (fun H locs I => ?_)
  have CC := CC.kc k7
  refine lv_istore hx hb dL_law_513 hl (by decide) rfl (fun ls hl => ?_)
  have hl : lv_has ls 14 [(1, .ref (s.heap.size + 0)), (3, .int (nI k)), (6, .int (nI hr)), (7, .int (nI hm)), (8, .int (sb w)), (9, .int (nI p.length)), (10, .ref ra), (11, .int (T0 10 4)), (12, .int (tR T0 gg (fun a c => sLk T0 0 a c ww) bb (t00 T0 false 0) p 4 1))] := z_sto1_has hl
  refine lv_iconst hx hb dL_law_515 zci_0 ?_
  refine lv_istore hx hb dL_law_516 hl (by decide) rfl (fun ls hl => ?_)
  have hl : lv_has ls 14 [(1, .ref (s.heap.size + 0)), (3, .int (nI k)), (6, .int (nI hr)), (7, .int (nI hm)), (8, .int (sb w)), (9, .int (nI p.length)), (10, .ref ra), (11, .int (T0 10 4)), (12, .int (tR T0 gg (fun a c => sLk T0 0 a c ww) bb (t00 T0 false 0) p 4 1)), (13, .int 0)] := z_sto1_has hl
  exact q_golp C F K3 hh1 hw32 g1 hp u ⟨μ7, CC⟩ hf p.length 0 T0 H locs μ7 ls (by omega) I (by rw [Nat.sub_zero, List.drop_length]; exact CC) (by rw [Nat.sub_zero, List.drop_length]; exact Sm.nil T0 gg ww bb) (lv_sub hl [0, 2, 4, 5, 6, 7, 8, 9] rfl)
theorem q_fill (C : q_C p0 s m c b L xs D cI cL) (F : ∀ (H : Heap) (locs : List Loc) (ls : Array Slot), va_S (q_A s) s.heap H locs → lv_has ls 14 [] → W p0 l e room_1 s m #[Value.ref b] below meth c H locs 100 5000 Q (F0 m 597 ls [])) (K3 : va_K D vwCl [(cI, .int), (cL, .long), (cA, .int)] s) (hA : AvV T0 gg ww bb k hr hm (sb w) = some p) (hh1 : hr < hh) (hh2 : hm < hh) (hw : w < 8) (h1 : 1 ≤ k) (h3 : k ≤ 3) (g1 : gb (hdV T0 gg ww bb p hr) w = true) (g2 : gb (hdV T0 gg ww bb p hm) w = false) (hp : p.length ≤ 6) (u : ups (okL T0 0 ww bb) 8 [] p) : ∀ (d j : Nat) (f : Nat → Int32) (H : Heap) (locs : List Loc) (μ : z_M) (ls : Array Slot), j + d = p.length → (∀ t, t < j → f t = nI (hsAt p t)) → q_I s D cI cL μ [(ra, .inl (cA, p.length, .inl f))] H locs → Cs μ T0 hh ww gg bb → lv_has ls 14 [(1, .ref (s.heap.size + 0)), (3, .int (nI k)), (6, .int (nI hr)), (7, .int (nI hm)), (8, .int (sb w)), (9, .int (nI p.length)), (10, .ref ra), (11, .int (nI j))] → W p0 l e room_1 s m #[Value.ref b] below meth c H locs 100 5000 Q (F0 m 392 ls []) := by
  have hx := C.1.1
  have hb := C.1.2.1
  have hv : 2 ^ w < 256 := Nat.pow_lt_pow_right (by decide) hw
  intro d
  induction d with
  | zero =>
    intro j f H locs μ ls he hf I CC hl
    refine lv_iload hx hb dL_law_392 (z_look_at hl rfl) ?_
    refine lv_iload hx hb dL_law_394 (z_look_at hl rfl) ?_
    refine lv_icmp_ge hx hb (tgt := 425) dL_law_396 (by decide) (fun _ => ?_) (fun h => absurd (nI_le' (a := p.length) (b := j) (by omega) (by omega)) h)
    exact q_tell C F K3 hA hh1 hh2 hw h1 h3 g1 g2 hp u (fun t ht => hf t (by omega)) I CC (lv_sub hl [0, 1, 2, 3, 4, 5, 6] rfl)
  | succ d ih =>
    intro j f H locs μ ls he hf I CC hl
    refine lv_iload hx hb dL_law_392 (z_look_at hl rfl) ?_
    refine lv_iload hx hb dL_law_394 (z_look_at hl rfl) ?_
    refine lv_icmp_ge hx hb (tgt := 425) dL_law_396 (by decide) (fun h => absurd h (nI_nle' (a := p.length) (b := j) (by omega) (by omega))) (fun _ => ?_)
    refine lv_aload hx hb dL_law_399 (z_look_at hl rfl) ?_
    refine lv_iload hx hb dL_law_401 (z_look_at hl rfl) ?_
    refine lv_aload_n hx hb dL_law_403 rfl (z_look_at hl rfl) ?_
    refine lv_iload hx hb dL_law_404 (z_look_at hl rfl) ?_
    refine lv_iload hx hb dL_law_406 (z_look_at hl rfl) ?_
    refine lv_iload hx hb dL_law_408 (z_look_at hl rfl) ?_
    refine lv_iload_n hx hb dL_law_410 rfl (z_look_at hl rfl) ?_
    refine lv_iconst hx hb dL_law_411 zci_2 ?_
    refine lv_iload hx hb dL_law_412 (z_look_at hl rfl) ?_
    refine lv_iadd hx hb dL_law_414 ?_
    rw [show (2 : Int32) + nI j = nI (2 + j) from nI_add 2 j]
    obtain ⟨r4, μ4, e4, t4, k4⟩ := cAimT CC hh1 hh2 hv h1 (show k ≤ 6 by omega) (nI (2 + j)) (nI_pos (by omega))
    have t4 : tdv (tR T0 gg (fun a c => sLk T0 0 a c ww) bb (t00 T0 false 0)) (AvV T0 gg ww bb k hr hm (sb w)) (nI (2 + j)) r4 := t4
    rw [hA] at t4
    refine q_callVi C I (q_zs C I) (As := [.int (nI hr), .int (nI hm), .int (sb w), .int (nI k), .int (nI (2 + j))]) (S := [.int (nI j), .ref ra]) (c_X8_aim 700000 (nI hr) (nI hm) (sb w) (nI k) (nI (2 + j)) μ) e4 zw_X8_aim zv_X8_aim zm_L_84 (n := 5) (by decide) rfl (z_recv gc_0 (T := TX8) (N := 11) rfl) rfl (Nat.le_of_ble_eq_true rfl) (by decide) (by decide) (q_lv hl) (Nat.le_of_ble_eq_true rfl) (Nat.le_of_ble_eq_true rfl) dL_law_415 (fun H locs I => ?_)
    have CC := CC.kc k4
    have hfr := q_fresh I.2.1
    refine va_iast hx hb K3 I.1 I.2.1 I.2.2.1 50 2 q_at50 rfl (vp_in_iff.mpr (by rw [nI_toInt (by omega)]; omega)) dL_law_418 (fun H locs hP1 hD1 hS1 => ?_)
    have h50 : (z_wf cI cL s.heap.size μ4 0 G_c).length = 50 := z_wf_len cI cL _ μ4 G_c 0
    rw [set_last h50] at hP1 hD1
    have I : q_I s D cI cL μ4 [(ra, .inl (cA, p.length, .inl (upd f (nI j).toNatClampNeg r4)))] H locs := ⟨hP1, hD1, hS1, q_one hfr⟩
    refine z_iinc0 hx hb dL_law_419 hl (x := nI j) rfl (v := nI (j + 1)) (i_inc j) (by decide) (fun ls hl => ?_)
    have hl : lv_has ls 14 [(1, .ref (s.heap.size + 0)), (3, .int (nI k)), (6, .int (nI hr)), (7, .int (nI hm)), (8, .int (sb w)), (9, .int (nI p.length)), (10, .ref ra), (11, .int (nI (j + 1)))] := z_sto1_has hl
    refine lv_goto hx hb (tgt := 392) dL_law_422 (by decide) ?_
    refine ih (j + 1) _ H locs μ4 ls (by omega) (fun t ht => ?_) I CC (lv_sub hl [0, 1, 2, 3, 4, 5, 6, 7] rfl)
    unfold upd
    rw [nI_clamp (by omega)]
    by_cases z : t = j
    · rw [if_pos z, z]
      exact t4.2.2.2 j (by omega) rfl
    · rw [if_neg z]
      exact hf t (by omega)
theorem q_aim (C : q_C p0 s m c b L xs D cI cL) (F : ∀ (H : Heap) (locs : List Loc) (ls : Array Slot), va_S (q_A s) s.heap H locs → lv_has ls 14 [] → W p0 l e room_1 s m #[Value.ref b] below meth c H locs 100 5000 Q (F0 m 597 ls [])) (hgt : 0 < hh) (h1 : 1 ≤ k) (h3 : k ≤ 3) {H : Heap} {locs : List Loc} {μ : z_M} {ls : Array Slot} (I : q_I s D cI cL μ [] H locs) (CC : Cs μ T0 hh ww gg bb) (hl : lv_has ls 14 [(0, .ref b), (1, .ref (s.heap.size + 0)), (2, .int (nI hh)), (3, .int (nI k))]) : W p0 l e room_1 s m #[Value.ref b] below meth c H locs 60 3000 Q (F0 m 320 ls []) := by
  have hx := C.1.1
  have hb := C.1.2.1
  have h8 := CC.2.2.2.1.1
  have hL := C.2.2.1
  obtain ⟨hr, hh1, ep1⟩ : ∃ hr, hr < hh ∧ ∀ μ, f_L_pick (clV L xs 25) (nI hh) μ = some (nI hr, μ) := ⟨_, pkV_lt (v := clV L xs 25) hgt, fun μ => pickE hgt (by omega) μ⟩
  obtain ⟨hm, hh2, ep2⟩ : ∃ hm, hm < hh ∧ ∀ μ, f_L_pick (clV L xs 26) (nI hh) μ = some (nI hm, μ) := ⟨_, pkV_lt (v := clV L xs 26) hgt, fun μ => pickE hgt (by omega) μ⟩
  obtain ⟨w, hw5, ep3⟩ : ∃ w, w < 5 ∧ ∀ μ, f_L_pick (clV L xs 27) (nI 5) μ = some (nI w, μ) := ⟨_, pkV_lt (v := clV L xs 27) (by omega), fun μ => pickE (by omega) (by omega) μ⟩
  have hw : w < 8 := by omega
  have hv : 2 ^ w < 256 := Nat.pow_lt_pow_right (by decide) hw
  refine lv_aload_n hx hb dL_law_320 rfl (z_look_at hl rfl) ?_
  refine q_callVi C I (q_zs C I) (As := []) (S := []) (c_X8_where μ) (congrArg (fun v => some (v, μ)) CC.c6) zw_X8_where zv_X8_where zm_L_80 (n := 0) (by decide) rfl (z_recv gc_0 (T := TX8) (N := 11) rfl) rfl (Nat.le_of_ble_eq_true rfl) (by decide) (by decide) (q_lv hl) (Nat.le_of_ble_eq_true rfl) (Nat.le_of_ble_eq_true rfl) dL_law_321 (fun H locs I => ?_)
  refine lv_istore hx hb dL_law_324 hl (by decide) rfl (fun ls hl => ?_)
  have hl : lv_has ls 14 [(0, .ref b), (1, .ref (s.heap.size + 0)), (2, .int (nI hh)), (3, .int (nI k)), (5, .int (nI bb))] := z_sto1_has hl
  refine lv_aload_n hx hb dL_law_326 rfl (z_look_at hl rfl) ?_
  refine lv_bipush hx hb dL_law_327 zcb_25 ?_
  refine q_callSi C I (q_zs C I) (As := [.ref b, .int 25]) (S := []) (c_L_cell q_hz (nI 25) μ) (cellE (j := 25) hL (by omega) μ) zw_L_cell zs_L_cell zm_L_8 (n := 2) (by decide) rfl rfl (Nat.le_of_ble_eq_true rfl) (by decide) (by decide) (q_lv hl) (Nat.le_of_ble_eq_true rfl) (Nat.le_of_ble_eq_true rfl) dL_law_329 (fun H locs I => ?_)
  refine lv_iload_n hx hb dL_law_332 rfl (z_look_at hl rfl) ?_
  refine q_callSi C I (q_zs C I) (As := [.int (clV L xs 25), .int (nI hh)]) (S := []) (c_L_pick (clV L xs 25) (nI hh) μ) (ep1 μ) zw_L_pick zs_L_pick zm_L_14 (n := 2) (by decide) rfl rfl (Nat.le_of_ble_eq_true rfl) (by decide) (by decide) (q_lv hl) (Nat.le_of_ble_eq_true rfl) (Nat.le_of_ble_eq_true rfl) dL_law_333 (fun H locs I => ?_)
  refine lv_istore hx hb dL_law_336 hl (by decide) rfl (fun ls hl => ?_)
  have hl : lv_has ls 14 [(0, .ref b), (1, .ref (s.heap.size + 0)), (2, .int (nI hh)), (3, .int (nI k)), (5, .int (nI bb)), (6, .int (nI hr))] := z_sto1_has hl
  refine lv_aload_n hx hb dL_law_338 rfl (z_look_at hl rfl) ?_
  refine lv_bipush hx hb dL_law_339 zcb_26 ?_
  refine q_callSi C I (q_zs C I) (As := [.ref b, .int 26]) (S := []) (c_L_cell q_hz (nI 26) μ) (cellE (j := 26) hL (by omega) μ) zw_L_cell zs_L_cell zm_L_8 (n := 2) (by decide) rfl rfl (Nat.le_of_ble_eq_true rfl) (by decide) (by decide) (q_lv hl) (Nat.le_of_ble_eq_true rfl) (Nat.le_of_ble_eq_true rfl) dL_law_341 (fun H locs I => ?_)
  refine lv_iload_n hx hb dL_law_344 rfl (z_look_at hl rfl) ?_
  refine q_callSi C I (q_zs C I) (As := [.int (clV L xs 26), .int (nI hh)]) (S := []) (c_L_pick (clV L xs 26) (nI hh) μ) (ep2 μ) zw_L_pick zs_L_pick zm_L_14 (n := 2) (by decide) rfl rfl (Nat.le_of_ble_eq_true rfl) (by decide) (by decide) (q_lv hl) (Nat.le_of_ble_eq_true rfl) (Nat.le_of_ble_eq_true rfl) dL_law_345 (fun H locs I => ?_)
  refine lv_istore hx hb dL_law_348 hl (by decide) rfl (fun ls hl => ?_)
  have hl : lv_has ls 14 [(0, .ref b), (1, .ref (s.heap.size + 0)), (2, .int (nI hh)), (3, .int (nI k)), (5, .int (nI bb)), (6, .int (nI hr)), (7, .int (nI hm))] := z_sto1_has hl
  refine lv_iconst hx hb dL_law_350 zci_1 ?_
  refine lv_aload_n hx hb dL_law_351 rfl (z_look_at hl rfl) ?_
  refine lv_bipush hx hb dL_law_352 zcb_27 ?_
  refine q_callSi C I (q_zs C I) (As := [.ref b, .int 27]) (S := [.int 1]) (c_L_cell q_hz (nI 27) μ) (cellE (j := 27) hL (by omega) μ) zw_L_cell zs_L_cell zm_L_8 (n := 2) (by decide) rfl rfl (Nat.le_of_ble_eq_true rfl) (by decide) (by decide) (q_lv hl) (Nat.le_of_ble_eq_true rfl) (Nat.le_of_ble_eq_true rfl) dL_law_354 (fun H locs I => ?_)
  refine lv_iconst hx hb dL_law_357 zci_5 ?_
  refine q_callSi C I (q_zs C I) (As := [.int (clV L xs 27), .int 5]) (S := [.int 1]) (c_L_pick (clV L xs 27) (nI 5) μ) (ep3 μ) zw_L_pick zs_L_pick zm_L_14 (n := 2) (by decide) rfl rfl (Nat.le_of_ble_eq_true rfl) (by decide) (by decide) (q_lv hl) (Nat.le_of_ble_eq_true rfl) (Nat.le_of_ble_eq_true rfl) dL_law_358 (fun H locs I => ?_)
  refine lv_ishl hx hb dL_law_361 ?_
  rw [shl_sb w hw]
  refine lv_istore hx hb dL_law_362 hl (by decide) rfl (fun ls hl => ?_)
  have hl : lv_has ls 14 [(0, .ref b), (1, .ref (s.heap.size + 0)), (2, .int (nI hh)), (3, .int (nI k)), (5, .int (nI bb)), (6, .int (nI hr)), (7, .int (nI hm)), (8, .int (sb w))] := z_sto1_has hl
  refine lv_aload_n hx hb dL_law_364 rfl (z_look_at hl rfl) ?_
  refine lv_iload hx hb dL_law_365 (z_look_at hl rfl) ?_
  refine lv_iload hx hb dL_law_367 (z_look_at hl rfl) ?_
  refine lv_iload hx hb dL_law_369 (z_look_at hl rfl) ?_
  refine lv_iload_n hx hb dL_law_371 rfl (z_look_at hl rfl) ?_
  refine lv_iconst hx hb dL_law_372 zci_1 ?_
  obtain ⟨r1, μ2, e2, t2, k2⟩ := cAimT CC hh1 hh2 hv h1 (show k ≤ 6 by omega) 1 (by decide)
  have t2 : tdv (tR T0 gg (fun a c => sLk T0 0 a c ww) bb (t00 T0 false 0)) (AvV T0 gg ww bb k hr hm (sb w)) 1 r1 := t2
  refine q_callVi C I (q_zs C I) (As := [.int (nI hr), .int (nI hm), .int (sb w), .int (nI k), .int 1]) (S := []) (c_X8_aim 700000 (nI hr) (nI hm) (sb w) (nI k) 1 μ) e2 zw_X8_aim zv_X8_aim zm_L_84 (n := 5) (by decide) rfl (z_recv gc_0 (T := TX8) (N := 11) rfl) rfl (Nat.le_of_ble_eq_true rfl) (by decide) (by decide) (q_lv hl) (Nat.le_of_ble_eq_true rfl) (Nat.le_of_ble_eq_true rfl) dL_law_373 (fun H locs I => ?_)
  have CC := CC.kc k2
  cases hA : AvV T0 gg ww bb k hr hm (sb w) with
  | none =>
    rw [hA] at t2
    have t2 : r1 = -1 := t2
    subst t2
    refine lv_istore hx hb dL_law_376 hl (by decide) rfl (fun ls hl => ?_)
    have hl : lv_has ls 14 [(0, .ref b), (1, .ref (s.heap.size + 0)), (2, .int (nI hh)), (3, .int (nI k)), (5, .int (nI bb)), (6, .int (nI hr)), (7, .int (nI hm)), (8, .int (sb w)), (9, .int (-1))] := z_sto1_has hl
    refine lv_iload hx hb dL_law_378 (z_look_at hl rfl) ?_
    refine lv_if_lt hx hb (tgt := 586) dL_law_380 (by decide) (fun _ => ?_) (fun h => absurd (show (-1 : Int32) < 0 by decide) h)
    refine lv_aload_n hx hb dL_law_586 rfl (z_look_at hl rfl) ?_
    refine q_callVi C I (q_zs C I) (As := []) (S := []) (c_X8_where μ2) (congrArg (fun v => some (v, μ2)) CC.c6) zw_X8_where zv_X8_where zm_L_80 (n := 0) (by decide) rfl (z_recv gc_0 (T := TX8) (N := 11) rfl) rfl (Nat.le_of_ble_eq_true rfl) (by decide) (by decide) (q_lv hl) (Nat.le_of_ble_eq_true rfl) (Nat.le_of_ble_eq_true rfl) dL_law_587 (fun H locs I => ?_)
    refine lv_iload hx hb dL_law_590 (z_look_at hl rfl) ?_
    refine lv_icmp_eq hx hb (tgt := 597) dL_law_592 (by decide) (fun _ => ?_) (fun h => absurd rfl h)
    refine W.widen (k := 100) (n := 5000) (Nat.le_of_ble_eq_true rfl) (Nat.le_of_ble_eq_true rfl) ?_
    exact F H locs ls I.2.2.1 (q_lv hl)
  | some p =>
    rw [hA] at t2
    obtain ⟨hp, -, t3, -⟩ := t2
    have t3 := t3 rfl
    subst t3
    obtain ⟨pk, u, g1, g2⟩ := law_aim (show w < 32 by omega) (show k ≤ 6 by omega) (show hr < 8 by omega) (show hm < 8 by omega) hA
    refine lv_istore hx hb dL_law_376 hl (by decide) rfl (fun ls hl => ?_)
    have hl : lv_has ls 14 [(0, .ref b), (1, .ref (s.heap.size + 0)), (2, .int (nI hh)), (3, .int (nI k)), (5, .int (nI bb)), (6, .int (nI hr)), (7, .int (nI hm)), (8, .int (sb w)), (9, .int (nI p.length))] := z_sto1_has hl
    refine lv_iload hx hb dL_law_378 (z_look_at hl rfl) ?_
    refine lv_if_lt hx hb (tgt := 586) dL_law_380 (by decide) (fun h => absurd h (nI_pos (show p.length < 2 ^ 31 by omega))) (fun _ => ?_)
    refine lv_iload hx hb dL_law_383 (z_look_at hl rfl) ?_
    have hP0 : va_P D vwCl (z_wf cI cL s.heap.size μ2 0 G_c) H := va_P.left I.1
    have hD0 : va_D (q_A s) (z_wf cI cL s.heap.size μ2 0 G_c) := by have h := I.2.1; rw [List.append_nil] at h; exact h
    refine va_newa (atype := .int) (ty := .int) (R := room_1) (a0 := (p.length, .inl (fun _ => 0))) hx hb (C.1.2.2.2.2 _ zar_int) rfl C.2.2.2 hP0 hD0 I.2.2.1 (fun _ h => h) (fun _ => rfl) (nI_pos (show p.length < 2 ^ 31 by omega)) (N' := p.length) (nI_clamp (by omega)) (by show p.length * 4 ≤ 536870912; omega) (Nat.le_of_ble_eq_true rfl) (by show 3000 + p.length ≤ 7302250; omega) dL_law_385 (fun ra cA H hK1 hP1 hD1 hS1 => ?_)
    have I : q_I s D cI cL μ2 [(ra, .inl (cA, p.length, .inl (fun _ => 0)))] H locs := ⟨hP1, hD1, hS1, q_one (q_fresh hD1)⟩
    refine W.widen (k := 100) (n := 5000) (Nat.le_of_ble_eq_true rfl) (by show 3000 + p.length ≤ 5000; omega) ?_
    refine lv_astore hx hb dL_law_387 hl (by decide) rfl (fun ls hl => ?_)
    have hl : lv_has ls 14 [(0, .ref b), (1, .ref (s.heap.size + 0)), (2, .int (nI hh)), (3, .int (nI k)), (5, .int (nI bb)), (6, .int (nI hr)), (7, .int (nI hm)), (8, .int (sb w)), (9, .int (nI p.length)), (10, .ref ra)] := z_sto1_has hl
    refine lv_iconst hx hb dL_law_389 zci_0 ?_
    refine lv_istore hx hb dL_law_390 hl (by decide) rfl (fun ls hl => ?_)
    have hl : lv_has ls 14 [(0, .ref b), (1, .ref (s.heap.size + 0)), (2, .int (nI hh)), (3, .int (nI k)), (5, .int (nI bb)), (6, .int (nI hr)), (7, .int (nI hm)), (8, .int (sb w)), (9, .int (nI p.length)), (10, .ref ra), (11, .int 0)] := z_sto1_has hl
    exact q_fill C F hK1 hA hh1 hh2 hw h1 h3 g1 g2 hp u p.length 0 _ H locs μ2 ls (by omega) (fun t ht => by omega) I CC (lv_sub hl [1, 3, 5, 6, 7, 8, 9, 10] rfl)
end QA
