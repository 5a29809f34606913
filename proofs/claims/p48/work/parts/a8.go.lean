/-! the law: the bird goes the route that aim() tells -/
section QG
variable {p0 : Program} {l : Launch} {e : Env} {s : State} {m : MethodId} {below : List Frame} {meth : Method} {c : Code} {Q : State → Prop} {b L : Nat} {xs : Nat → Int32} {D : va_G} {cI cL : ClassId} {T0 : zS} {hh ww gg bb : Nat} {cA : ClassId} {ra k hr hm w : Nat} {p : List Nat}
theorem q_at50 {μ : z_M} {n0 : Nat} {y : Nat × va_E} : (z_wf cI cL n0 μ 0 G_c ++ [y])[50]? = some y := by
  have h : (z_wf cI cL n0 μ 0 G_c).length = 50 := z_wf_len cI cL n0 μ G_c 0
  rw [List.getElem?_append_right (by omega), h]; rfl
theorem q_fresh {μ : z_M} {x : va_E} (h : va_D (q_A s) (z_wf cI cL s.heap.size μ 0 G_c ++ [(ra, x)])) : s.heap.size + 50 ≤ ra := by
  have g3 : s.heap.size ≤ ra := h.2 50 _ q_at50
  apply Classical.byContradiction
  intro hne
  obtain ⟨k, hk, rfl⟩ : ∃ k, k < 50 ∧ ra = s.heap.size + k := ⟨ra - s.heap.size, by omega, by omega⟩
  have hk2 : k < G_c.length := hk
  have h4 := z_wf_at (cI := cI) (cL := cL) (b := s.heap.size) (μ := μ) (List.getElem?_eq_getElem hk2)
  have h5 := h.1 k 50 (s.heap.size + k, z_ent cI cL s.heap.size μ k G_c[k]) _ (by rw [List.getElem?_append_left (List.getElem?_eq_some_iff.mp h4).1]; exact h4) q_at50 rfl
  omega
theorem q_one {ra : Nat} {x : va_E} (h : s.heap.size + 50 ≤ ra) : ∀ (k : Nat) (q : Nat × va_E), [(ra, x)][k]? = some q → s.heap.size + 50 ≤ q.1 := by
  intro k q hk
  cases k with
  | zero => cases hk; exact h
  | succ k => cases hk
theorem q_end (C : q_C p0 s m c b L xs D cI cL) (F : ∀ (H : Heap) (locs : List Loc) (ls : Array Slot), va_S (q_A s) s.heap H locs → lv_has ls 14 [] → W p0 l e room_1 s m #[Value.ref b] below meth c H locs 100 5000 Q (F0 m 597 ls [])) (hh1 : hr < hh) (hw : w < 32) (g1 : gb (hdV T0 gg ww bb p hr) w = true) {S' : zS} {b' : Nat} {X : va_W} {H : Heap} {locs : List Loc} {μ : z_M} {ls : Array Slot} (I : q_I s D cI cL μ X H locs) (CC : Cs μ S' hh ww gg b') (sm : Sm T0 S' gg ww bb p) (hl : lv_has ls 14 [(1, .ref (s.heap.size + 0)), (6, .int (nI hr)), (8, .int (sb w)), (11, .int (T0 10 4)), (12, .int (tR T0 gg (fun a c => sLk T0 0 a c ww) bb (t00 T0 false 0) p 4 1))]) : W p0 l e room_1 s m #[Value.ref b] below meth c H locs 100 5000 Q (F0 m 553 ls []) := by
  have hx := C.1.1
  have hb := C.1.2.1
  refine lv_aload_n hx hb dL_law_553 rfl (z_look_at hl rfl) ?_
  refine lv_iconst hx hb dL_law_554 zci_4 ?_
  refine q_callVi C I (q_zs C I) (As := [.int 4]) (S := []) (c_X8_status 100 4 μ) (cStatus4 CC.1 100) zw_X8_status zv_X8_status zm_L_27 (n := 1) (by decide) rfl (z_recv gc_0 (T := TX8) (N := 11) rfl) rfl (Nat.le_of_ble_eq_true rfl) (by decide) (by decide) (q_lv hl) (Nat.le_of_ble_eq_true rfl) (Nat.le_of_ble_eq_true rfl) dL_law_555 (fun H locs I => ?_)
  refine lv_iload hx hb dL_law_558 (z_look_at hl rfl) ?_
  refine lv_iload hx hb dL_law_560 (z_look_at hl rfl) ?_
  refine lv_iadd hx hb dL_law_562 ?_
  refine lv_icmp_ne hx hb (tgt := 581) dL_law_563 (by decide) (fun h => absurd h (fun q => q sm.2.2.2.2.2)) (fun _ => ?_)
  refine lv_aload_n hx hb dL_law_566 rfl (z_look_at hl rfl) ?_
  refine lv_iload hx hb dL_law_567 (z_look_at hl rfl) ?_
  refine lv_iconst hx hb dL_law_569 zci_3 ?_
  refine q_callVi C I (q_zs C I) (As := [.int (nI hr), .int 3]) (S := []) (c_X8_houseOf (nI hr) 3 μ) (congrArg some (cHouseOf CC hh1).2.2) zw_X8_houseOf zv_X8_houseOf zm_L_74 (n := 2) (by decide) rfl (z_recv gc_0 (T := TX8) (N := 11) rfl) rfl (Nat.le_of_ble_eq_true rfl) (by decide) (by decide) (q_lv hl) (Nat.le_of_ble_eq_true rfl) (Nat.le_of_ble_eq_true rfl) dL_law_570 (fun H locs I => ?_)
  refine lv_iload hx hb dL_law_573 (z_look_at hl rfl) ?_
  refine lv_iand hx hb dL_law_575 ?_
  refine lv_iload hx hb dL_law_576 (z_look_at hl rfl) ?_
  refine lv_icmp_eq hx hb (tgt := 583) dL_law_578 (by decide) (fun _ => ?_) (fun h => absurd ((and_sb_eq hw).2 (by rw [cKnown sm, gb_or, g1, Bool.or_true])) h)
  refine lv_goto hx hb (tgt := 597) dL_law_583 (by decide) ?_
  exact F H locs ls I.2.2.1 (q_lv hl)
theorem q_golp (C : q_C p0 s m c b L xs D cI cL) (F : ∀ (H : Heap) (locs : List Loc) (ls : Array Slot), va_S (q_A s) s.heap H locs → lv_has ls 14 [] → W p0 l e room_1 s m #[Value.ref b] below meth c H locs 100 5000 Q (F0 m 597 ls [])) (K3 : va_K D vwCl [(cI, .int), (cL, .long), (cA, .int)] s) (hh1 : hr < hh) (hw : w < 32) (g1 : gb (hdV T0 gg ww bb p hr) w = true) (hp : p.length ≤ 6) (u : ups (okL T0 0 ww bb) 8 [] p) (C0 : ∃ μ, Cs μ T0 hh ww gg bb) {f : Nat → Int32} (hf : ∀ j, j < p.length → f j = nI (hsAt p j)) : ∀ (d j : Nat) (S' : zS) (H : Heap) (locs : List Loc) (μ : z_M) (ls : Array Slot), j + d = p.length → q_I s D cI cL μ [(ra, .inl (cA, p.length, .inl f))] H locs → Cs μ S' hh ww gg (pl bb (p.drop (p.length - j))) → Sm T0 S' gg ww bb (p.drop (p.length - j)) → lv_has ls 14 [(1, .ref (s.heap.size + 0)), (6, .int (nI hr)), (8, .int (sb w)), (9, .int (nI p.length)), (10, .ref ra), (11, .int (T0 10 4)), (12, .int (tR T0 gg (fun a c => sLk T0 0 a c ww) bb (t00 T0 false 0) p 4 1)), (13, .int (nI j))] → W p0 l e room_1 s m #[Value.ref b] below meth c H locs 100 5000 Q (F0 m 518 ls []) := by
  have hx := C.1.1
  have hb := C.1.2.1
  intro d
  induction d with
  | zero =>
    intro j S' H locs μ ls he I CC sm hl
    refine lv_iload hx hb dL_law_518 (z_look_at hl rfl) ?_
    refine lv_iload hx hb dL_law_520 (z_look_at hl rfl) ?_
    refine lv_icmp_ge hx hb (tgt := 553) dL_law_522 (by decide) (fun _ => ?_) (fun h => absurd (nI_le' (a := p.length) (b := j) (by omega) (by omega)) h)
    rw [show p.length - j = 0 by omega, List.drop_zero] at sm
    exact q_end C F hh1 hw g1 I CC sm (lv_sub hl [0, 1, 2, 5, 6] rfl)
  | succ d ih =>
    intro j S' H locs μ ls he I CC sm hl
    obtain ⟨μ00, D0⟩ := C0
    obtain ⟨N, V⟩ := D0.2.1
    obtain ⟨x, ex⟩ := drop_cons (p := p) (j := j) (by omega)
    have ed : p = p.take (p.length - (j + 1)) ++ x :: p.drop (p.length - j) := by rw [← ex, List.take_append_drop]
    have u1 := u
    rw [ed] at u1
    obtain ⟨a1, a2⟩ := ups_at _ u1
    have xH : x < hh := ups_H V D0.2.2.1.1 D0.2.2.1.2.1 D0.2.2.2.1.1 D0.2.2.2.1.2.1 D0.2.2.2.2.1.2 p u x (by rw [ed]; exact List.mem_append_right _ List.mem_cons_self)
    have hhx : hsAt p j = x := by unfold hsAt; rw [ex]; rfl
    obtain ⟨wy, μ1, r, μ2, w1, w2, w3, w4, w5⟩ := cStepGo CC sm xH (okL_t.1 a1)
    refine lv_iload hx hb dL_law_518 (z_look_at hl rfl) ?_
    refine lv_iload hx hb dL_law_520 (z_look_at hl rfl) ?_
    refine lv_icmp_ge hx hb (tgt := 553) dL_law_522 (by decide) (fun h => absurd h (nI_nle' (a := p.length) (b := j) (by omega) (by omega))) (fun _ => ?_)
    refine lv_aload_n hx hb dL_law_525 rfl (z_look_at hl rfl) ?_
    refine lv_aload_n hx hb dL_law_526 rfl (z_look_at hl rfl) ?_
    refine lv_aload_n hx hb dL_law_527 rfl (z_look_at hl rfl) ?_
    refine q_callVi C I (q_zs C I) (As := []) (S := [.ref (s.heap.size + 0), .ref (s.heap.size + 0)]) (c_X8_where μ) (congrArg (fun v => some (v, μ)) w1) zw_X8_where zv_X8_where zm_L_80 (n := 0) (by decide) rfl (z_recv gc_0 (T := TX8) (N := 11) rfl) rfl (Nat.le_of_ble_eq_true rfl) (by decide) (by decide) (q_lv hl) (Nat.le_of_ble_eq_true rfl) (Nat.le_of_ble_eq_true rfl) dL_law_528 (fun H locs I => ?_)
    refine lv_aload hx hb dL_law_531 (z_look_at hl rfl) ?_
    refine lv_iload hx hb dL_law_533 (z_look_at hl rfl) ?_
    refine va_iald hx hb K3 I.1 50 2 q_at50 rfl (vp_in_iff.mpr (by rw [nI_toInt (by omega)]; omega)) dL_law_535 ?_
    rw [show f (nI j).toNatClampNeg = nI x by rw [nI_clamp (by omega), hf j (by omega), hhx]]
    refine q_callVi C I (q_zs C I) (As := [.int (nI (pl bb (p.drop (p.length - j)))), .int (nI x)]) (S := [.ref (s.heap.size + 0)]) (c_X8_between 700000 (nI (pl bb (p.drop (p.length - j)))) (nI x) μ) w2 zw_X8_between zv_X8_between zm_L_101 (n := 2) (by decide) rfl (z_recv gc_0 (T := TX8) (N := 11) rfl) rfl (Nat.le_of_ble_eq_true rfl) (by decide) (by decide) (q_lv hl) (Nat.le_of_ble_eq_true rfl) (Nat.le_of_ble_eq_true rfl) dL_law_536 (fun H locs I => ?_)
    refine q_callVi C I (q_zs C I) (As := [.int (nI wy)]) (S := []) (c_X8_go 700000 (nI wy) μ1) w3 zw_X8_go zv_X8_go zm_L_41 (n := 1) (by decide) rfl (z_recv gc_0 (T := TX8) (N := 11) rfl) rfl (Nat.le_of_ble_eq_true rfl) (by decide) (by decide) (q_lv hl) (Nat.le_of_ble_eq_true rfl) (Nat.le_of_ble_eq_true rfl) dL_law_539 (fun H locs I => ?_)
    refine lv_if_ge hx hb (tgt := 547) dL_law_542 (by decide) (fun _ => ?_) (fun h => absurd (Int32.not_lt.mp w4) h)
    refine z_iinc0 hx hb dL_law_547 hl (x := nI j) rfl (v := nI (j + 1)) (i_inc j) (by decide) (fun ls hl => ?_)
    have hl : lv_has ls 14 [(1, .ref (s.heap.size + 0)), (6, .int (nI hr)), (8, .int (sb w)), (9, .int (nI p.length)), (10, .ref ra), (11, .int (T0 10 4)), (12, .int (tR T0 gg (fun a c => sLk T0 0 a c ww) bb (t00 T0 false 0) p 4 1)), (13, .int (nI (j + 1)))] := z_sto1_has hl
    refine lv_goto hx hb (tgt := 518) dL_law_550 (by decide) ?_
    have sm2 := sm.step (x := x)
    exact ih (j + 1) _ H locs μ2 ls (by omega) I (by rw [ex]; exact w5) (by rw [ex]; exact sm2) (lv_sub hl [0, 1, 2, 3, 4, 5, 6, 7] rfl)
end QG
