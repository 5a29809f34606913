/-! the law: the houses -/
theorem ans_kind {N : Nat} {S : zS} {i : Nat} (V : Vd N S) (hi : i < 8) {kd : Nat} (ek : S 0 i = nI kd) (h7 : kd < 7) : (kd = 0 → s_ans S i 0 (S 3 i) (S 4 i) = S 1 i) ∧ (kd = 1 → s_ans S i 0 (S 3 i) (S 4 i) = 0) ∧ (kd = 2 → s_ans S i 0 (S 3 i) (S 4 i) &&& S 1 i = S 1 i) ∧ (kd = 4 → s_ans S i 0 (S 3 i) (S 4 i) = S 1 i) := by
  unfold s_ans s_shy
  rw [ek]
  refine ⟨?_, ?_, ?_, ?_⟩
  · rintro rfl
    rw [if_neg (by decide), if_neg (by decide), if_neg (by decide), if_neg (by decide), if_neg (by decide), if_neg (by decide)]
  · rintro rfl
    rw [if_pos (by decide)]
  · rintro rfl
    rw [if_neg (by decide), if_pos (by decide)]
    refine gb_ext (fun j _ => ?_)
    rw [gb_and, gb_or]
    cases gb (S 1 i) j <;> cases gb (S 3 i) j <;> rfl
  · rintro rfl
    rw [if_neg (by decide), if_neg (by decide), if_neg (by decide), if_pos (by decide), if_pos rfl]
section QH
variable {p : Program} {l : Launch} {e : Env} {s : State} {m : MethodId} {below : List Frame} {meth : Method} {c : Code} {Q : State → Prop} {b L : Nat} {xs : Nat → Int32} {D : va_G} {cI cL : ClassId} {T0 : zS} {hh ww gg bb : Nat}
theorem q_houses (C : q_C p s m c b L xs D cI cL) {k : Nat} (h1 : 1 ≤ k) (h3 : k ≤ 3) (K : ∀ (H : Heap) (locs : List Loc) (μ : z_M) (ls : Array Slot), q_I s D cI cL μ [] H locs → Cs μ T0 hh ww gg bb → lv_has ls 14 [(0, .ref b), (1, .ref (s.heap.size + 0)), (2, .int (nI hh)), (3, .int (nI k))] → W p l e room_1 s m #[Value.ref b] below meth c H locs 60 3000 Q (F0 m 320 ls [])) : ∀ (d i : Nat) (al : Int32) (H : Heap) (locs : List Loc) (μ : z_M) (ls : Array Slot), i + d = hh → q_I s D cI cL μ [] H locs → Cs μ T0 hh ww gg bb → lv_has ls 14 [(0, .ref b), (1, .ref (s.heap.size + 0)), (2, .int (nI hh)), (3, .int (nI k)), (4, .int al), (5, .int (nI i))] → W p l e room_1 s m #[Value.ref b] below meth c H locs 60 3000 Q (F0 m 35 ls []) := by
  have hx := C.1.1
  have hb := C.1.2.1
  intro d
  induction d with
  | zero =>
    intro i al H locs μ ls he I CC hl
    have h8 := CC.2.2.2.1.1
    refine lv_iload hx hb dL_law_35 (z_look_at hl rfl) ?_
    refine lv_iload_n hx hb dL_law_37 rfl (z_look_at hl rfl) ?_
    refine lv_icmp_ge hx hb (tgt := 320) dL_law_38 (by decide) (fun _ => ?_) (fun h => absurd (nI_le' (a := hh) (b := i) (by omega) (by omega)) h)
    exact K H locs μ ls I CC (lv_sub hl [0, 1, 2, 3] rfl)
  | succ d ih =>
    intro i al H locs μ ls he I CC hl
    have h8 := CC.2.2.2.1.1
    have hi : i < hh := by omega
    obtain ⟨N, V⟩ := CC.2.1
    refine lv_iload hx hb dL_law_35 (z_look_at hl rfl) ?_
    refine lv_iload_n hx hb dL_law_37 rfl (z_look_at hl rfl) ?_
    refine lv_icmp_ge hx hb (tgt := 320) dL_law_38 (by decide) (fun h => absurd h (nI_nle' (a := hh) (b := i) (by omega) (by omega))) (fun _ => ?_)
    refine lv_aload_n hx hb dL_law_41 rfl (z_look_at hl rfl) ?_
    refine lv_iload hx hb dL_law_42 (z_look_at hl rfl) ?_
    refine lv_iload_n hx hb dL_law_44 rfl (z_look_at hl rfl) ?_
    obtain ⟨μ1, e1, k1⟩ := cReach CC hi (show k ≤ 6 by omega)
    refine q_callVi C I (q_zs C I) (As := [.int (nI i), .int (nI k)]) (S := []) (c_X8_reach 700000 (nI i) (nI k) μ) e1 zw_X8_reach zv_X8_reach zm_L_56 (n := 2) (by decide) rfl (z_recv gc_0 (T := TX8) (N := 11) rfl) rfl (Nat.le_of_ble_eq_true rfl) (by decide) (by decide) (q_lv hl) (Nat.le_of_ble_eq_true rfl) (Nat.le_of_ble_eq_true rfl) dL_law_45 (fun H locs I => ?_)
    have CC := CC.kc k1
    refine lv_istore hx hb dL_law_48 hl (by decide) rfl (fun ls hl => ?_)
    have hl : lv_has ls 14 [(0, .ref b), (1, .ref (s.heap.size + 0)), (2, .int (nI hh)), (3, .int (nI k)), (4, .int al), (5, .int (nI i)), (6, .int (RvV T0 gg ww bb k i))] := z_sto1_has hl
    refine lv_aload_n hx hb dL_law_50 rfl (z_look_at hl rfl) ?_
    refine lv_iload hx hb dL_law_51 (z_look_at hl rfl) ?_
    refine lv_iload_n hx hb dL_law_53 rfl (z_look_at hl rfl) ?_
    refine lv_iconst hx hb dL_law_54 zci_1 ?_
    refine lv_isub hx hb dL_law_55 ?_
    rw [show nI k - 1 = nI (k - 1) from i_pred (by omega)]
    obtain ⟨μ2, e2, k2⟩ := cReach CC hi (show k - 1 ≤ 6 by omega)
    refine q_callVi C I (q_zs C I) (As := [.int (nI i), .int (nI (k - 1))]) (S := []) (c_X8_reach 700000 (nI i) (nI (k - 1)) μ1) e2 zw_X8_reach zv_X8_reach zm_L_56 (n := 2) (by decide) rfl (z_recv gc_0 (T := TX8) (N := 11) rfl) rfl (Nat.le_of_ble_eq_true rfl) (by decide) (by decide) (q_lv hl) (Nat.le_of_ble_eq_true rfl) (Nat.le_of_ble_eq_true rfl) dL_law_56 (fun H locs I => ?_)
    have CC := CC.kc k2
    refine lv_istore hx hb dL_law_59 hl (by decide) rfl (fun ls hl => ?_)
    have hl : lv_has ls 14 [(0, .ref b), (1, .ref (s.heap.size + 0)), (2, .int (nI hh)), (3, .int (nI k)), (4, .int al), (5, .int (nI i)), (6, .int (RvV T0 gg ww bb k i)), (7, .int (RvV T0 gg ww bb (k - 1) i))] := z_sto1_has hl
    refine lv_iload hx hb dL_law_61 (z_look_at hl rfl) ?_
    refine lv_iload hx hb dL_law_63 (z_look_at hl rfl) ?_
    refine lv_iconst hx hb dL_law_65 zci_m1 ?_
    refine lv_ixor hx hb dL_law_66 ?_
    refine lv_iand hx hb dL_law_67 ?_
    refine lv_if_ne hx hb (tgt := 81) dL_law_68 (by decide) (fun h => absurd h (fun q => q (Rv_less (show k ≤ 6 by omega) (show k - 1 ≤ k by omega)))) (fun _ => ?_)
    refine lv_aload_n hx hb dL_law_71 rfl (z_look_at hl rfl) ?_
    refine lv_iload hx hb dL_law_72 (z_look_at hl rfl) ?_
    refine lv_iconst hx hb dL_law_74 zci_0 ?_
    obtain ⟨μ3, e3, k3⟩ := cReach CC hi (show 0 ≤ 6 by omega)
    refine q_callVi C I (q_zs C I) (As := [.int (nI i), .int 0]) (S := []) (c_X8_reach 700000 (nI i) (nI 0) μ2) e3 zw_X8_reach zv_X8_reach zm_L_56 (n := 2) (by decide) rfl (z_recv gc_0 (T := TX8) (N := 11) rfl) rfl (Nat.le_of_ble_eq_true rfl) (by decide) (by decide) (q_lv hl) (Nat.le_of_ble_eq_true rfl) (Nat.le_of_ble_eq_true rfl) dL_law_75 (fun H locs I => ?_)
    have CC := CC.kc k3
    refine lv_if_eq hx hb (tgt := 83) dL_law_78 (by decide) (fun _ => ?_) (fun h => absurd Rv_zero h)
    refine lv_iload hx hb dL_law_83 (z_look_at hl rfl) ?_
    refine lv_iload hx hb dL_law_85 (z_look_at hl rfl) ?_
    refine lv_ior hx hb dL_law_87 ?_
    refine lv_istore hx hb dL_law_88 hl (by decide) rfl (fun ls hl => ?_)
    have hl : lv_has ls 14 [(0, .ref b), (1, .ref (s.heap.size + 0)), (2, .int (nI hh)), (3, .int (nI k)), (4, .int (al ||| (RvV T0 gg ww bb k i))), (5, .int (nI i)), (6, .int (RvV T0 gg ww bb k i)), (7, .int (RvV T0 gg ww bb (k - 1) i))] := z_sto1_has hl
    refine lv_iconst hx hb dL_law_90 zci_0 ?_
    refine lv_istore hx hb dL_law_91 hl (by decide) rfl (fun ls hl => ?_)
    have hl : lv_has ls 14 [(0, .ref b), (1, .ref (s.heap.size + 0)), (2, .int (nI hh)), (3, .int (nI k)), (4, .int (al ||| (RvV T0 gg ww bb k i))), (5, .int (nI i)), (6, .int (RvV T0 gg ww bb k i)), (7, .int (RvV T0 gg ww bb (k - 1) i)), (8, .int 0)] := z_sto1_has hl
    refine q_words C hi h1 h3 (al := (al ||| (RvV T0 gg ww bb k i))) (fun H locs μ ls I CC hl => ?_) 8 0 H locs μ3 ls (by omega) I CC hl
    refine lv_aload_n hx hb dL_law_234 rfl (z_look_at hl rfl) ?_
    refine lv_iload hx hb dL_law_235 (z_look_at hl rfl) ?_
    refine lv_iconst hx hb dL_law_237 zci_1 ?_
    obtain ⟨eh0, eh1, eh3⟩ := cHouseOf CC hi
    have ea := cAnswer CC hi
    refine q_callVi C I (q_zs C I) (As := [.int (nI i), .int 1]) (S := []) (c_X8_houseOf (nI i) 1 μ) (congrArg some eh1) zw_X8_houseOf zv_X8_houseOf zm_L_74 (n := 2) (by decide) rfl (z_recv gc_0 (T := TX8) (N := 11) rfl) rfl (Nat.le_of_ble_eq_true rfl) (by decide) (by decide) (q_lv hl) (Nat.le_of_ble_eq_true rfl) (Nat.le_of_ble_eq_true rfl) dL_law_238 (fun H locs I => ?_)
    refine lv_istore hx hb dL_law_241 hl (by decide) rfl (fun ls hl => ?_)
    have hl : lv_has ls 14 [(0, .ref b), (1, .ref (s.heap.size + 0)), (2, .int (nI hh)), (3, .int (nI k)), (4, .int (al ||| (RvV T0 gg ww bb k i))), (5, .int (nI i)), (8, .int (T0 1 i))] := z_sto1_has hl
    refine lv_aload_n hx hb dL_law_243 rfl (z_look_at hl rfl) ?_
    refine lv_iload hx hb dL_law_244 (z_look_at hl rfl) ?_
    refine lv_iconst hx hb dL_law_246 zci_0 ?_
    refine q_callVi C I (q_zs C I) (As := [.int (nI i), .int 0]) (S := []) (c_X8_houseOf (nI i) 0 μ) (congrArg some eh0) zw_X8_houseOf zv_X8_houseOf zm_L_74 (n := 2) (by decide) rfl (z_recv gc_0 (T := TX8) (N := 11) rfl) rfl (Nat.le_of_ble_eq_true rfl) (by decide) (by decide) (q_lv hl) (Nat.le_of_ble_eq_true rfl) (Nat.le_of_ble_eq_true rfl) dL_law_247 (fun H locs I => ?_)
    obtain ⟨kd, h7, ek⟩ := (V.H1 i (by omega)).1
    rw [ek]
    refine lv_istore hx hb dL_law_250 hl (by decide) rfl (fun ls hl => ?_)
    have hl : lv_has ls 14 [(0, .ref b), (1, .ref (s.heap.size + 0)), (2, .int (nI hh)), (3, .int (nI k)), (4, .int (al ||| (RvV T0 gg ww bb k i))), (5, .int (nI i)), (8, .int (T0 1 i)), (9, .int (nI kd))] := z_sto1_has hl
    refine lv_aload_n hx hb dL_law_252 rfl (z_look_at hl rfl) ?_
    refine lv_iload hx hb dL_law_253 (z_look_at hl rfl) ?_
    refine lv_iconst hx hb dL_law_255 zci_0 ?_
    refine q_callVi C I (q_zs C I) (As := [.int (nI i), .int 0]) (S := []) (c_X8_answer (nI i) 0 μ) (congrArg some ea) zw_X8_answer zv_X8_answer zm_L_77 (n := 2) (by decide) rfl (z_recv gc_0 (T := TX8) (N := 11) rfl) rfl (Nat.le_of_ble_eq_true rfl) (by decide) (by decide) (q_lv hl) (Nat.le_of_ble_eq_true rfl) (Nat.le_of_ble_eq_true rfl) dL_law_256 (fun H locs I => ?_)
    refine lv_istore hx hb dL_law_259 hl (by decide) rfl (fun ls hl => ?_)
    have hl : lv_has ls 14 [(0, .ref b), (1, .ref (s.heap.size + 0)), (2, .int (nI hh)), (3, .int (nI k)), (4, .int (al ||| (RvV T0 gg ww bb k i))), (5, .int (nI i)), (8, .int (T0 1 i)), (9, .int (nI kd)), (10, .int (s_ans T0 i 0 (T0 3 i) (T0 4 i)))] := z_sto1_has hl
    refine lv_iload hx hb dL_law_261 (z_look_at hl rfl) ?_
    refine lv_iconst hx hb dL_law_263 zci_2 ?_
    obtain ⟨a0, a1, a2, a4⟩ := ans_kind V (show i < 8 by omega) ek h7
    rcases (show kd = 0 ∨ kd = 1 ∨ kd = 2 ∨ kd = 3 ∨ kd = 4 ∨ kd = 5 ∨ kd = 6 by omega) with rfl | rfl | rfl | rfl | rfl | rfl | rfl
    · refine lv_icmp_ge hx hb (tgt := 283) dL_law_264 (by decide) (fun h => absurd h (by decide)) (fun _ => ?_)
      refine lv_iload hx hb dL_law_267 (z_look_at hl rfl) ?_
      refine lv_iload hx hb dL_law_269 (z_look_at hl rfl) ?_
      refine lv_if_ne hx hb (tgt := 279) dL_law_271 (by decide) (fun h => absurd h (fun q => q rfl)) (fun _ => ?_)
      refine lv_iload hx hb dL_law_274 (z_look_at hl rfl) ?_
      refine lv_goto hx hb (tgt := 280) dL_law_276 (by decide) ?_
      refine lv_icmp_ne hx hb (tgt := 312) dL_law_280 (by decide) (fun h => absurd h (fun q => q (a0 rfl))) (fun _ => ?_)
      refine lv_iload hx hb dL_law_283 (z_look_at hl rfl) ?_
      refine lv_iconst hx hb dL_law_285 zci_4 ?_
      refine lv_icmp_ne hx hb (tgt := 296) dL_law_286 (by decide) (fun _ => ?_) (fun h => absurd h (show ¬ nI 0 = 4 by decide))
      refine lv_iload hx hb dL_law_296 (z_look_at hl rfl) ?_
      refine lv_iconst hx hb dL_law_298 zci_2 ?_
      refine lv_icmp_ne hx hb (tgt := 314) dL_law_299 (by decide) (fun _ => ?_) (fun h => absurd h (show ¬ nI 0 = 2 by decide))
      refine z_iinc0 hx hb dL_law_314 hl (x := nI i) rfl (v := nI (i + 1)) (i_inc i) (by decide) (fun ls hl => ?_)
      have hl : lv_has ls 14 [(0, .ref b), (1, .ref (s.heap.size + 0)), (2, .int (nI hh)), (3, .int (nI k)), (4, .int (al ||| (RvV T0 gg ww bb k i))), (5, .int (nI (i + 1))), (8, .int (T0 1 i)), (9, .int (nI 0)), (10, .int (s_ans T0 i 0 (T0 3 i) (T0 4 i)))] := z_sto1_has hl
      refine lv_goto hx hb (tgt := 35) dL_law_317 (by decide) ?_
      exact ih (i + 1) _ H locs μ ls (by omega) I CC (lv_sub hl [0, 1, 2, 3, 4, 5] rfl)
    · refine lv_icmp_ge hx hb (tgt := 283) dL_law_264 (by decide) (fun h => absurd h (by decide)) (fun _ => ?_)
      refine lv_iload hx hb dL_law_267 (z_look_at hl rfl) ?_
      refine lv_iload hx hb dL_law_269 (z_look_at hl rfl) ?_
      refine lv_if_ne hx hb (tgt := 279) dL_law_271 (by decide) (fun _ => ?_) (fun h => absurd h (show ¬ nI 1 = 0 by decide))
      refine lv_iconst hx hb dL_law_279 zci_0 ?_
      refine lv_icmp_ne hx hb (tgt := 312) dL_law_280 (by decide) (fun h => absurd h (fun q => q (a1 rfl))) (fun _ => ?_)
      refine lv_iload hx hb dL_law_283 (z_look_at hl rfl) ?_
      refine lv_iconst hx hb dL_law_285 zci_4 ?_
      refine lv_icmp_ne hx hb (tgt := 296) dL_law_286 (by decide) (fun _ => ?_) (fun h => absurd h (show ¬ nI 1 = 4 by decide))
      refine lv_iload hx hb dL_law_296 (z_look_at hl rfl) ?_
      refine lv_iconst hx hb dL_law_298 zci_2 ?_
      refine lv_icmp_ne hx hb (tgt := 314) dL_law_299 (by decide) (fun _ => ?_) (fun h => absurd h (show ¬ nI 1 = 2 by decide))
      refine z_iinc0 hx hb dL_law_314 hl (x := nI i) rfl (v := nI (i + 1)) (i_inc i) (by decide) (fun ls hl => ?_)
      have hl : lv_has ls 14 [(0, .ref b), (1, .ref (s.heap.size + 0)), (2, .int (nI hh)), (3, .int (nI k)), (4, .int (al ||| (RvV T0 gg ww bb k i))), (5, .int (nI (i + 1))), (8, .int (T0 1 i)), (9, .int (nI 1)), (10, .int (s_ans T0 i 0 (T0 3 i) (T0 4 i)))] := z_sto1_has hl
      refine lv_goto hx hb (tgt := 35) dL_law_317 (by decide) ?_
      exact ih (i + 1) _ H locs μ ls (by omega) I CC (lv_sub hl [0, 1, 2, 3, 4, 5] rfl)
    · refine lv_icmp_ge hx hb (tgt := 283) dL_law_264 (by decide) (fun _ => ?_) (fun h => absurd (by decide) h)
      refine lv_iload hx hb dL_law_283 (z_look_at hl rfl) ?_
      refine lv_iconst hx hb dL_law_285 zci_4 ?_
      refine lv_icmp_ne hx hb (tgt := 296) dL_law_286 (by decide) (fun _ => ?_) (fun h => absurd h (show ¬ nI 2 = 4 by decide))
      refine lv_iload hx hb dL_law_296 (z_look_at hl rfl) ?_
      refine lv_iconst hx hb dL_law_298 zci_2 ?_
      refine lv_icmp_ne hx hb (tgt := 314) dL_law_299 (by decide) (fun h => absurd h (fun q => q rfl)) (fun _ => ?_)
      refine lv_iload hx hb dL_law_302 (z_look_at hl rfl) ?_
      refine lv_iload hx hb dL_law_304 (z_look_at hl rfl) ?_
      refine lv_iand hx hb dL_law_306 ?_
      refine lv_iload hx hb dL_law_307 (z_look_at hl rfl) ?_
      refine lv_icmp_eq hx hb (tgt := 314) dL_law_309 (by decide) (fun _ => ?_) (fun h => absurd (a2 rfl) h)
      refine z_iinc0 hx hb dL_law_314 hl (x := nI i) rfl (v := nI (i + 1)) (i_inc i) (by decide) (fun ls hl => ?_)
      have hl : lv_has ls 14 [(0, .ref b), (1, .ref (s.heap.size + 0)), (2, .int (nI hh)), (3, .int (nI k)), (4, .int (al ||| (RvV T0 gg ww bb k i))), (5, .int (nI (i + 1))), (8, .int (T0 1 i)), (9, .int (nI 2)), (10, .int (s_ans T0 i 0 (T0 3 i) (T0 4 i)))] := z_sto1_has hl
      refine lv_goto hx hb (tgt := 35) dL_law_317 (by decide) ?_
      exact ih (i + 1) _ H locs μ ls (by omega) I CC (lv_sub hl [0, 1, 2, 3, 4, 5] rfl)
    · refine lv_icmp_ge hx hb (tgt := 283) dL_law_264 (by decide) (fun _ => ?_) (fun h => absurd (by decide) h)
      refine lv_iload hx hb dL_law_283 (z_look_at hl rfl) ?_
      refine lv_iconst hx hb dL_law_285 zci_4 ?_
      refine lv_icmp_ne hx hb (tgt := 296) dL_law_286 (by decide) (fun _ => ?_) (fun h => absurd h (show ¬ nI 3 = 4 by decide))
      refine lv_iload hx hb dL_law_296 (z_look_at hl rfl) ?_
      refine lv_iconst hx hb dL_law_298 zci_2 ?_
      refine lv_icmp_ne hx hb (tgt := 314) dL_law_299 (by decide) (fun _ => ?_) (fun h => absurd h (show ¬ nI 3 = 2 by decide))
      refine z_iinc0 hx hb dL_law_314 hl (x := nI i) rfl (v := nI (i + 1)) (i_inc i) (by decide) (fun ls hl => ?_)
      have hl : lv_has ls 14 [(0, .ref b), (1, .ref (s.heap.size + 0)), (2, .int (nI hh)), (3, .int (nI k)), (4, .int (al ||| (RvV T0 gg ww bb k i))), (5, .int (nI (i + 1))), (8, .int (T0 1 i)), (9, .int (nI 3)), (10, .int (s_ans T0 i 0 (T0 3 i) (T0 4 i)))] := z_sto1_has hl
      refine lv_goto hx hb (tgt := 35) dL_law_317 (by decide) ?_
      exact ih (i + 1) _ H locs μ ls (by omega) I CC (lv_sub hl [0, 1, 2, 3, 4, 5] rfl)
    · refine lv_icmp_ge hx hb (tgt := 283) dL_law_264 (by decide) (fun _ => ?_) (fun h => absurd (by decide) h)
      refine lv_iload hx hb dL_law_283 (z_look_at hl rfl) ?_
      refine lv_iconst hx hb dL_law_285 zci_4 ?_
      refine lv_icmp_ne hx hb (tgt := 296) dL_law_286 (by decide) (fun h => absurd h (fun q => q rfl)) (fun _ => ?_)
      refine lv_iload hx hb dL_law_289 (z_look_at hl rfl) ?_
      refine lv_iload hx hb dL_law_291 (z_look_at hl rfl) ?_
      refine lv_icmp_ne hx hb (tgt := 312) dL_law_293 (by decide) (fun h => absurd h (fun q => q (a4 rfl))) (fun _ => ?_)
      refine lv_iload hx hb dL_law_296 (z_look_at hl rfl) ?_
      refine lv_iconst hx hb dL_law_298 zci_2 ?_
      refine lv_icmp_ne hx hb (tgt := 314) dL_law_299 (by decide) (fun _ => ?_) (fun h => absurd h (show ¬ nI 4 = 2 by decide))
      refine z_iinc0 hx hb dL_law_314 hl (x := nI i) rfl (v := nI (i + 1)) (i_inc i) (by decide) (fun ls hl => ?_)
      have hl : lv_has ls 14 [(0, .ref b), (1, .ref (s.heap.size + 0)), (2, .int (nI hh)), (3, .int (nI k)), (4, .int (al ||| (RvV T0 gg ww bb k i))), (5, .int (nI (i + 1))), (8, .int (T0 1 i)), (9, .int (nI 4)), (10, .int (s_ans T0 i 0 (T0 3 i) (T0 4 i)))] := z_sto1_has hl
      refine lv_goto hx hb (tgt := 35) dL_law_317 (by decide) ?_
      exact ih (i + 1) _ H locs μ ls (by omega) I CC (lv_sub hl [0, 1, 2, 3, 4, 5] rfl)
    · refine lv_icmp_ge hx hb (tgt := 283) dL_law_264 (by decide) (fun _ => ?_) (fun h => absurd (by decide) h)
      refine lv_iload hx hb dL_law_283 (z_look_at hl rfl) ?_
      refine lv_iconst hx hb dL_law_285 zci_4 ?_
      refine lv_icmp_ne hx hb (tgt := 296) dL_law_286 (by decide) (fun _ => ?_) (fun h => absurd h (show ¬ nI 5 = 4 by decide))
      refine lv_iload hx hb dL_law_296 (z_look_at hl rfl) ?_
      refine lv_iconst hx hb dL_law_298 zci_2 ?_
      refine lv_icmp_ne hx hb (tgt := 314) dL_law_299 (by decide) (fun _ => ?_) (fun h => absurd h (show ¬ nI 5 = 2 by decide))
      refine z_iinc0 hx hb dL_law_314 hl (x := nI i) rfl (v := nI (i + 1)) (i_inc i) (by decide) (fun ls hl => ?_)
      have hl : lv_has ls 14 [(0, .ref b), (1, .ref (s.heap.size + 0)), (2, .int (nI hh)), (3, .int (nI k)), (4, .int (al ||| (RvV T0 gg ww bb k i))), (5, .int (nI (i + 1))), (8, .int (T0 1 i)), (9, .int (nI 5)), (10, .int (s_ans T0 i 0 (T0 3 i) (T0 4 i)))] := z_sto1_has hl
      refine lv_goto hx hb (tgt := 35) dL_law_317 (by decide) ?_
      exact ih (i + 1) _ H locs μ ls (by omega) I CC (lv_sub hl [0, 1, 2, 3, 4, 5] rfl)
    · refine lv_icmp_ge hx hb (tgt := 283) dL_law_264 (by decide) (fun _ => ?_) (fun h => absurd (by decide) h)
      refine lv_iload hx hb dL_law_283 (z_look_at hl rfl) ?_
      refine lv_iconst hx hb dL_law_285 zci_4 ?_
      refine lv_icmp_ne hx hb (tgt := 296) dL_law_286 (by decide) (fun _ => ?_) (fun h => absurd h (show ¬ nI 6 = 4 by decide))
      refine lv_iload hx hb dL_law_296 (z_look_at hl rfl) ?_
      refine lv_iconst hx hb dL_law_298 zci_2 ?_
      refine lv_icmp_ne hx hb (tgt := 314) dL_law_299 (by decide) (fun _ => ?_) (fun h => absurd h (show ¬ nI 6 = 2 by decide))
      refine z_iinc0 hx hb dL_law_314 hl (x := nI i) rfl (v := nI (i + 1)) (i_inc i) (by decide) (fun ls hl => ?_)
      have hl : lv_has ls 14 [(0, .ref b), (1, .ref (s.heap.size + 0)), (2, .int (nI hh)), (3, .int (nI k)), (4, .int (al ||| (RvV T0 gg ww bb k i))), (5, .int (nI (i + 1))), (8, .int (T0 1 i)), (9, .int (nI 6)), (10, .int (s_ans T0 i 0 (T0 3 i) (T0 4 i)))] := z_sto1_has hl
      refine lv_goto hx hb (tgt := 35) dL_law_317 (by decide) ?_
      exact ih (i + 1) _ H locs μ ls (by omega) I CC (lv_sub hl [0, 1, 2, 3, 4, 5] rfl)
end QH
