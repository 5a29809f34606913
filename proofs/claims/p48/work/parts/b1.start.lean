/-! from the law's entry to its end -/
theorem q_known {args : Array Value} {s : State} (htz : ∀ w ∈ z_tbl, w.before args s = true) : ∃ (D : va_G) (cI cL : ClassId), va_K D vwCl [(cI, .int), (cL, .long)] s := by
  have hKn : ∀ k : Nat, ∃ x : ClassId × (Nat → Nat), k < 8 → ∀ q : vw_C, vwCl[k]? = some q → u_Kn s q.1 q.2.1 q.2.2 x.1 x.2 := by
    intro k
    by_cases hk : k < 8
    · have h9 : ∃ x : ClassId × (Nat → Nat), ∀ q : vw_C, vwCl[k]? = some q → u_Kn s q.1 q.2.1 q.2.2 x.1 x.2 := by
        match k, hk with
        | 0, _ => obtain ⟨c0, i0, h⟩ := u_known (C := RX0) (T := TX0) (N := 5) (n := 5) htz zinX0 (htz _ zis_X0); exact ⟨(c0, i0), fun q hq => by cases hq; exact h⟩
        | 1, _ => obtain ⟨c0, i0, h⟩ := u_known (C := RX1) (T := TX1) (N := 1) (n := 1) htz zinX1 (htz _ zis_X1); exact ⟨(c0, i0), fun q hq => by cases hq; exact h⟩
        | 2, _ => obtain ⟨c0, i0, h⟩ := u_known (C := RX3) (T := TX3) (N := 5) (n := 5) htz zinX3 (htz _ zis_X3); exact ⟨(c0, i0), fun q hq => by cases hq; exact h⟩
        | 3, _ => obtain ⟨c0, i0, h⟩ := u_known (C := RX4) (T := TX4) (N := 7) (n := 7) htz zinX4 (htz _ zis_X4); exact ⟨(c0, i0), fun q hq => by cases hq; exact h⟩
        | 4, _ => obtain ⟨c0, i0, h⟩ := u_known (C := RX5) (T := TX5) (N := 3) (n := 3) htz zinX5 (htz _ zis_X5); exact ⟨(c0, i0), fun q hq => by cases hq; exact h⟩
        | 5, _ => obtain ⟨c0, i0, h⟩ := u_known (C := RX6) (T := TX6) (N := 10) (n := 10) htz zinX6 (htz _ zis_X6); exact ⟨(c0, i0), fun q hq => by cases hq; exact h⟩
        | 6, _ => obtain ⟨c0, i0, h⟩ := u_known (C := RX7) (T := TX7) (N := 8) (n := 8) htz zinX7 (htz _ zis_X7); exact ⟨(c0, i0), fun q hq => by cases hq; exact h⟩
        | 7, _ => obtain ⟨c0, i0, h⟩ := u_known (C := RX8) (T := TX8) (N := 11) (n := 11) htz zinX8 (htz _ zis_X8); exact ⟨(c0, i0), fun q hq => by cases hq; exact h⟩
        | k + 8, hk => exact absurd hk (by omega)
      obtain ⟨x, hx⟩ := h9
      exact ⟨x, fun _ => hx⟩
    · obtain ⟨c0, i0, -⟩ := u_known (C := RX0) (T := TX0) (N := 5) (n := 5) htz zinX0 (htz _ zis_X0)
      exact ⟨(c0, i0), fun h => absurd h hk⟩
  obtain ⟨Df, hDf⟩ := Classical.axiomOfChoice hKn
  obtain ⟨cI, kI, compI, i1, i2, i3⟩ := Cond.arrayClass_spec (htz _ zar_int)
  obtain ⟨cL, kL, compL, l1, l2, l3⟩ := Cond.arrayClass_spec (htz _ zar_long)
  refine ⟨(fun k => (Df k).1, fun k => (Df k).2), cI, cL, fun k q hq => hDf k (List.getElem?_eq_some_iff.mp hq).1 q hq, fun k q hk => ?_⟩
  match k, hk with
  | 0, hk => cases hk; exact ⟨fun n z => ⟨fun k h => (by cases h), kI, i2, compI, i3⟩, i1⟩
  | 1, hk => cases hk; exact ⟨fun n z => ⟨fun k h => (by cases h), kL, l2, compL, l3⟩, l1⟩
  | k + 2, hk => cases hk
set_option maxRecDepth 20000 in
set_option maxHeartbeats 1000000 in
theorem whole_start {p : Program} {e : Env} {s : State} {m : MethodId} {below : List Frame} {meth : Method} {c : Code} (l : Launch) (hflags : l.flags = flags0) {b L : Nat} {xs : Nat → Int32} (hL : L ≤ 260) (C0 : lw_At p s m meth c b L xs) : W p l e room_1 s m #[Value.ref b] below meth c s.heap [] 0 0 (lw_Z below #[Value.ref b] s) (entryFrame m ([Value.ref b] : List Value).toArray 14) := by
  obtain ⟨hx, hb, hr, hml, hown, hts, hX, hbl, hlocks, hgv⟩ := C0
  have htz : ∀ w ∈ z_tbl, w.before #[Value.ref b] s = true := fun w hw => hts w (List.mem_filter.mp hw).1
  obtain ⟨D, cI, cL, hK⟩ := q_known htz
  have hT : va_T .int b L (fun j => .int (xs j)) (q_A s) s s.heap := by
    obtain ⟨scr, x1, x2, x3, x4, x5⟩ := hX
    exact ⟨scr, x1, x2, x3, Nat.le_of_eq x4.symm, by rw [x4], x5, fun z => by have h3 : s.heap.size ≤ b := z; omega⟩
  have C : q_C p s m c b L xs D cI cL := ⟨⟨hx, hb, hml, hown, htz⟩, hT, by omega, hK⟩
  have hl := lv_entry ([.ref b]) (n := 14) (Nat.le_of_ble_eq_true rfl)
  rw [lg_entry_eq]
  generalize (lg_sl ([.ref b]) ++ List.replicate (14 - (lg_sl ([.ref b])).length) Slot.unset).toArray = ls at hl ⊢
  have hl : lv_has ls 14 [(0, .ref b)] := hl
  have hA0 : ∀ q : Nat, s.heap.size ≤ q → q_A s q := fun _ h => h
  have hP00 : va_P D vwCl [] s.heap := fun k q h => by simp at h
  have hD00 : va_D (q_A s) [] := ⟨fun i j p q h => by simp at h, fun k q h => by simp at h⟩
  refine va_new (R := room_1) (ci := 7) (fs := [.null, .null, .null, .null, .null, .null, .null, .null, .null, .int 0, .int 0]) (C := RX8) (T := TX8) (N := 11) (D := D) (cl := vwCl) (ws := []) (A := q_A s) hx hb htz zinX8 tyX8 tyX8_ok hown (htz _ zcl_L_19) (htz _ zis_X8) (htz _ zii_X8) hK hP00 hD00 va_S.rf hA0 rfl (n_dv rfl) (Nat.le_of_ble_eq_true rfl) (Nat.le_of_ble_eq_true rfl) dL_law_0 (fun q H hP hD hS => ?_)
  intro T1 hT1 X1
  have g1 : q < H.size := (hP 0 _ rfl).lt
  have g2 := X1.heapSize
  rw [hT1] at g2
  have g3 : s.heap.size ≤ q := hD.2 0 _ rfl
  have hq : q = s.heap.size := by omega
  have hz : H.size = s.heap.size + 1 := by omega
  subst hq
  suffices key : W p l e room_1 s m #[Value.ref b] below meth c H [] 1 11 (lw_Z below #[Value.ref b] s) (F0 m 3 ls [.ref s.heap.size]) from key T1 hT1 X1
  clear X1 hT1 g1 g2 g3 T1
  refine lv_dup hx hb dL_law_3 rfl ?_
  intro T2 hT2 X2
  have hrun := va_runI (R := room_1) (mc := 49) (ms := 2069) (locs := []) (cells := 1) (slots := 11) (below := below) (meth := meth) (e := e) (b := s.heap.size) (As := []) (rest := [.ref s.heap.size]) (H := H) (g := F0 m 4 ls [.ref s.heap.size, .ref s.heap.size]) (n := 0) ⟨hx, hb, hml, hown, htz⟩ (k_C (D := D) (cI := cI) (cL := cL) (b := s.heap.size) l) ⟨callB_of 0 htz (z_code_good _ _ _ _ zw_X8_init.2.1) rfl rfl rfl (htz _ zw_X8_init.1) (htz _ zm_L_51) ⟨zw_X8_init.2.2.1, zw_X8_init.2.2.2, by decide⟩ ⟨Nat.le_of_ble_eq_true rfl, Nat.le_of_ble_eq_true rfl⟩, rfl, htz _ zin_X8_init⟩ ⟨fun a' U g mk q => ⟨q.1, q.2.1, va_K.moved (u := U) (U := U.calling g mk a') (Vm.Alike.refl U.vm) q.2.2.1, q.2.2.2⟩, fun U hU hWm => ⟨rfl, by rw [hU]; exact hz, va_K.moved hWm.alike hK, by rw [hU]; exact hP⟩⟩ rfl rfl hl.1 rfl (Nat.le_of_ble_eq_true rfl) dL_law_4 ⟨Nat.le_of_ble_eq_true rfl, Nat.le_of_ble_eq_true rfl⟩
  obtain ⟨v, st₀, t, T', L2, h0, X', hL2, e1, e2, ⟨hv, hw2, hF2⟩, stp⟩ := hrun T2 hT2 X2
  have hv' : v = none := by injection hv
  subst hv'
  have hP1 : va_P D vwCl (z_wf cI cL s.heap.size zc0 0 G_c) T'.heap := by rw [e1]; exact hw2
  have g3 : s.heap.size + 49 < T'.heap.size := (hP1 49 _ (z_wf_at gc_49)).lt
  have hS1 : va_S (q_A s) s.heap T'.heap L2 := ⟨by omega, fun q h1 h2 => by
      rw [← hS.2.1 q h1 h2, e1, ← h0]
      refine hF2.2 q (by rw [h0]; omega) (fun z => h2 ?_)
      rcases z with z | z
      · show s.heap.size ≤ q; omega
      · show s.heap.size ≤ q; omega, fun q hq2 => by
      rcases hL2 q hq2 with z | z
      · show s.heap.size ≤ q.base; omega
      · show s.heap.size ≤ q.base; omega⟩
  suffices key : W p l e room_1 s m #[Value.ref b] below meth c T'.heap L2 50 2080 (lw_Z below #[Value.ref b] s) (F0 m 7 ls [.ref (s.heap.size + 0)]) by
    obtain ⟨t2, a1, b1⟩ := key T' rfl X'
    exact ⟨t2, stp t2 a1, b1⟩
  generalize T'.heap = H at hP1 hS1
  clear stp X' e1 e2 hrun X2 hT2 hw2 hF2 hL2 h0 hv T2 g3 hP hD hS hz
  generalize L2 = locs at hS1
  have I : q_I s D cI cL zc0 [] H locs := ⟨by rw [List.append_nil]; exact hP1, by rw [List.append_nil]; exact (z_sysD D vwCl cI cL G_c s.heap.size zc0 (fun _ _ => True)).weaken (fun _ _ _ h => h.1), hS1, fun k q h => by simp at h⟩
  have F : ∀ (H : Heap) (locs : List Loc) (ls : Array Slot), va_S (q_A s) s.heap H locs → lv_has ls 14 [] → W p l e room_1 s m #[Value.ref b] below meth c H locs 100 5000 (lw_Z below #[Value.ref b] s) (F0 m 597 ls []) := by
    intro H locs ls hS hl
    refine lv_iconst hx hb dL_law_597 zci_1 ?_
    refine va_forget (fun q hq => hS.2.2 q hq) ?_
    refine W.widen (k := 600000) (n := 7302250) (Nat.le_of_ble_eq_true rfl) (Nat.le_of_ble_eq_true rfl) ?_
    exact lw_ret hx hb hr hlocks dL_law_598
  refine W.widen (k := 60) (n := 3000) (Nat.le_of_ble_eq_true rfl) (Nat.le_of_ble_eq_true rfl) ?_
  refine lv_astore_n hx hb dL_law_7 rfl hl (by decide) rfl (fun ls hl => ?_)
  have hl : lv_has ls 14 [(0, .ref b), (1, .ref (s.heap.size + 0))] := z_sto1_has hl
  refine lv_aload_n hx hb dL_law_8 rfl (z_look_at hl rfl) ?_
  refine lv_aload_n hx hb dL_law_9 rfl (z_look_at hl rfl) ?_
  refine lv_bipush hx hb dL_law_10 zcb_7 ?_
  have hL31 : L < 2 ^ 31 := C.2.2.1
  obtain ⟨h, μ, T0, ww, gg, bb, es, h2, h7, CC⟩ := lwStreet (xs := xs) hL31 bs_first
  refine q_callSi C I (q_zs C I) (As := [.ref (s.heap.size + 0), .ref b, .int 7]) (S := []) (c_L_street q_hz 100 7 zc0) es zw_L_street zs_L_street zm_L_52 (n := 3) (by decide) rfl rfl (Nat.le_of_ble_eq_true rfl) (by decide) (by decide) (q_lv hl) (Nat.le_of_ble_eq_true rfl) (Nat.le_of_ble_eq_true rfl) dL_law_12 (fun H locs I => ?_)
  refine lv_istore_n hx hb dL_law_15 rfl hl (by decide) rfl (fun ls hl => ?_)
  have hl : lv_has ls 14 [(0, .ref b), (1, .ref (s.heap.size + 0)), (2, .int (nI h))] := z_sto1_has hl
  refine lv_iconst hx hb dL_law_16 zci_1 ?_
  refine lv_aload_n hx hb dL_law_17 rfl (z_look_at hl rfl) ?_
  refine lv_bipush hx hb dL_law_18 zcb_24 ?_
  refine q_callSi C I (q_zs C I) (As := [.ref b, .int 24]) (S := [.int 1]) (c_L_cell q_hz (nI 24) μ) (cellE (j := 24) hL31 (by omega) μ) zw_L_cell zs_L_cell zm_L_8 (n := 2) (by decide) rfl rfl (Nat.le_of_ble_eq_true rfl) (by decide) (by decide) (q_lv hl) (Nat.le_of_ble_eq_true rfl) (Nat.le_of_ble_eq_true rfl) dL_law_20 (fun H locs I => ?_)
  refine lv_iconst hx hb dL_law_23 zci_3 ?_
  obtain ⟨r, hr3, ep⟩ : ∃ r, r < 3 ∧ ∀ μ, f_L_pick (clV L xs 24) (nI 3) μ = some (nI r, μ) := ⟨_, pkV_lt (v := clV L xs 24) (by omega), fun μ => pickE (by omega) (by omega) μ⟩
  refine q_callSi C I (q_zs C I) (As := [.int (clV L xs 24), .int 3]) (S := [.int 1]) (c_L_pick (clV L xs 24) (nI 3) μ) (ep μ) zw_L_pick zs_L_pick zm_L_14 (n := 2) (by decide) rfl rfl (Nat.le_of_ble_eq_true rfl) (by decide) (by decide) (q_lv hl) (Nat.le_of_ble_eq_true rfl) (Nat.le_of_ble_eq_true rfl) dL_law_24 (fun H locs I => ?_)
  refine lv_iadd hx hb dL_law_27 ?_
  rw [show (1 : Int32) + nI r = nI (1 + r) from nI_add 1 r]
  refine lv_istore_n hx hb dL_law_28 rfl hl (by decide) rfl (fun ls hl => ?_)
  have hl : lv_has ls 14 [(0, .ref b), (1, .ref (s.heap.size + 0)), (2, .int (nI h)), (3, .int (nI (1 + r)))] := z_sto1_has hl
  refine lv_iconst hx hb dL_law_29 zci_0 ?_
  refine lv_istore hx hb dL_law_30 hl (by decide) rfl (fun ls hl => ?_)
  have hl : lv_has ls 14 [(0, .ref b), (1, .ref (s.heap.size + 0)), (2, .int (nI h)), (3, .int (nI (1 + r))), (4, .int 0)] := z_sto1_has hl
  refine lv_iconst hx hb dL_law_32 zci_0 ?_
  refine lv_istore hx hb dL_law_33 hl (by decide) rfl (fun ls hl => ?_)
  have hl : lv_has ls 14 [(0, .ref b), (1, .ref (s.heap.size + 0)), (2, .int (nI h)), (3, .int (nI (1 + r))), (4, .int 0), (5, .int 0)] := z_sto1_has hl
  exact q_houses C (k := 1 + r) (by omega) (by omega) (fun H locs μ ls I CC hl => q_aim C F (by omega) (by omega) (by omega) I CC hl) h 0 0 H locs μ ls (by omega) I CC (lv_sub hl [0, 1, 2, 3, 4, 5] rfl)
