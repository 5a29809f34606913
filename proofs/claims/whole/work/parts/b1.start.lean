/-! from the law's entry to its loop -/
theorem q_known {args : Array Value} {s : State} (htz : ∀ w ∈ z_tbl, w.before args s = true) : ∃ (D : va_G) (cI cL : ClassId), va_K D vwCl [(cI, .int), (cL, .long)] s := by
  have hKn : ∀ k : Nat, ∃ x : ClassId × (Nat → Nat), k < 9 → ∀ q : vw_C, vwCl[k]? = some q → u_Kn s q.1 q.2.1 q.2.2 x.1 x.2 := by
    intro k
    by_cases hk : k < 9
    · have h9 : ∃ x : ClassId × (Nat → Nat), ∀ q : vw_C, vwCl[k]? = some q → u_Kn s q.1 q.2.1 q.2.2 x.1 x.2 := by
        match k, hk with
        | 0, _ => obtain ⟨c0, i0, h⟩ := u_known (C := RX0) (T := TX0) (N := 5) (n := 5) htz zinX0 (htz _ zis_X0); exact ⟨(c0, i0), fun q hq => by cases hq; exact h⟩
        | 1, _ => obtain ⟨c0, i0, h⟩ := u_known (C := RX1) (T := TX1) (N := 1) (n := 1) htz zinX1 (htz _ zis_X1); exact ⟨(c0, i0), fun q hq => by cases hq; exact h⟩
        | 2, _ => obtain ⟨c0, i0, h⟩ := u_known (C := RX3) (T := TX3) (N := 5) (n := 5) htz zinX3 (htz _ zis_X3); exact ⟨(c0, i0), fun q hq => by cases hq; exact h⟩
        | 3, _ => obtain ⟨c0, i0, h⟩ := u_known (C := RX4) (T := TX4) (N := 7) (n := 7) htz zinX4 (htz _ zis_X4); exact ⟨(c0, i0), fun q hq => by cases hq; exact h⟩
        | 4, _ => obtain ⟨c0, i0, h⟩ := u_known (C := RX5) (T := TX5) (N := 3) (n := 3) htz zinX5 (htz _ zis_X5); exact ⟨(c0, i0), fun q hq => by cases hq; exact h⟩
        | 5, _ => obtain ⟨c0, i0, h⟩ := u_known (C := RX6) (T := TX6) (N := 10) (n := 10) htz zinX6 (htz _ zis_X6); exact ⟨(c0, i0), fun q hq => by cases hq; exact h⟩
        | 6, _ => obtain ⟨c0, i0, h⟩ := u_known (C := RX7) (T := TX7) (N := 8) (n := 8) htz zinX7 (htz _ zis_X7); exact ⟨(c0, i0), fun q hq => by cases hq; exact h⟩
        | 7, _ => obtain ⟨c0, i0, h⟩ := u_known (C := RX8) (T := TX8) (N := 11) (n := 11) htz zinX8 (htz _ zis_X8); exact ⟨(c0, i0), fun q hq => by cases hq; exact h⟩
        | 8, _ => obtain ⟨c0, i0, h⟩ := u_known (C := RX9) (T := TX9) (N := 52) (n := 52) htz zinX9 (htz _ zis_X9); exact ⟨(c0, i0), fun q hq => by cases hq; exact h⟩
        | k + 9, hk => exact absurd hk (by omega)
      obtain ⟨x, hx⟩ := h9
      exact ⟨x, fun _ => hx⟩
    · obtain ⟨c0, i0, -⟩ := u_known (C := RX0) (T := TX0) (N := 5) (n := 5) htz zinX0 (htz _ zis_X0)
      exact ⟨(c0, i0), fun h => absurd h hk⟩
  obtain ⟨Df, hDf⟩ := Classical.axiomOfChoice hKn
  obtain ⟨cI, kI, compI, i1, i2, i3⟩ := Cond.arrayClass_spec (htz _ zar_int)
  obtain ⟨cL, kL, compL, l1, l2, l3⟩ := Cond.arrayClass_spec (htz _ zar_long)
  refine ⟨(fun k => (Df k).1, fun k => (Df k).2), cI, cL, fun k q hq => hDf k (List.getElem?_eq_some_iff.mp hq).1 q hq, fun k q hk => ?_⟩
  match k, hk with
  | 0, hk => cases hk; exact ⟨fun n z => ⟨fun k h => (by cases h), kI, i2, compI, i3⟩, i1⟩
  | 1, hk => cases hk; exact ⟨fun n z => ⟨fun k h => (by cases h), kL, l2, compL, l3⟩, l1⟩
  | k + 2, hk => cases hk
set_option maxRecDepth 20000 in
set_option maxHeartbeats 1000000 in
theorem whole_start {p : Program} {e : Env} {s : State} {m : MethodId} {below : List Frame} {meth : Method} {c : Code} (l : Launch) (hflags : l.flags = flags0) {b L : Nat} {xs : Nat → Int32} (hL : L ≤ 3072) (C0 : lw_At p s m meth c b L xs) : W p l e room_1 s m #[Value.ref b] below meth c s.heap [] 0 0 (lw_Z below #[Value.ref b] s) (entryFrame m ([Value.ref b] : List Value).toArray 4) := by
  obtain ⟨hx, hb, hr, hml, hown, hts, hX, hbl, hlocks, hgv⟩ := C0
  have htz : ∀ w ∈ z_tbl, w.before #[Value.ref b] s = true := fun w hw => hts w (List.mem_filter.mp hw).1
  obtain ⟨D, cI, cL, hK⟩ := q_known htz
  have hA : ∀ a : Nat, a < s.heap.size → ¬ q_A s a := fun a h1 h2 => by have h3 : s.heap.size ≤ a := h2; omega
  obtain ⟨adK, adV, w, hZS⟩ := zs_strings (args := #[Value.ref b]) hgv hts hA
  obtain ⟨tA, hZM⟩ := zs_words (args := #[Value.ref b]) hgv hts hA
  have C : q_C p s m c b L xs D cI cL adK adV w tA := ⟨⟨hx, hb, hml, hown, htz⟩, hX, hbl, hL, hK, hZS, hZM⟩
  have hl := lv_entry ([.ref b]) (n := 4) (Nat.le_of_ble_eq_true rfl)
  rw [lg_entry_eq]
  generalize (lg_sl ([.ref b]) ++ List.replicate (4 - (lg_sl ([.ref b])).length) Slot.unset).toArray = ls at hl ⊢
  have hl : lv_has ls 4 [(0, .ref b)] := hl
  have hA0 : ∀ q : Nat, s.heap.size ≤ q → q_A s q := fun _ h => h
  have hP00 : va_P D vwCl [] s.heap := fun k q h => by simp at h
  have hD00 : va_D (q_A s) [] := ⟨fun i j p q h => by simp at h, fun k q h => by simp at h⟩
  refine va_new (R := room_1) (ci := 7) (fs := [.null, .null, .null, .null, .null, .null, .null, .null, .null, .int 0, .int 0]) (C := RX8) (T := TX8) (N := 11) (D := D) (cl := vwCl) (ws := []) (A := q_A s) hx hb htz zinX8 tyX8 tyX8_ok hown (htz _ zcl_L_7) (htz _ zis_X8) (htz _ zii_X8) hK hP00 hD00 va_S.rf hA0 rfl (n_dv rfl) (Nat.le_of_ble_eq_true rfl) (Nat.le_of_ble_eq_true rfl) dL_law_0 (fun q H hP hD hS => ?_)
  intro T1 hT1 X1
  have g1 : q < H.size := (hP 0 _ rfl).lt
  have g2 := X1.heapSize
  rw [hT1] at g2
  have g3 : s.heap.size ≤ q := hD.2 0 _ rfl
  have hq : q = s.heap.size := by omega
  have hz : H.size = s.heap.size + 1 := by omega
  subst hq
  suffices key : W p l e room_1 s m #[Value.ref b] below meth c H [] 1 11 (lw_Z below #[Value.ref b] s) (F0 m 3 ls [.ref s.heap.size]) from key T1 hT1 X1
  clear X1 hT1 g1 g2 g3 T1
  refine lv_dup hx hb dL_law_3 rfl ?_
  intro T2 hT2 X2
  have hrun := va_runI (R := room_1) (mc := 49) (ms := 2069) (locs := []) (cells := 1) (slots := 11) (below := below) (meth := meth) (e := e) (b := s.heap.size) (As := []) (rest := [.ref s.heap.size]) (H := H) (g := F0 m 4 ls [.ref s.heap.size, .ref s.heap.size]) (n := 0) ⟨hx, hb, hml, hown, htz⟩ (k_C (D := D) (cI := cI) (cL := cL) (b := s.heap.size) l) ⟨callB_of 0 htz (z_code_good _ _ _ _ zw_X8_init.2.1) rfl rfl rfl (htz _ zw_X8_init.1) (htz _ zm_L_9) ⟨zw_X8_init.2.2.1, zw_X8_init.2.2.2, by decide⟩ ⟨Nat.le_of_ble_eq_true rfl, Nat.le_of_ble_eq_true rfl⟩, rfl, htz _ zin_X8_init⟩ ⟨fun a' U g mk q => ⟨q.1, q.2.1, va_K.moved (u := U) (U := U.calling g mk a') (Vm.Alike.refl U.vm) q.2.2.1, q.2.2.2⟩, fun U hU hWm => ⟨rfl, by rw [hU]; exact hz, va_K.moved hWm.alike hK, by rw [hU]; exact hP⟩⟩ rfl rfl hl.1 rfl (Nat.le_of_ble_eq_true rfl) dL_law_4 ⟨Nat.le_of_ble_eq_true rfl, Nat.le_of_ble_eq_true rfl⟩
  obtain ⟨v, st₀, t, T', L2, h0, X', hL2, e1, e2, ⟨hv, hw2, hF2⟩, stp⟩ := hrun T2 hT2 X2
  have hv' : v = none := by injection hv
  subst hv'
  have hP1 : va_P D vwCl (z_wf cI cL s.heap.size zc0 0 G_c) T'.heap := by rw [e1]; exact hw2
  have g2 : T'.heap.size ≤ s.heap.size + 50 := X'.heapSize
  have g3 : s.heap.size + 49 < T'.heap.size := (hP1 49 _ (z_wf_at gc_49)).lt
  have hz1 : T'.heap.size = s.heap.size + 50 := by omega
  have hS1 : va_S (q_A s) s.heap T'.heap L2 := ⟨by omega, fun q h1 h2 => by
      rw [← hS.2.1 q h1 h2, e1, ← h0]
      refine hF2.2 q (by rw [h0]; omega) (fun z => h2 ?_)
      rcases z with z | z
      · show s.heap.size ≤ q; omega
      · show s.heap.size ≤ q; omega, fun q hq2 => by
      rcases hL2 q hq2 with z | z
      · show s.heap.size ≤ q.base; omega
      · show s.heap.size ≤ q.base; omega⟩
  suffices key : W p l e room_1 s m #[Value.ref b] below meth c T'.heap L2 50 2080 (lw_Z below #[Value.ref b] s) (F0 m 7 ls [.ref s.heap.size]) by
    obtain ⟨t2, a1, b1⟩ := key T' rfl X'
    exact ⟨t2, stp t2 a1, b1⟩
  generalize T'.heap = H1 at hP1 hz1 hS1
  clear stp X' e1 e2 hrun X2 hT2 hw2 hF2 hL2 h0 hv T2 g2 g3 hP hD hS hz
  refine lv_astore_n (lv' := [(1, .ref s.heap.size), (0, .ref b)]) hx hb dL_law_7 rfl hl (by decide) rfl (fun ls2 hl2 => ?_)
  have hDc : va_D (q_A s) (z_wf cI cL s.heap.size zc0 0 G_c) := (z_sysD D vwCl cI cL G_c s.heap.size zc0 (fun _ _ => True)).weaken (fun _ _ _ h => h.1)
  refine va_new (R := room_1) (ci := 8) (fs := [.null, .null, .null, .null, .null, .null, .null, .null, .int 0, .int 0, .int 0, .int 0, .int 0, .int 0, .null, .null, .null, .null, .null, .null, .null, .null, .null, .int 0, .int 0, .null, .int 0, .int 0, .int 0, .int 0, .int 0, .null, .null, .null, .null, .null, .int 0, .int 0, .int 0, .int 0, .int 0, .null, .int 0, .int 0, .int 0, .null, .int 0, .int 0, .int 0, .int 0, .null, .int 0]) (C := RX9) (T := TX9) (N := 52) (D := D) (cl := vwCl) (ws := z_wf cI cL s.heap.size zc0 0 G_c) (A := q_A s) hx hb htz zinX9 tyX9 tyX9_ok hown (htz _ zcl_L_10) (htz _ zis_X9) (htz _ zii_X9) hK hP1 hDc hS1 hA0 rfl (n_dv rfl) (Nat.le_of_ble_eq_true rfl) (Nat.le_of_ble_eq_true rfl) dL_law_8 (fun q H2 hP2 hD2 hS2 => ?_)
  intro T3 hT3 X3
  have hlen : (z_wf cI cL s.heap.size zc0 0 G_c).length = 50 := rfl
  have at50 : ∀ x : va_E, (z_wf cI cL s.heap.size zc0 0 G_c ++ [(q, x)])[50]? = some (q, x) := fun x => by rw [List.getElem?_append_right (by rw [hlen]; omega), hlen]; rfl
  have g1 : q < H2.size := (hP2 50 _ (at50 _)).lt
  have g2 : H2.size ≤ s.heap.size + 51 := by rw [← hT3]; exact X3.heapSize
  have g3 : s.heap.size ≤ q := hD2.2 50 _ (at50 _)
  have hPc2 : va_P D vwCl (z_wf cI cL s.heap.size zc0 0 G_c) H2 := fun k x hk => hP2 k x (by rw [List.getElem?_append_left (List.getElem?_eq_some_iff.mp hk).1]; exact hk)
  have hq : q = s.heap.size + 50 := by
    apply Classical.byContradiction
    intro hne
    obtain ⟨k, hk, rfl⟩ : ∃ k, k < 50 ∧ q = s.heap.size + k := ⟨q - s.heap.size, by omega, by omega⟩
    have hk2 : k < G_c.length := hk
    have h4 := z_wf_at (cI := cI) (cL := cL) (b := s.heap.size) (μ := zc0) (List.getElem?_eq_getElem hk2)
    have h5 := hD2.1 k 50 (s.heap.size + k, z_ent cI cL s.heap.size zc0 k G_c[k]) _ (by rw [List.getElem?_append_left (by rw [hlen]; exact hk)]; exact h4) (at50 _) rfl
    omega
  have hz2 : H2.size = s.heap.size + 51 := by omega
  have hP9 := hP2 50 _ (at50 _)
  subst hq
  suffices key : W p l e room_1 s m #[Value.ref b] below meth c H2 L2 51 2132 (lw_Z below #[Value.ref b] s) (F0 m 11 ls2 [.ref (s.heap.size + 50)]) from key T3 hT3 X3
  clear X3 hT3 T3 g1 g2 g3 at50
  refine lv_dup hx hb dL_law_11 rfl ?_
  intro T4 hT4 X4
  have hP9' : va_P D vwCl (n_wf (s.heap.size + 50) (s.heap.size + 50 + 1) [.inr (8, [.null, .null, .null, .null, .null, .null, .null, .null, .int 0, .int 0, .int 0, .int 0, .int 0, .int 0, .null, .null, .null, .null, .null, .null, .null, .null, .null, .int 0, .int 0, .null, .int 0, .int 0, .int 0, .int 0, .int 0, .null, .null, .null, .null, .null, .int 0, .int 0, .int 0, .int 0, .int 0, .null, .int 0, .int 0, .int 0, .null, .int 0, .int 0, .int 0, .int 0, .null, .int 0])]) H2 := by
    intro k x hk
    cases k with
    | zero => cases hk; exact hP9
    | succ k => cases hk
  have hrun := va_runI (R := room_1) (mc := 26) (ms := 2266) (locs := L2) (cells := 51) (slots := 2132) (below := below) (meth := meth) (e := e) (b := s.heap.size + 50) (As := []) (rest := [.ref (s.heap.size + 50)]) (H := H2) (g := F0 m 12 ls2 [.ref (s.heap.size + 50), .ref (s.heap.size + 50)]) (n := 0) ⟨hx, hb, hml, hown, htz⟩ (k_M (D := D) (cI := cI) (cL := cL) (b := s.heap.size + 50) l) ⟨callB_of 0 htz (z_code_good _ _ _ _ zw_X9_init.2.1) rfl rfl rfl (htz _ zw_X9_init.1) (htz _ zm_L_12) ⟨zw_X9_init.2.2.1, zw_X9_init.2.2.2, by decide⟩ ⟨Nat.le_of_ble_eq_true rfl, Nat.le_of_ble_eq_true rfl⟩, rfl, htz _ zin_X9_init⟩ ⟨fun a' U g mk q => ⟨q.1, q.2.1, va_K.moved (u := U) (U := U.calling g mk a') (Vm.Alike.refl U.vm) q.2.2.1, q.2.2.2⟩, fun U hU hWm => ⟨rfl, by rw [hU]; exact hz2, va_K.moved hWm.alike hK, by rw [hU]; exact hP9'⟩⟩ rfl rfl hl2.1 rfl (Nat.le_of_ble_eq_true rfl) dL_law_12 ⟨Nat.le_of_ble_eq_true rfl, Nat.le_of_ble_eq_true rfl⟩
  obtain ⟨v, st₀, t, T', L3, h0, X', hL3, e1, e2, ⟨hv, hw2, hF2⟩, stp⟩ := hrun T4 hT4 X4
  have hv' : v = none := by injection hv
  subst hv'
  have hPm : va_P D vwCl (z_wf cI cL (s.heap.size + 50) zm0 0 G_m) T'.heap := by rw [e1]; exact hw2
  have hkeep : ∀ q : Nat, q < H2.size → q < s.heap.size + 50 → T'.heap[q]? = H2[q]? := fun q h1 h2 => by
    rw [e1, ← h0]
    refine hF2.2 q (by rw [h0]; exact h1) (fun z => ?_)
    rcases z with z | z
    · omega
    · omega
  have hz3 : H2.size ≤ T'.heap.size := by rw [← h0, e1]; exact hF2.1
  have hPc3 : va_P D vwCl (z_wf cI cL s.heap.size zc0 0 G_c) T'.heap := hPc2.kept (fun k x hk => hkeep x.1 (hPc2 k x hk).lt (by
    have h1 := z_wf_inv hk
    have h3 : k < 50 := h1.1
    have h2 := h1.2
    omega))
  have hS3 : va_S (q_A s) s.heap T'.heap (L2 ++ L3) := ⟨by omega, fun q h1 h2 => by rw [hkeep q (by omega) (by omega)]; exact hS2.2.1 q h1 h2, fun q hq2 => by
      rcases List.mem_append.mp hq2 with z | z
      · exact hS2.2.2 q z
      · rcases hL3 q z with z | z
        · show s.heap.size ≤ q.base; omega
        · show s.heap.size ≤ q.base; omega⟩
  suffices key : W p l e room_1 s m #[Value.ref b] below meth c T'.heap (L2 ++ L3) 77 4398 (lw_Z below #[Value.ref b] s) (F0 m 15 ls2 [.ref (s.heap.size + 50)]) by
    obtain ⟨t2, a1, b1⟩ := key T' rfl X'
    exact ⟨t2, stp t2 a1, b1⟩
  refine lv_astore_n (lv' := [(2, .ref (s.heap.size + 50)), (1, .ref s.heap.size), (0, .ref b)]) hx hb dL_law_15 rfl hl2 (by decide) rfl (fun ls3 hl3 => ?_)
  refine lv_iconst hx hb dL_law_16 zci_0 ?_
  refine lv_istore_n (lv' := [(3, .int 0), (2, .ref (s.heap.size + 50)), (1, .ref s.heap.size), (0, .ref b)]) hx hb dL_law_17 rfl hl3 (by decide) rfl (fun ls4 hl4 => ?_)
  refine q_loop C (fun H locs μ ν ls I => ?_) 512 0 1 _ _ zc0 zm0 ls4 (by omega) (by omega) (by omega) (by decide) ⟨hPc3, hPm, hS3⟩ rr_first (lv_sub hl4 [3, 2, 1, 0] rfl)
  refine lv_iconst hx hb dL_law_1727 zci_1 ?_
  refine va_forget (fun q hq => I.2.2.2.2 q hq) ?_
  refine W.widen (k := 600000) (n := 7302250) (Nat.le_of_ble_eq_true rfl) (Nat.le_of_ble_eq_true rfl) ?_
  exact lw_ret hx hb hr hlocks dL_law_1728
