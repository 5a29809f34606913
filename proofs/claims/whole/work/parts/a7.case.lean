/-! the law, case by case -/
section QK
variable {p : Program} {l : Launch} {e : Env} {s : State} {m : MethodId} {below : List Frame} {meth : Method} {c : Code} {H : Heap} {locs : List Loc} {Q : State → Prop} {b L : Nat} {xs : Nat → Int32} {D : va_G} {cI cL : ClassId} {adK adV : Nat → Nat} {w : Option Nat} {tA : Nat → Nat} {μ ν μ1 ν1 : z_M} {ls : Array Slot} {pc : Nat} {S st : List Value}

theorem w_L_15 (C : q_C p s m c b L xs D cI cL adK adV w tA) (I : q_I s D cI cL μ ν H locs) {i N : Nat} (hi : i + 6 ≤ L) (hN : 0 < N) (hN2 : N ≤ 2 ^ 30) (R : Rr N μ ν) (hl : lv_has ls 4 [(0, .ref b), (1, .ref (s.heap.size + 0)), (2, .ref (s.heap.size + 50 + 0)), (3, .int (nI i))]) (K : ∀ (H1 : Heap) (locs1 : List Loc) (μ1 ν1 : z_M), q_I s D cI cL μ1 ν1 H1 locs1 → Rr (N + 41) μ1 ν1 → W p l e room_1 s m #[Value.ref b] below meth c H1 locs1 77 4398 Q (F0 m 1721 ls [])) : W p l e room_1 s m #[Value.ref b] below meth c H locs 77 4398 Q (F0 m 830 ls []) := by
  have hx := C.1.1
  have hb := C.1.2.1
  obtain ⟨r, μ1, ν1, ⟨n, hc⟩, ⟨n', hm⟩, R1⟩ := ag_street R hN ((xs (i + 1)))
  refine lv_aload_n hx hb dL_law_830 rfl (lv_at hl 1 rfl) ?_
  refine q_arg (k := 1) C I.2.2 hl hi (by decide) (by decide) dL_law_831 dL_law_832 dL_law_833 dL_law_834 dL_law_835 ?_
  refine q_callCi (As := [.int (xs (i + 1))]) (S := []) C I (c_X8_street (D := D) (cI := cI) (cL := cL) (b := s.heap.size) (Z := q_Zc s.heap.size adK adV w) q_hzc n ((xs (i + 1))) μ) hc zw_X8_street zv_X8_street zm_L_82 (n := 1) (by decide) rfl (z_recv gc_0 (T := TX8) (N := 11) rfl) rfl (Nat.le_of_ble_eq_true rfl) (by decide) (by decide) hl.1 dL_law_836 (fun H1 locs1 I1 => ?_)
  refine lv_aload_n hx hb dL_law_839 rfl (lv_at hl 2 rfl) ?_
  refine q_arg (k := 1) C I1.2.2 hl hi (by decide) (by decide) dL_law_840 dL_law_841 dL_law_842 dL_law_843 dL_law_844 ?_
  refine q_callMi (As := [.int (xs (i + 1))]) (S := [.int r]) C I1 (c_X9_street (D := D) (cI := cI) (cL := cL) (b := s.heap.size + 50) (Z := q_Zm s.heap.size tA) q_hzm n' ((xs (i + 1))) ν) hm zw_X9_street zv_X9_street zm_L_85 (n := 1) (by decide) rfl (z_recv gm_0 (T := TX9) (N := 52) rfl) rfl (Nat.le_of_ble_eq_true rfl) (by decide) (by decide) hl.1 dL_law_845 (fun H2 locs2 I2 => ?_)
  exact lv_icmp_eq hx hb (tgt := 1721) dL_law_848 (by decide) (fun _ => K _ _ _ _ I2 (R1.mono (by omega))) (fun h => absurd rfl h)
theorem w_L_16 (C : q_C p s m c b L xs D cI cL adK adV w tA) (I : q_I s D cI cL μ ν H locs) {i N : Nat} (hi : i + 6 ≤ L) (hN : 0 < N) (hN2 : N ≤ 2 ^ 30) (R : Rr N μ ν) (hl : lv_has ls 4 [(0, .ref b), (1, .ref (s.heap.size + 0)), (2, .ref (s.heap.size + 50 + 0)), (3, .int (nI i))]) (K : ∀ (H1 : Heap) (locs1 : List Loc) (μ1 ν1 : z_M), q_I s D cI cL μ1 ν1 H1 locs1 → Rr (N + 41) μ1 ν1 → W p l e room_1 s m #[Value.ref b] below meth c H1 locs1 77 4398 Q (F0 m 1721 ls [])) : W p l e room_1 s m #[Value.ref b] below meth c H locs 77 4398 Q (F0 m 853 ls []) := by
  have hx := C.1.1
  have hb := C.1.2.1
  obtain ⟨r, μ1, ν1, ⟨n, hc⟩, ⟨n', hm⟩, R1⟩ := ag_fault R 
  refine lv_aload_n hx hb dL_law_853 rfl (lv_at hl 1 rfl) ?_
  refine q_callCi (As := []) (S := []) C I (c_X8_fault (D := D) (cI := cI) (cL := cL) (b := s.heap.size) (Z := q_Zc s.heap.size adK adV w)  μ) hc zw_X8_fault zv_X8_fault zm_L_86 (n := 0) (by decide) rfl (z_recv gc_0 (T := TX8) (N := 11) rfl) rfl (Nat.le_of_ble_eq_true rfl) (by decide) (by decide) hl.1 dL_law_854 (fun H1 locs1 I1 => ?_)
  refine lv_aload_n hx hb dL_law_857 rfl (lv_at hl 2 rfl) ?_
  refine q_callMi (As := []) (S := [.int r]) C I1 (c_X9_fault (D := D) (cI := cI) (cL := cL) (b := s.heap.size + 50) (Z := q_Zm s.heap.size tA)  ν) hm zw_X9_fault zv_X9_fault zm_L_90 (n := 0) (by decide) rfl (z_recv gm_0 (T := TX9) (N := 52) rfl) rfl (Nat.le_of_ble_eq_true rfl) (by decide) (by decide) hl.1 dL_law_858 (fun H2 locs2 I2 => ?_)
  exact lv_icmp_eq hx hb (tgt := 1721) dL_law_861 (by decide) (fun _ => K _ _ _ _ I2 (R1.mono (by omega))) (fun h => absurd rfl h)
theorem w_L_17 (C : q_C p s m c b L xs D cI cL adK adV w tA) (I : q_I s D cI cL μ ν H locs) {i N : Nat} (hi : i + 6 ≤ L) (hN : 0 < N) (hN2 : N ≤ 2 ^ 30) (R : Rr N μ ν) (hl : lv_has ls 4 [(0, .ref b), (1, .ref (s.heap.size + 0)), (2, .ref (s.heap.size + 50 + 0)), (3, .int (nI i))]) (K : ∀ (H1 : Heap) (locs1 : List Loc) (μ1 ν1 : z_M), q_I s D cI cL μ1 ν1 H1 locs1 → Rr (N + 41) μ1 ν1 → W p l e room_1 s m #[Value.ref b] below meth c H1 locs1 77 4398 Q (F0 m 1721 ls [])) : W p l e room_1 s m #[Value.ref b] below meth c H locs 77 4398 Q (F0 m 866 ls []) := by
  have hx := C.1.1
  have hb := C.1.2.1
  obtain ⟨r, μ1, ν1, ⟨n, hc⟩, ⟨n', hm⟩, R1⟩ := ag_put R ((xs (i + 1)))
  refine lv_aload_n hx hb dL_law_866 rfl (lv_at hl 1 rfl) ?_
  refine q_arg (k := 1) C I.2.2 hl hi (by decide) (by decide) dL_law_867 dL_law_868 dL_law_869 dL_law_870 dL_law_871 ?_
  refine q_callCi (As := [.int (xs (i + 1))]) (S := []) C I (c_X8_put (D := D) (cI := cI) (cL := cL) (b := s.heap.size) (Z := q_Zc s.heap.size adK adV w) n ((xs (i + 1))) μ) hc zw_X8_put zv_X8_put zm_L_91 (n := 1) (by decide) rfl (z_recv gc_0 (T := TX8) (N := 11) rfl) rfl (Nat.le_of_ble_eq_true rfl) (by decide) (by decide) hl.1 dL_law_872 (fun H1 locs1 I1 => ?_)
  refine lv_aload_n hx hb dL_law_875 rfl (lv_at hl 2 rfl) ?_
  refine q_arg (k := 1) C I1.2.2 hl hi (by decide) (by decide) dL_law_876 dL_law_877 dL_law_878 dL_law_879 dL_law_880 ?_
  refine q_callMi (As := [.int (xs (i + 1))]) (S := [.int r]) C I1 (c_X9_put (D := D) (cI := cI) (cL := cL) (b := s.heap.size + 50) (Z := q_Zm s.heap.size tA) ((xs (i + 1))) ν) hm zw_X9_put zv_X9_put zm_L_94 (n := 1) (by decide) rfl (z_recv gm_0 (T := TX9) (N := 52) rfl) rfl (Nat.le_of_ble_eq_true rfl) (by decide) (by decide) hl.1 dL_law_881 (fun H2 locs2 I2 => ?_)
  exact lv_icmp_eq hx hb (tgt := 1721) dL_law_884 (by decide) (fun _ => K _ _ _ _ I2 (R1.mono (by omega))) (fun h => absurd rfl h)
theorem w_L_18 (C : q_C p s m c b L xs D cI cL adK adV w tA) (I : q_I s D cI cL μ ν H locs) {i N : Nat} (hi : i + 6 ≤ L) (hN : 0 < N) (hN2 : N ≤ 2 ^ 30) (R : Rr N μ ν) (hl : lv_has ls 4 [(0, .ref b), (1, .ref (s.heap.size + 0)), (2, .ref (s.heap.size + 50 + 0)), (3, .int (nI i))]) (K : ∀ (H1 : Heap) (locs1 : List Loc) (μ1 ν1 : z_M), q_I s D cI cL μ1 ν1 H1 locs1 → Rr (N + 41) μ1 ν1 → W p l e room_1 s m #[Value.ref b] below meth c H1 locs1 77 4398 Q (F0 m 1721 ls [])) : W p l e room_1 s m #[Value.ref b] below meth c H locs 77 4398 Q (F0 m 889 ls []) := by
  have hx := C.1.1
  have hb := C.1.2.1
  obtain ⟨r, μ1, ν1, ⟨n, hc⟩, ⟨n', hm⟩, R1⟩ := ag_go R ((xs (i + 1)))
  refine lv_aload_n hx hb dL_law_889 rfl (lv_at hl 1 rfl) ?_
  refine q_arg (k := 1) C I.2.2 hl hi (by decide) (by decide) dL_law_890 dL_law_891 dL_law_892 dL_law_893 dL_law_894 ?_
  refine q_callCi (As := [.int (xs (i + 1))]) (S := []) C I (c_X8_go (D := D) (cI := cI) (cL := cL) (b := s.heap.size) (Z := q_Zc s.heap.size adK adV w) n ((xs (i + 1))) μ) hc zw_X8_go zv_X8_go zm_L_95 (n := 1) (by decide) rfl (z_recv gc_0 (T := TX8) (N := 11) rfl) rfl (Nat.le_of_ble_eq_true rfl) (by decide) (by decide) hl.1 dL_law_895 (fun H1 locs1 I1 => ?_)
  refine lv_aload_n hx hb dL_law_898 rfl (lv_at hl 2 rfl) ?_
  refine q_arg (k := 1) C I1.2.2 hl hi (by decide) (by decide) dL_law_899 dL_law_900 dL_law_901 dL_law_902 dL_law_903 ?_
  refine q_callMi (As := [.int (xs (i + 1))]) (S := [.int r]) C I1 (c_X9_go (D := D) (cI := cI) (cL := cL) (b := s.heap.size + 50) (Z := q_Zm s.heap.size tA) ((xs (i + 1))) ν) hm zw_X9_go zv_X9_go zm_L_98 (n := 1) (by decide) rfl (z_recv gm_0 (T := TX9) (N := 52) rfl) rfl (Nat.le_of_ble_eq_true rfl) (by decide) (by decide) hl.1 dL_law_904 (fun H2 locs2 I2 => ?_)
  exact lv_icmp_eq hx hb (tgt := 1721) dL_law_907 (by decide) (fun _ => K _ _ _ _ I2 (R1.mono (by omega))) (fun h => absurd rfl h)
theorem w_L_19 (C : q_C p s m c b L xs D cI cL adK adV w tA) (I : q_I s D cI cL μ ν H locs) {i N : Nat} (hi : i + 6 ≤ L) (hN : 0 < N) (hN2 : N ≤ 2 ^ 30) (R : Rr N μ ν) (hl : lv_has ls 4 [(0, .ref b), (1, .ref (s.heap.size + 0)), (2, .ref (s.heap.size + 50 + 0)), (3, .int (nI i))]) (K : ∀ (H1 : Heap) (locs1 : List Loc) (μ1 ν1 : z_M), q_I s D cI cL μ1 ν1 H1 locs1 → Rr (N + 41) μ1 ν1 → W p l e room_1 s m #[Value.ref b] below meth c H1 locs1 77 4398 Q (F0 m 1721 ls [])) : W p l e room_1 s m #[Value.ref b] below meth c H locs 77 4398 Q (F0 m 912 ls []) := by
  have hx := C.1.1
  have hb := C.1.2.1
  obtain ⟨r, μ1, ν1, ⟨n, hc⟩, ⟨n', hm⟩, R1⟩ := ag_where R 
  refine lv_aload_n hx hb dL_law_912 rfl (lv_at hl 1 rfl) ?_
  refine q_callCi (As := []) (S := []) C I (c_X8_where (D := D) (cI := cI) (cL := cL) (b := s.heap.size) (Z := q_Zc s.heap.size adK adV w)  μ) hc zw_X8_where zv_X8_where zm_L_99 (n := 0) (by decide) rfl (z_recv gc_0 (T := TX8) (N := 11) rfl) rfl (Nat.le_of_ble_eq_true rfl) (by decide) (by decide) hl.1 dL_law_913 (fun H1 locs1 I1 => ?_)
  refine lv_aload_n hx hb dL_law_916 rfl (lv_at hl 2 rfl) ?_
  refine q_callMi (As := []) (S := [.int r]) C I1 (c_X9_where (D := D) (cI := cI) (cL := cL) (b := s.heap.size + 50) (Z := q_Zm s.heap.size tA)  ν) hm zw_X9_where zv_X9_where zm_L_102 (n := 0) (by decide) rfl (z_recv gm_0 (T := TX9) (N := 52) rfl) rfl (Nat.le_of_ble_eq_true rfl) (by decide) (by decide) hl.1 dL_law_917 (fun H2 locs2 I2 => ?_)
  exact lv_icmp_eq hx hb (tgt := 1721) dL_law_920 (by decide) (fun _ => K _ _ _ _ I2 (R1.mono (by omega))) (fun h => absurd rfl h)
theorem w_L_20 (C : q_C p s m c b L xs D cI cL adK adV w tA) (I : q_I s D cI cL μ ν H locs) {i N : Nat} (hi : i + 6 ≤ L) (hN : 0 < N) (hN2 : N ≤ 2 ^ 30) (R : Rr N μ ν) (hl : lv_has ls 4 [(0, .ref b), (1, .ref (s.heap.size + 0)), (2, .ref (s.heap.size + 50 + 0)), (3, .int (nI i))]) (K : ∀ (H1 : Heap) (locs1 : List Loc) (μ1 ν1 : z_M), q_I s D cI cL μ1 ν1 H1 locs1 → Rr (N + 41) μ1 ν1 → W p l e room_1 s m #[Value.ref b] below meth c H1 locs1 77 4398 Q (F0 m 1721 ls [])) : W p l e room_1 s m #[Value.ref b] below meth c H locs 77 4398 Q (F0 m 925 ls []) := by
  have hx := C.1.1
  have hb := C.1.2.1
  obtain ⟨r, μ1, ν1, ⟨n, hc⟩, ⟨n', hm⟩, R1⟩ := ag_next R 
  refine lv_aload_n hx hb dL_law_925 rfl (lv_at hl 1 rfl) ?_
  refine q_callCi (As := []) (S := []) C I (c_X8_next (D := D) (cI := cI) (cL := cL) (b := s.heap.size) (Z := q_Zc s.heap.size adK adV w)  μ) hc zw_X8_next zv_X8_next zm_L_103 (n := 0) (by decide) rfl (z_recv gc_0 (T := TX8) (N := 11) rfl) rfl (Nat.le_of_ble_eq_true rfl) (by decide) (by decide) hl.1 dL_law_926 (fun H1 locs1 I1 => ?_)
  refine lv_aload_n hx hb dL_law_929 rfl (lv_at hl 2 rfl) ?_
  refine q_callMi (As := []) (S := [.int r]) C I1 (c_X9_next (D := D) (cI := cI) (cL := cL) (b := s.heap.size + 50) (Z := q_Zm s.heap.size tA)  ν) hm zw_X9_next zv_X9_next zm_L_106 (n := 0) (by decide) rfl (z_recv gm_0 (T := TX9) (N := 52) rfl) rfl (Nat.le_of_ble_eq_true rfl) (by decide) (by decide) hl.1 dL_law_930 (fun H2 locs2 I2 => ?_)
  exact lv_icmp_eq hx hb (tgt := 1721) dL_law_933 (by decide) (fun _ => K _ _ _ _ I2 (R1.mono (by omega))) (fun h => absurd rfl h)
theorem w_L_21 (C : q_C p s m c b L xs D cI cL adK adV w tA) (I : q_I s D cI cL μ ν H locs) {i N : Nat} (hi : i + 6 ≤ L) (hN : 0 < N) (hN2 : N ≤ 2 ^ 30) (R : Rr N μ ν) (hl : lv_has ls 4 [(0, .ref b), (1, .ref (s.heap.size + 0)), (2, .ref (s.heap.size + 50 + 0)), (3, .int (nI i))]) (K : ∀ (H1 : Heap) (locs1 : List Loc) (μ1 ν1 : z_M), q_I s D cI cL μ1 ν1 H1 locs1 → Rr (N + 41) μ1 ν1 → W p l e room_1 s m #[Value.ref b] below meth c H1 locs1 77 4398 Q (F0 m 1721 ls [])) : W p l e room_1 s m #[Value.ref b] below meth c H locs 77 4398 Q (F0 m 938 ls []) := by
  have hx := C.1.1
  have hb := C.1.2.1
  obtain ⟨r, μ1, ν1, ⟨n, hc⟩, ⟨n', hm⟩, R1⟩ := ag_behind R ((xs (i + 1)))
  refine lv_aload_n hx hb dL_law_938 rfl (lv_at hl 1 rfl) ?_
  refine q_arg (k := 1) C I.2.2 hl hi (by decide) (by decide) dL_law_939 dL_law_940 dL_law_941 dL_law_942 dL_law_943 ?_
  refine q_callCi (As := [.int (xs (i + 1))]) (S := []) C I (c_X8_behind (D := D) (cI := cI) (cL := cL) (b := s.heap.size) (Z := q_Zc s.heap.size adK adV w) ((xs (i + 1))) μ) hc zw_X8_behind zv_X8_behind zm_L_107 (n := 1) (by decide) rfl (z_recv gc_0 (T := TX8) (N := 11) rfl) rfl (Nat.le_of_ble_eq_true rfl) (by decide) (by decide) hl.1 dL_law_944 (fun H1 locs1 I1 => ?_)
  refine lv_aload_n hx hb dL_law_947 rfl (lv_at hl 2 rfl) ?_
  refine q_arg (k := 1) C I1.2.2 hl hi (by decide) (by decide) dL_law_948 dL_law_949 dL_law_950 dL_law_951 dL_law_952 ?_
  refine q_callMi (As := [.int (xs (i + 1))]) (S := [.int r]) C I1 (c_X9_behind (D := D) (cI := cI) (cL := cL) (b := s.heap.size + 50) (Z := q_Zm s.heap.size tA) ((xs (i + 1))) ν) hm zw_X9_behind zv_X9_behind zm_L_110 (n := 1) (by decide) rfl (z_recv gm_0 (T := TX9) (N := 52) rfl) rfl (Nat.le_of_ble_eq_true rfl) (by decide) (by decide) hl.1 dL_law_953 (fun H2 locs2 I2 => ?_)
  exact lv_icmp_eq hx hb (tgt := 1721) dL_law_956 (by decide) (fun _ => K _ _ _ _ I2 (R1.mono (by omega))) (fun h => absurd rfl h)
theorem w_L_22 (C : q_C p s m c b L xs D cI cL adK adV w tA) (I : q_I s D cI cL μ ν H locs) {i N : Nat} (hi : i + 6 ≤ L) (hN : 0 < N) (hN2 : N ≤ 2 ^ 30) (R : Rr N μ ν) (hl : lv_has ls 4 [(0, .ref b), (1, .ref (s.heap.size + 0)), (2, .ref (s.heap.size + 50 + 0)), (3, .int (nI i))]) (K : ∀ (H1 : Heap) (locs1 : List Loc) (μ1 ν1 : z_M), q_I s D cI cL μ1 ν1 H1 locs1 → Rr (N + 41) μ1 ν1 → W p l e room_1 s m #[Value.ref b] below meth c H1 locs1 77 4398 Q (F0 m 1721 ls [])) : W p l e room_1 s m #[Value.ref b] below meth c H locs 77 4398 Q (F0 m 961 ls []) := by
  have hx := C.1.1
  have hb := C.1.2.1
  obtain ⟨r, μ1, ν1, ⟨n, hc⟩, ⟨n', hm⟩, R1⟩ := ag_answer R ((xs (i + 1))) ((xs (i + 2)))
  refine lv_aload_n hx hb dL_law_961 rfl (lv_at hl 1 rfl) ?_
  refine q_arg (k := 1) C I.2.2 hl hi (by decide) (by decide) dL_law_962 dL_law_963 dL_law_964 dL_law_965 dL_law_966 ?_
  refine q_arg (k := 2) C I.2.2 hl hi (by decide) (by decide) dL_law_967 dL_law_968 dL_law_969 dL_law_970 dL_law_971 ?_
  refine q_callCi (As := [.int (xs (i + 1)), .int (xs (i + 2))]) (S := []) C I (c_X8_answer (D := D) (cI := cI) (cL := cL) (b := s.heap.size) (Z := q_Zc s.heap.size adK adV w) ((xs (i + 1))) ((xs (i + 2))) μ) hc zw_X8_answer zv_X8_answer zm_L_111 (n := 2) (by decide) rfl (z_recv gc_0 (T := TX8) (N := 11) rfl) rfl (Nat.le_of_ble_eq_true rfl) (by decide) (by decide) hl.1 dL_law_972 (fun H1 locs1 I1 => ?_)
  refine lv_aload_n hx hb dL_law_975 rfl (lv_at hl 2 rfl) ?_
  refine q_arg (k := 1) C I1.2.2 hl hi (by decide) (by decide) dL_law_976 dL_law_977 dL_law_978 dL_law_979 dL_law_980 ?_
  refine q_arg (k := 2) C I1.2.2 hl hi (by decide) (by decide) dL_law_981 dL_law_982 dL_law_983 dL_law_984 dL_law_985 ?_
  refine q_callMi (As := [.int (xs (i + 1)), .int (xs (i + 2))]) (S := [.int r]) C I1 (c_X9_answer (D := D) (cI := cI) (cL := cL) (b := s.heap.size + 50) (Z := q_Zm s.heap.size tA) ((xs (i + 1))) ((xs (i + 2))) ν) hm zw_X9_answer zv_X9_answer zm_L_114 (n := 2) (by decide) rfl (z_recv gm_0 (T := TX9) (N := 52) rfl) rfl (Nat.le_of_ble_eq_true rfl) (by decide) (by decide) hl.1 dL_law_986 (fun H2 locs2 I2 => ?_)
  exact lv_icmp_eq hx hb (tgt := 1721) dL_law_989 (by decide) (fun _ => K _ _ _ _ I2 (R1.mono (by omega))) (fun h => absurd rfl h)
theorem w_L_23 (C : q_C p s m c b L xs D cI cL adK adV w tA) (I : q_I s D cI cL μ ν H locs) {i N : Nat} (hi : i + 6 ≤ L) (hN : 0 < N) (hN2 : N ≤ 2 ^ 30) (R : Rr N μ ν) (hl : lv_has ls 4 [(0, .ref b), (1, .ref (s.heap.size + 0)), (2, .ref (s.heap.size + 50 + 0)), (3, .int (nI i))]) (K : ∀ (H1 : Heap) (locs1 : List Loc) (μ1 ν1 : z_M), q_I s D cI cL μ1 ν1 H1 locs1 → Rr (N + 41) μ1 ν1 → W p l e room_1 s m #[Value.ref b] below meth c H1 locs1 77 4398 Q (F0 m 1721 ls [])) : W p l e room_1 s m #[Value.ref b] below meth c H locs 77 4398 Q (F0 m 994 ls []) := by
  have hx := C.1.1
  have hb := C.1.2.1
  obtain ⟨r, μ1, ν1, ⟨n, hc⟩, ⟨n', hm⟩, R1⟩ := ag_between R ((xs (i + 1))) ((xs (i + 2)))
  refine lv_aload_n hx hb dL_law_994 rfl (lv_at hl 1 rfl) ?_
  refine q_arg (k := 1) C I.2.2 hl hi (by decide) (by decide) dL_law_995 dL_law_996 dL_law_997 dL_law_998 dL_law_999 ?_
  refine q_arg (k := 2) C I.2.2 hl hi (by decide) (by decide) dL_law_1000 dL_law_1001 dL_law_1002 dL_law_1003 dL_law_1004 ?_
  refine q_callCi (As := [.int (xs (i + 1)), .int (xs (i + 2))]) (S := []) C I (c_X8_between (D := D) (cI := cI) (cL := cL) (b := s.heap.size) (Z := q_Zc s.heap.size adK adV w) n ((xs (i + 1))) ((xs (i + 2))) μ) hc zw_X8_between zv_X8_between zm_L_115 (n := 2) (by decide) rfl (z_recv gc_0 (T := TX8) (N := 11) rfl) rfl (Nat.le_of_ble_eq_true rfl) (by decide) (by decide) hl.1 dL_law_1005 (fun H1 locs1 I1 => ?_)
  refine lv_aload_n hx hb dL_law_1008 rfl (lv_at hl 2 rfl) ?_
  refine q_arg (k := 1) C I1.2.2 hl hi (by decide) (by decide) dL_law_1009 dL_law_1010 dL_law_1011 dL_law_1012 dL_law_1013 ?_
  refine q_arg (k := 2) C I1.2.2 hl hi (by decide) (by decide) dL_law_1014 dL_law_1015 dL_law_1016 dL_law_1017 dL_law_1018 ?_
  refine q_callMi (As := [.int (xs (i + 1)), .int (xs (i + 2))]) (S := [.int r]) C I1 (c_X9_between (D := D) (cI := cI) (cL := cL) (b := s.heap.size + 50) (Z := q_Zm s.heap.size tA) n' ((xs (i + 1))) ((xs (i + 2))) ν) hm zw_X9_between zv_X9_between zm_L_118 (n := 2) (by decide) rfl (z_recv gm_0 (T := TX9) (N := 52) rfl) rfl (Nat.le_of_ble_eq_true rfl) (by decide) (by decide) hl.1 dL_law_1019 (fun H2 locs2 I2 => ?_)
  exact lv_icmp_eq hx hb (tgt := 1721) dL_law_1022 (by decide) (fun _ => K _ _ _ _ I2 (R1.mono (by omega))) (fun h => absurd rfl h)
theorem w_L_24 (C : q_C p s m c b L xs D cI cL adK adV w tA) (I : q_I s D cI cL μ ν H locs) {i N : Nat} (hi : i + 6 ≤ L) (hN : 0 < N) (hN2 : N ≤ 2 ^ 30) (R : Rr N μ ν) (hl : lv_has ls 4 [(0, .ref b), (1, .ref (s.heap.size + 0)), (2, .ref (s.heap.size + 50 + 0)), (3, .int (nI i))]) (K : ∀ (H1 : Heap) (locs1 : List Loc) (μ1 ν1 : z_M), q_I s D cI cL μ1 ν1 H1 locs1 → Rr (N + 41) μ1 ν1 → W p l e room_1 s m #[Value.ref b] below meth c H1 locs1 77 4398 Q (F0 m 1721 ls [])) : W p l e room_1 s m #[Value.ref b] below meth c H locs 77 4398 Q (F0 m 1027 ls []) := by
  have hx := C.1.1
  have hb := C.1.2.1
  obtain ⟨r, μ1, ν1, ⟨n, hc⟩, ⟨n', hm⟩, R1⟩ := ag_judge R ((xs (i + 1))) ((xs (i + 2)))
  refine lv_aload_n hx hb dL_law_1027 rfl (lv_at hl 1 rfl) ?_
  refine q_arg (k := 1) C I.2.2 hl hi (by decide) (by decide) dL_law_1028 dL_law_1029 dL_law_1030 dL_law_1031 dL_law_1032 ?_
  refine q_arg (k := 2) C I.2.2 hl hi (by decide) (by decide) dL_law_1033 dL_law_1034 dL_law_1035 dL_law_1036 dL_law_1037 ?_
  refine q_callCi (As := [.int (xs (i + 1)), .int (xs (i + 2))]) (S := []) C I (c_X8_judge (D := D) (cI := cI) (cL := cL) (b := s.heap.size) (Z := q_Zc s.heap.size adK adV w) n ((xs (i + 1))) ((xs (i + 2))) μ) hc zw_X8_judge zv_X8_judge zm_L_119 (n := 2) (by decide) rfl (z_recv gc_0 (T := TX8) (N := 11) rfl) rfl (Nat.le_of_ble_eq_true rfl) (by decide) (by decide) hl.1 dL_law_1038 (fun H1 locs1 I1 => ?_)
  refine lv_aload_n hx hb dL_law_1041 rfl (lv_at hl 2 rfl) ?_
  refine q_arg (k := 1) C I1.2.2 hl hi (by decide) (by decide) dL_law_1042 dL_law_1043 dL_law_1044 dL_law_1045 dL_law_1046 ?_
  refine q_arg (k := 2) C I1.2.2 hl hi (by decide) (by decide) dL_law_1047 dL_law_1048 dL_law_1049 dL_law_1050 dL_law_1051 ?_
  refine q_callMi (As := [.int (xs (i + 1)), .int (xs (i + 2))]) (S := [.int r]) C I1 (c_X9_judge (D := D) (cI := cI) (cL := cL) (b := s.heap.size + 50) (Z := q_Zm s.heap.size tA) n' ((xs (i + 1))) ((xs (i + 2))) ν) hm zw_X9_judge zv_X9_judge zm_L_122 (n := 2) (by decide) rfl (z_recv gm_0 (T := TX9) (N := 52) rfl) rfl (Nat.le_of_ble_eq_true rfl) (by decide) (by decide) hl.1 dL_law_1052 (fun H2 locs2 I2 => ?_)
  exact lv_icmp_eq hx hb (tgt := 1721) dL_law_1055 (by decide) (fun _ => K _ _ _ _ I2 (R1.mono (by omega))) (fun h => absurd rfl h)
theorem w_L_25 (C : q_C p s m c b L xs D cI cL adK adV w tA) (I : q_I s D cI cL μ ν H locs) {i N : Nat} (hi : i + 6 ≤ L) (hN : 0 < N) (hN2 : N ≤ 2 ^ 30) (R : Rr N μ ν) (hl : lv_has ls 4 [(0, .ref b), (1, .ref (s.heap.size + 0)), (2, .ref (s.heap.size + 50 + 0)), (3, .int (nI i))]) (K : ∀ (H1 : Heap) (locs1 : List Loc) (μ1 ν1 : z_M), q_I s D cI cL μ1 ν1 H1 locs1 → Rr (N + 41) μ1 ν1 → W p l e room_1 s m #[Value.ref b] below meth c H1 locs1 77 4398 Q (F0 m 1721 ls [])) : W p l e room_1 s m #[Value.ref b] below meth c H locs 77 4398 Q (F0 m 1060 ls []) := by
  have hx := C.1.1
  have hb := C.1.2.1
  obtain ⟨r, μ1, ν1, ⟨n, hc⟩, ⟨n', hm⟩, R1⟩ := ag_minutes R ((xs (i + 1))) ((xs (i + 2)))
  refine lv_aload_n hx hb dL_law_1060 rfl (lv_at hl 1 rfl) ?_
  refine q_arg (k := 1) C I.2.2 hl hi (by decide) (by decide) dL_law_1061 dL_law_1062 dL_law_1063 dL_law_1064 dL_law_1065 ?_
  refine q_arg (k := 2) C I.2.2 hl hi (by decide) (by decide) dL_law_1066 dL_law_1067 dL_law_1068 dL_law_1069 dL_law_1070 ?_
  refine q_callCi (As := [.int (xs (i + 1)), .int (xs (i + 2))]) (S := []) C I (c_X8_minutes (D := D) (cI := cI) (cL := cL) (b := s.heap.size) (Z := q_Zc s.heap.size adK adV w) n ((xs (i + 1))) ((xs (i + 2))) μ) hc zw_X8_minutes zv_X8_minutes zm_L_123 (n := 2) (by decide) rfl (z_recv gc_0 (T := TX8) (N := 11) rfl) rfl (Nat.le_of_ble_eq_true rfl) (by decide) (by decide) hl.1 dL_law_1071 (fun H1 locs1 I1 => ?_)
  refine lv_aload_n hx hb dL_law_1074 rfl (lv_at hl 2 rfl) ?_
  refine q_arg (k := 1) C I1.2.2 hl hi (by decide) (by decide) dL_law_1075 dL_law_1076 dL_law_1077 dL_law_1078 dL_law_1079 ?_
  refine q_arg (k := 2) C I1.2.2 hl hi (by decide) (by decide) dL_law_1080 dL_law_1081 dL_law_1082 dL_law_1083 dL_law_1084 ?_
  refine q_callMi (As := [.int (xs (i + 1)), .int (xs (i + 2))]) (S := [.int r]) C I1 (c_X9_minutes (D := D) (cI := cI) (cL := cL) (b := s.heap.size + 50) (Z := q_Zm s.heap.size tA) n' ((xs (i + 1))) ((xs (i + 2))) ν) hm zw_X9_minutes zv_X9_minutes zm_L_126 (n := 2) (by decide) rfl (z_recv gm_0 (T := TX9) (N := 52) rfl) rfl (Nat.le_of_ble_eq_true rfl) (by decide) (by decide) hl.1 dL_law_1085 (fun H2 locs2 I2 => ?_)
  exact lv_icmp_eq hx hb (tgt := 1721) dL_law_1088 (by decide) (fun _ => K _ _ _ _ I2 (R1.mono (by omega))) (fun h => absurd rfl h)
theorem w_L_26 (C : q_C p s m c b L xs D cI cL adK adV w tA) (I : q_I s D cI cL μ ν H locs) {i N : Nat} (hi : i + 6 ≤ L) (hN : 0 < N) (hN2 : N ≤ 2 ^ 30) (R : Rr N μ ν) (hl : lv_has ls 4 [(0, .ref b), (1, .ref (s.heap.size + 0)), (2, .ref (s.heap.size + 50 + 0)), (3, .int (nI i))]) (K : ∀ (H1 : Heap) (locs1 : List Loc) (μ1 ν1 : z_M), q_I s D cI cL μ1 ν1 H1 locs1 → Rr (N + 41) μ1 ν1 → W p l e room_1 s m #[Value.ref b] below meth c H1 locs1 77 4398 Q (F0 m 1721 ls [])) : W p l e room_1 s m #[Value.ref b] below meth c H locs 77 4398 Q (F0 m 1093 ls []) := by
  have hx := C.1.1
  have hb := C.1.2.1
  obtain ⟨r, μ1, ν1, ⟨n, hc⟩, ⟨n', hm⟩, R1⟩ := ag_hears R ((xs (i + 1))) ((xs (i + 2))) ((xs (i + 3)))
  refine lv_aload_n hx hb dL_law_1093 rfl (lv_at hl 1 rfl) ?_
  refine q_arg (k := 1) C I.2.2 hl hi (by decide) (by decide) dL_law_1094 dL_law_1095 dL_law_1096 dL_law_1097 dL_law_1098 ?_
  refine q_arg (k := 2) C I.2.2 hl hi (by decide) (by decide) dL_law_1099 dL_law_1100 dL_law_1101 dL_law_1102 dL_law_1103 ?_
  refine q_arg (k := 3) C I.2.2 hl hi (by decide) (by decide) dL_law_1104 dL_law_1105 dL_law_1106 dL_law_1107 dL_law_1108 ?_
  refine q_callCi (As := [.int (xs (i + 1)), .int (xs (i + 2)), .int (xs (i + 3))]) (S := []) C I (c_X8_hears (D := D) (cI := cI) (cL := cL) (b := s.heap.size) (Z := q_Zc s.heap.size adK adV w) n ((xs (i + 1))) ((xs (i + 2))) ((xs (i + 3))) μ) hc zw_X8_hears zv_X8_hears zm_L_127 (n := 3) (by decide) rfl (z_recv gc_0 (T := TX8) (N := 11) rfl) rfl (Nat.le_of_ble_eq_true rfl) (by decide) (by decide) hl.1 dL_law_1109 (fun H1 locs1 I1 => ?_)
  refine lv_aload_n hx hb dL_law_1112 rfl (lv_at hl 2 rfl) ?_
  refine q_arg (k := 1) C I1.2.2 hl hi (by decide) (by decide) dL_law_1113 dL_law_1114 dL_law_1115 dL_law_1116 dL_law_1117 ?_
  refine q_arg (k := 2) C I1.2.2 hl hi (by decide) (by decide) dL_law_1118 dL_law_1119 dL_law_1120 dL_law_1121 dL_law_1122 ?_
  refine q_arg (k := 3) C I1.2.2 hl hi (by decide) (by decide) dL_law_1123 dL_law_1124 dL_law_1125 dL_law_1126 dL_law_1127 ?_
  refine q_callMi (As := [.int (xs (i + 1)), .int (xs (i + 2)), .int (xs (i + 3))]) (S := [.int r]) C I1 (c_X9_hears (D := D) (cI := cI) (cL := cL) (b := s.heap.size + 50) (Z := q_Zm s.heap.size tA) n' ((xs (i + 1))) ((xs (i + 2))) ((xs (i + 3))) ν) hm zw_X9_hears zv_X9_hears zm_L_130 (n := 3) (by decide) rfl (z_recv gm_0 (T := TX9) (N := 52) rfl) rfl (Nat.le_of_ble_eq_true rfl) (by decide) (by decide) hl.1 dL_law_1128 (fun H2 locs2 I2 => ?_)
  exact lv_icmp_eq hx hb (tgt := 1721) dL_law_1131 (by decide) (fun _ => K _ _ _ _ I2 (R1.mono (by omega))) (fun h => absurd rfl h)
theorem w_L_27 (C : q_C p s m c b L xs D cI cL adK adV w tA) (I : q_I s D cI cL μ ν H locs) {i N : Nat} (hi : i + 6 ≤ L) (hN : 0 < N) (hN2 : N ≤ 2 ^ 30) (R : Rr N μ ν) (hl : lv_has ls 4 [(0, .ref b), (1, .ref (s.heap.size + 0)), (2, .ref (s.heap.size + 50 + 0)), (3, .int (nI i))]) (K : ∀ (H1 : Heap) (locs1 : List Loc) (μ1 ν1 : z_M), q_I s D cI cL μ1 ν1 H1 locs1 → Rr (N + 41) μ1 ν1 → W p l e room_1 s m #[Value.ref b] below meth c H1 locs1 77 4398 Q (F0 m 1721 ls [])) : W p l e room_1 s m #[Value.ref b] below meth c H locs 77 4398 Q (F0 m 1136 ls []) := by
  have hx := C.1.1
  have hb := C.1.2.1
  obtain ⟨r, μ1, ν1, ⟨n, hc⟩, ⟨n', hm⟩, R1⟩ := ag_other R ((xs (i + 1))) ((xs (i + 2))) ((xs (i + 3)))
  refine lv_aload_n hx hb dL_law_1136 rfl (lv_at hl 1 rfl) ?_
  refine q_arg (k := 1) C I.2.2 hl hi (by decide) (by decide) dL_law_1137 dL_law_1138 dL_law_1139 dL_law_1140 dL_law_1141 ?_
  refine q_arg (k := 2) C I.2.2 hl hi (by decide) (by decide) dL_law_1142 dL_law_1143 dL_law_1144 dL_law_1145 dL_law_1146 ?_
  refine q_arg (k := 3) C I.2.2 hl hi (by decide) (by decide) dL_law_1147 dL_law_1148 dL_law_1149 dL_law_1150 dL_law_1151 ?_
  refine q_callCi (As := [.int (xs (i + 1)), .int (xs (i + 2)), .int (xs (i + 3))]) (S := []) C I (c_X8_other (D := D) (cI := cI) (cL := cL) (b := s.heap.size) (Z := q_Zc s.heap.size adK adV w) n ((xs (i + 1))) ((xs (i + 2))) ((xs (i + 3))) μ) hc zw_X8_other zv_X8_other zm_L_131 (n := 3) (by decide) rfl (z_recv gc_0 (T := TX8) (N := 11) rfl) rfl (Nat.le_of_ble_eq_true rfl) (by decide) (by decide) hl.1 dL_law_1152 (fun H1 locs1 I1 => ?_)
  refine lv_aload_n hx hb dL_law_1155 rfl (lv_at hl 2 rfl) ?_
  refine q_arg (k := 1) C I1.2.2 hl hi (by decide) (by decide) dL_law_1156 dL_law_1157 dL_law_1158 dL_law_1159 dL_law_1160 ?_
  refine q_arg (k := 2) C I1.2.2 hl hi (by decide) (by decide) dL_law_1161 dL_law_1162 dL_law_1163 dL_law_1164 dL_law_1165 ?_
  refine q_arg (k := 3) C I1.2.2 hl hi (by decide) (by decide) dL_law_1166 dL_law_1167 dL_law_1168 dL_law_1169 dL_law_1170 ?_
  refine q_callMi (As := [.int (xs (i + 1)), .int (xs (i + 2)), .int (xs (i + 3))]) (S := [.int r]) C I1 (c_X9_other (D := D) (cI := cI) (cL := cL) (b := s.heap.size + 50) (Z := q_Zm s.heap.size tA) n' ((xs (i + 1))) ((xs (i + 2))) ((xs (i + 3))) ν) hm zw_X9_other zv_X9_other zm_L_134 (n := 3) (by decide) rfl (z_recv gm_0 (T := TX9) (N := 52) rfl) rfl (Nat.le_of_ble_eq_true rfl) (by decide) (by decide) hl.1 dL_law_1171 (fun H2 locs2 I2 => ?_)
  exact lv_icmp_eq hx hb (tgt := 1721) dL_law_1174 (by decide) (fun _ => K _ _ _ _ I2 (R1.mono (by omega))) (fun h => absurd rfl h)
theorem w_L_28 (C : q_C p s m c b L xs D cI cL adK adV w tA) (I : q_I s D cI cL μ ν H locs) {i N : Nat} (hi : i + 6 ≤ L) (hN : 0 < N) (hN2 : N ≤ 2 ^ 30) (R : Rr N μ ν) (hl : lv_has ls 4 [(0, .ref b), (1, .ref (s.heap.size + 0)), (2, .ref (s.heap.size + 50 + 0)), (3, .int (nI i))]) (K : ∀ (H1 : Heap) (locs1 : List Loc) (μ1 ν1 : z_M), q_I s D cI cL μ1 ν1 H1 locs1 → Rr (N + 41) μ1 ν1 → W p l e room_1 s m #[Value.ref b] below meth c H1 locs1 77 4398 Q (F0 m 1721 ls [])) : W p l e room_1 s m #[Value.ref b] below meth c H locs 77 4398 Q (F0 m 1179 ls []) := by
  have hx := C.1.1
  have hb := C.1.2.1
  obtain ⟨r, μ1, ν1, ⟨n, hc⟩, ⟨n', hm⟩, R1⟩ := ag_aim R ((xs (i + 1))) ((xs (i + 2))) ((xs (i + 3))) ((xs (i + 4))) ((xs (i + 5)))
  refine lv_aload_n hx hb dL_law_1179 rfl (lv_at hl 1 rfl) ?_
  refine q_arg (k := 1) C I.2.2 hl hi (by decide) (by decide) dL_law_1180 dL_law_1181 dL_law_1182 dL_law_1183 dL_law_1184 ?_
  refine q_arg (k := 2) C I.2.2 hl hi (by decide) (by decide) dL_law_1185 dL_law_1186 dL_law_1187 dL_law_1188 dL_law_1189 ?_
  refine q_arg (k := 3) C I.2.2 hl hi (by decide) (by decide) dL_law_1190 dL_law_1191 dL_law_1192 dL_law_1193 dL_law_1194 ?_
  refine q_arg (k := 4) C I.2.2 hl hi (by decide) (by decide) dL_law_1195 dL_law_1196 dL_law_1197 dL_law_1198 dL_law_1199 ?_
  refine q_arg (k := 5) C I.2.2 hl hi (by decide) (by decide) dL_law_1200 dL_law_1201 dL_law_1202 dL_law_1203 dL_law_1204 ?_
  refine q_callCi (As := [.int (xs (i + 1)), .int (xs (i + 2)), .int (xs (i + 3)), .int (xs (i + 4)), .int (xs (i + 5))]) (S := []) C I (c_X8_aim (D := D) (cI := cI) (cL := cL) (b := s.heap.size) (Z := q_Zc s.heap.size adK adV w) n ((xs (i + 1))) ((xs (i + 2))) ((xs (i + 3))) ((xs (i + 4))) ((xs (i + 5))) μ) hc zw_X8_aim zv_X8_aim zm_L_135 (n := 5) (by decide) rfl (z_recv gc_0 (T := TX8) (N := 11) rfl) rfl (Nat.le_of_ble_eq_true rfl) (by decide) (by decide) hl.1 dL_law_1205 (fun H1 locs1 I1 => ?_)
  refine lv_aload_n hx hb dL_law_1208 rfl (lv_at hl 2 rfl) ?_
  refine q_arg (k := 1) C I1.2.2 hl hi (by decide) (by decide) dL_law_1209 dL_law_1210 dL_law_1211 dL_law_1212 dL_law_1213 ?_
  refine q_arg (k := 2) C I1.2.2 hl hi (by decide) (by decide) dL_law_1214 dL_law_1215 dL_law_1216 dL_law_1217 dL_law_1218 ?_
  refine q_arg (k := 3) C I1.2.2 hl hi (by decide) (by decide) dL_law_1219 dL_law_1220 dL_law_1221 dL_law_1222 dL_law_1223 ?_
  refine q_arg (k := 4) C I1.2.2 hl hi (by decide) (by decide) dL_law_1224 dL_law_1225 dL_law_1226 dL_law_1227 dL_law_1228 ?_
  refine q_arg (k := 5) C I1.2.2 hl hi (by decide) (by decide) dL_law_1229 dL_law_1230 dL_law_1231 dL_law_1232 dL_law_1233 ?_
  refine q_callMi (As := [.int (xs (i + 1)), .int (xs (i + 2)), .int (xs (i + 3)), .int (xs (i + 4)), .int (xs (i + 5))]) (S := [.int r]) C I1 (c_X9_aim (D := D) (cI := cI) (cL := cL) (b := s.heap.size + 50) (Z := q_Zm s.heap.size tA) n' ((xs (i + 1))) ((xs (i + 2))) ((xs (i + 3))) ((xs (i + 4))) ((xs (i + 5))) ν) hm zw_X9_aim zv_X9_aim zm_L_138 (n := 5) (by decide) rfl (z_recv gm_0 (T := TX9) (N := 52) rfl) rfl (Nat.le_of_ble_eq_true rfl) (by decide) (by decide) hl.1 dL_law_1234 (fun H2 locs2 I2 => ?_)
  exact lv_icmp_eq hx hb (tgt := 1721) dL_law_1237 (by decide) (fun _ => K _ _ _ _ I2 (R1.mono (by omega))) (fun h => absurd rfl h)
theorem w_L_29 (C : q_C p s m c b L xs D cI cL adK adV w tA) (I : q_I s D cI cL μ ν H locs) {i N : Nat} (hi : i + 6 ≤ L) (hN : 0 < N) (hN2 : N ≤ 2 ^ 30) (R : Rr N μ ν) (hl : lv_has ls 4 [(0, .ref b), (1, .ref (s.heap.size + 0)), (2, .ref (s.heap.size + 50 + 0)), (3, .int (nI i))]) (K : ∀ (H1 : Heap) (locs1 : List Loc) (μ1 ν1 : z_M), q_I s D cI cL μ1 ν1 H1 locs1 → Rr (N + 41) μ1 ν1 → W p l e room_1 s m #[Value.ref b] below meth c H1 locs1 77 4398 Q (F0 m 1721 ls [])) : W p l e room_1 s m #[Value.ref b] below meth c H locs 77 4398 Q (F0 m 1242 ls []) := by
  have hx := C.1.1
  have hb := C.1.2.1
  obtain ⟨r, μ1, ν1, ⟨n, hc⟩, ⟨n', hm⟩, R1⟩ := ag_round R ((xs (i + 1))) ((xs (i + 2))) ((xs (i + 3))) ((xs (i + 4)))
  refine lv_aload_n hx hb dL_law_1242 rfl (lv_at hl 1 rfl) ?_
  refine q_arg (k := 1) C I.2.2 hl hi (by decide) (by decide) dL_law_1243 dL_law_1244 dL_law_1245 dL_law_1246 dL_law_1247 ?_
  refine q_arg (k := 2) C I.2.2 hl hi (by decide) (by decide) dL_law_1248 dL_law_1249 dL_law_1250 dL_law_1251 dL_law_1252 ?_
  refine q_arg (k := 3) C I.2.2 hl hi (by decide) (by decide) dL_law_1253 dL_law_1254 dL_law_1255 dL_law_1256 dL_law_1257 ?_
  refine q_arg (k := 4) C I.2.2 hl hi (by decide) (by decide) dL_law_1258 dL_law_1259 dL_law_1260 dL_law_1261 dL_law_1262 ?_
  refine q_callCi (As := [.int (xs (i + 1)), .int (xs (i + 2)), .int (xs (i + 3)), .int (xs (i + 4))]) (S := []) C I (c_X8_round (D := D) (cI := cI) (cL := cL) (b := s.heap.size) (Z := q_Zc s.heap.size adK adV w) n ((xs (i + 1))) ((xs (i + 2))) ((xs (i + 3))) ((xs (i + 4))) μ) hc zw_X8_round zv_X8_round zm_L_139 (n := 4) (by decide) rfl (z_recv gc_0 (T := TX8) (N := 11) rfl) rfl (Nat.le_of_ble_eq_true rfl) (by decide) (by decide) hl.1 dL_law_1263 (fun H1 locs1 I1 => ?_)
  refine lv_aload_n hx hb dL_law_1266 rfl (lv_at hl 2 rfl) ?_
  refine q_arg (k := 1) C I1.2.2 hl hi (by decide) (by decide) dL_law_1267 dL_law_1268 dL_law_1269 dL_law_1270 dL_law_1271 ?_
  refine q_arg (k := 2) C I1.2.2 hl hi (by decide) (by decide) dL_law_1272 dL_law_1273 dL_law_1274 dL_law_1275 dL_law_1276 ?_
  refine q_arg (k := 3) C I1.2.2 hl hi (by decide) (by decide) dL_law_1277 dL_law_1278 dL_law_1279 dL_law_1280 dL_law_1281 ?_
  refine q_arg (k := 4) C I1.2.2 hl hi (by decide) (by decide) dL_law_1282 dL_law_1283 dL_law_1284 dL_law_1285 dL_law_1286 ?_
  refine q_callMi (As := [.int (xs (i + 1)), .int (xs (i + 2)), .int (xs (i + 3)), .int (xs (i + 4))]) (S := [.int r]) C I1 (c_X9_round (D := D) (cI := cI) (cL := cL) (b := s.heap.size + 50) (Z := q_Zm s.heap.size tA) n' ((xs (i + 1))) ((xs (i + 2))) ((xs (i + 3))) ((xs (i + 4))) ν) hm zw_X9_round zv_X9_round zm_L_143 (n := 4) (by decide) rfl (z_recv gm_0 (T := TX9) (N := 52) rfl) rfl (Nat.le_of_ble_eq_true rfl) (by decide) (by decide) hl.1 dL_law_1287 (fun H2 locs2 I2 => ?_)
  exact lv_icmp_eq hx hb (tgt := 1721) dL_law_1290 (by decide) (fun _ => K _ _ _ _ I2 (R1.mono (by omega))) (fun h => absurd rfl h)
end QK
