def f_X8_refuse (a1 : Int32) (μ : z_M) : Int32 × z_M :=
  z_let (g_put 49 8 (-a1) ((g_get 49 8 (-a1) μ) + 1) μ) (fun m1 => (a1, m1))
set_option maxRecDepth 20000 in
theorem w_X8_refuse_0 {D : va_G} {cI cL : ClassId} {b : Nat} {Z : State → Heap → Prop}  (a1 : Int32) (μ : z_M) : z_w (zEc D cI cL b Z) (RX8, cX8_refuse, 2, (some .int), 1) z_ei 0 [(0, .ref (b + 0)), (1, .int a1)] [] μ (z_oT (f_X8_refuse a1 μ)) := by
  unfold f_X8_refuse
  refine z_aload_n (pc := 0) dX8_refuse_0 rfl ?_
  refine zgR_X8_68 (pc := 1) gc_0 rfl dX8_refuse_1 ?_
  refine z_iload_n (pc := 4) dX8_refuse_4 rfl ?_
  refine z_ineg (pc := 5) dX8_refuse_5 ?_
  refine z_aload_n (pc := 6) dX8_refuse_6 rfl ?_
  refine zgR_X8_68 (pc := 7) gc_0 rfl dX8_refuse_7 ?_
  refine z_iload_n (pc := 10) dX8_refuse_10 rfl ?_
  refine z_ineg (pc := 11) dX8_refuse_11 ?_
  refine z_callVi (pc := 12) (As := [.int (-a1)]) (S := [.int (-a1), .ref (b + 48)]) (g_X1_get gc_48 gc_49 (Nat.le_of_ble_eq_true rfl) (-a1) μ) rfl zw_X1_get zv_X1_get zm_X8_80 (n := 1) (by decide) rfl (z_recv gc_48 (T := TX1) (N := 1) rfl) rfl (Nat.le_of_ble_eq_true rfl) (by decide) (by decide) dX8_refuse_12 ?_
  refine z_iconst (pc := 15) dX8_refuse_15 zci_1 ?_
  refine z_iadd (pc := 16) dX8_refuse_16 ?_
  refine z_letP (fun m1 hm1 => ?_)
  refine z_callVv (pc := 17) (As := [.int (-a1), .int ((g_get 49 8 (-a1) μ) + 1)]) (S := []) (g_X1_keep gc_48 gc_49 (Nat.le_of_ble_eq_true rfl) (-a1) ((g_get 49 8 (-a1) μ) + 1) μ) (z_pV hm1) zw_X1_keep zv_X1_keep zm_X8_84 (n := 2) (by decide) rfl (z_recv gc_48 (T := TX1) (N := 1) rfl) rfl (Nat.le_of_ble_eq_true rfl) (by decide) (by decide) dX8_refuse_17 ?_
  refine z_iload_n (pc := 20) dX8_refuse_20 rfl ?_
  exact z_iret (pc := 21) rfl dX8_refuse_21

set_option maxRecDepth 20000 in
theorem c_X8_refuse {D : va_G} {cI cL : ClassId} {b : Nat} {Z : State → Heap → Prop}  (a1 : Int32) (μ : z_M) : z_S (zEc D cI cL b Z) 1 yX8_refuse cX8_refuse 2 (some .int) z_ei [.ref (b + 0), .int a1] μ (z_oT (f_X8_refuse a1 μ)) :=
  z_entry (yn := yX8_refuse) (by decide) (Nat.le_of_ble_eq_true rfl) rfl (w_X8_refuse_0 a1 μ)

def f_X8_refuseApart (a1 : Int32) (μ : z_M) : Int32 × z_M :=
  z_let (f_X8_refuse a1 μ) (fun p1 => ((p1.1 - 10), p1.2))
set_option maxRecDepth 20000 in
theorem w_X8_refuseApart_0 {D : va_G} {cI cL : ClassId} {b : Nat} {Z : State → Heap → Prop}  (a1 : Int32) (μ : z_M) : z_w (zEc D cI cL b Z) (RX8, cX8_refuseApart, 2, (some .int), 2) z_ei 0 [(0, .ref (b + 0)), (1, .int a1)] [] μ (z_oT (f_X8_refuseApart a1 μ)) := by
  unfold f_X8_refuseApart
  refine z_aload_n (pc := 0) dX8_refuseApart_0 rfl ?_
  refine z_iload_n (pc := 1) dX8_refuseApart_1 rfl ?_
  refine z_letP (fun p1 hp1 => ?_)
  refine z_callVi (pc := 2) (As := [.int a1]) (S := []) (c_X8_refuse a1 μ) (z_pT hp1) zw_X8_refuse zv_X8_refuse zm_X8_88 (n := 1) (by decide) rfl (z_recv gc_0 (T := TX8) (N := 11) rfl) rfl (Nat.le_of_ble_eq_true rfl) (by decide) (by decide) dX8_refuseApart_2 ?_
  refine z_bipush (pc := 5) dX8_refuseApart_5 zcb_10 ?_
  refine z_isub (pc := 7) dX8_refuseApart_7 ?_
  exact z_iret (pc := 8) rfl dX8_refuseApart_8

set_option maxRecDepth 20000 in
theorem c_X8_refuseApart {D : va_G} {cI cL : ClassId} {b : Nat} {Z : State → Heap → Prop}  (a1 : Int32) (μ : z_M) : z_S (zEc D cI cL b Z) 2 yX8_refuseApart cX8_refuseApart 2 (some .int) z_ei [.ref (b + 0), .int a1] μ (z_oT (f_X8_refuseApart a1 μ)) :=
  z_entry (yn := yX8_refuseApart) (by decide) (Nat.le_of_ble_eq_true rfl) rfl (w_X8_refuseApart_0 a1 μ)

def f_X8_isCount (a0 : Int32) (a1 : Int32) (a2 : Int32) (μ : z_M) : Int32 :=
  if a0 < a1 then (0) else (if a2 < a0 then (0) else (1))
set_option maxRecDepth 20000 in
theorem w_X8_isCount_0 {D : va_G} {cI cL : ClassId} {b : Nat} {Z : State → Heap → Prop}  (a0 : Int32) (a1 : Int32) (a2 : Int32) (μ : z_M) : z_w (zEc D cI cL b Z) (RX8, cX8_isCount, 3, (some .boolean), 0) z_ei 0 [(0, .int a0), (1, .int a1), (2, .int a2)] [] μ (z_oP μ (f_X8_isCount a0 a1 a2 μ)) := by
  unfold f_X8_isCount
  refine z_iload_n (pc := 0) dX8_isCount_0 rfl ?_
  refine z_iload_n (pc := 1) dX8_isCount_1 rfl ?_
  refine z_outIf ?_
  refine z_icmp_lt (pc := 2) (tgt := 14) dX8_isCount_2 (by decide) (fun _ => ?_) (fun _ => ?_)
  · refine z_iconst (pc := 14) dX8_isCount_14 zci_0 ?_
    exact z_zret (pc := 15) rfl dX8_isCount_15 (by decide)
  · refine z_iload_n (pc := 5) dX8_isCount_5 rfl ?_
    refine z_iload_n (pc := 6) dX8_isCount_6 rfl ?_
    refine z_outIf ?_
    refine z_icmp_gt (pc := 7) (tgt := 14) dX8_isCount_7 (by decide) (fun _ => ?_) (fun _ => ?_)
    · refine z_iconst (pc := 14) dX8_isCount_14 zci_0 ?_
      exact z_zret (pc := 15) rfl dX8_isCount_15 (by decide)
    · refine z_iconst (pc := 10) dX8_isCount_10 zci_1 ?_
      refine z_goto (pc := 11) (tgt := 15) dX8_isCount_11 (by decide) ?_
      exact z_zret (pc := 15) rfl dX8_isCount_15 (by decide)

set_option maxRecDepth 20000 in
theorem c_X8_isCount {D : va_G} {cI cL : ClassId} {b : Nat} {Z : State → Heap → Prop}  (a0 : Int32) (a1 : Int32) (a2 : Int32) (μ : z_M) : z_S (zEc D cI cL b Z) 0 yX8_isCount cX8_isCount 3 (some .boolean) z_ei [.int a0, .int a1, .int a2] μ (z_oP μ (f_X8_isCount a0 a1 a2 μ)) :=
  z_entry (yn := yX8_isCount) (by decide) (Nat.le_of_ble_eq_true rfl) rfl (w_X8_isCount_0 a0 a1 a2 μ)
set_option maxRecDepth 20000 in
theorem bl_X8_isCount (a0 : Int32) (a1 : Int32) (a2 : Int32) (μ : z_M) : f_X8_isCount a0 a1 a2 μ = 0 ∨ f_X8_isCount a0 a1 a2 μ = 1 := by
  unfold f_X8_isCount
  repeat' (first | with_reducible exact z_bl0 | with_reducible exact z_bl1 | with_reducible refine z_blI ?_ ?_ | with_reducible refine z_blL (fun _ => ?_))

def f_X8_isSet (a0 : Int32) (μ : z_M) : Int32 :=
  if a0 < 0 then (0) else (if (255 : Int32) < a0 then (0) else (1))
set_option maxRecDepth 20000 in
theorem w_X8_isSet_0 {D : va_G} {cI cL : ClassId} {b : Nat} {Z : State → Heap → Prop}  (a0 : Int32) (μ : z_M) : z_w (zEc D cI cL b Z) (RX8, cX8_isSet, 1, (some .boolean), 0) z_ei 0 [(0, .int a0)] [] μ (z_oP μ (f_X8_isSet a0 μ)) := by
  unfold f_X8_isSet
  refine z_iload_n (pc := 0) dX8_isSet_0 rfl ?_
  refine z_outIf ?_
  refine z_if_lt (pc := 1) (tgt := 15) dX8_isSet_1 (by decide) (fun _ => ?_) (fun _ => ?_)
  · refine z_iconst (pc := 15) dX8_isSet_15 zci_0 ?_
    exact z_zret (pc := 16) rfl dX8_isSet_16 (by decide)
  · refine z_iload_n (pc := 4) dX8_isSet_4 rfl ?_
    refine z_sipush (pc := 5) dX8_isSet_5 zcs_255 ?_
    refine z_outIf ?_
    refine z_icmp_gt (pc := 8) (tgt := 15) dX8_isSet_8 (by decide) (fun _ => ?_) (fun _ => ?_)
    · refine z_iconst (pc := 15) dX8_isSet_15 zci_0 ?_
      exact z_zret (pc := 16) rfl dX8_isSet_16 (by decide)
    · refine z_iconst (pc := 11) dX8_isSet_11 zci_1 ?_
      refine z_goto (pc := 12) (tgt := 16) dX8_isSet_12 (by decide) ?_
      exact z_zret (pc := 16) rfl dX8_isSet_16 (by decide)

set_option maxRecDepth 20000 in
theorem c_X8_isSet {D : va_G} {cI cL : ClassId} {b : Nat} {Z : State → Heap → Prop}  (a0 : Int32) (μ : z_M) : z_S (zEc D cI cL b Z) 0 yX8_isSet cX8_isSet 1 (some .boolean) z_ei [.int a0] μ (z_oP μ (f_X8_isSet a0 μ)) :=
  z_entry (yn := yX8_isSet) (by decide) (Nat.le_of_ble_eq_true rfl) rfl (w_X8_isSet_0 a0 μ)
set_option maxRecDepth 20000 in
theorem bl_X8_isSet (a0 : Int32) (μ : z_M) : f_X8_isSet a0 μ = 0 ∨ f_X8_isSet a0 μ = 1 := by
  unfold f_X8_isSet
  repeat' (first | with_reducible exact z_bl0 | with_reducible exact z_bl1 | with_reducible refine z_blI ?_ ?_ | with_reducible refine z_blL (fun _ => ?_))

def f_X8_isLag (a0 : Int32) (μ : z_M) : Int32 :=
  (f_X8_isCount a0 1 3 μ)
set_option maxRecDepth 20000 in
theorem w_X8_isLag_0 {D : va_G} {cI cL : ClassId} {b : Nat} {Z : State → Heap → Prop}  (a0 : Int32) (μ : z_M) : z_w (zEc D cI cL b Z) (RX8, cX8_isLag, 1, (some .boolean), 1) z_ei 0 [(0, .int a0)] [] μ (z_oP μ (f_X8_isLag a0 μ)) := by
  unfold f_X8_isLag
  refine z_iload_n (pc := 0) dX8_isLag_0 rfl ?_
  refine z_iconst (pc := 1) dX8_isLag_1 zci_1 ?_
  refine z_iconst (pc := 2) dX8_isLag_2 zci_3 ?_
  refine z_callSi (pc := 3) (As := [.int a0, .int 1, .int 3]) (S := []) (c_X8_isCount a0 1 3 μ) rfl zw_X8_isCount zs_X8_isCount zm_X8_91 (n := 3) (by decide) rfl rfl (Nat.le_of_ble_eq_true rfl) (by decide) (by decide) dX8_isLag_3 ?_
  exact z_zret (pc := 6) rfl dX8_isLag_6 (bl_X8_isCount a0 1 3 μ)

set_option maxRecDepth 20000 in
theorem c_X8_isLag {D : va_G} {cI cL : ClassId} {b : Nat} {Z : State → Heap → Prop}  (a0 : Int32) (μ : z_M) : z_S (zEc D cI cL b Z) 1 yX8_isLag cX8_isLag 1 (some .boolean) z_ei [.int a0] μ (z_oP μ (f_X8_isLag a0 μ)) :=
  z_entry (yn := yX8_isLag) (by decide) (Nat.le_of_ble_eq_true rfl) rfl (w_X8_isLag_0 a0 μ)
set_option maxRecDepth 20000 in
theorem bl_X8_isLag (a0 : Int32) (μ : z_M) : f_X8_isLag a0 μ = 0 ∨ f_X8_isLag a0 μ = 1 := by
  unfold f_X8_isLag
  repeat' (first | with_reducible exact z_bl0 | with_reducible exact z_bl1 | with_reducible apply bl_X8_isCount | with_reducible refine z_blI ?_ ?_ | with_reducible refine z_blL (fun _ => ?_))

def f_X8_troubleWithRoute_b34  (μ : z_M) : Int32 :=
  (-6)
def f_X8_troubleWithRoute (a1 : Int32) (a2 : Int32) (a3 : Int32) (μ : z_M) : Int32 :=
  z_let ((f_X5_troubleWithStart a1 a2 μ) : Int32) (fun x1 => if x1 = 0 then (if a3 < a2 then (f_X8_troubleWithRoute_b34 μ) else (if (f_X6_hasBird 1 μ) = 0 then (f_X8_troubleWithRoute_b34 μ) else (0))) else (x1))
set_option maxRecDepth 20000 in
theorem w_X8_troubleWithRoute_34 {D : va_G} {cI cL : ClassId} {b : Nat} {Z : State → Heap → Prop}   (μ : z_M) : z_w (zEc D cI cL b Z) (RX8, cX8_troubleWithRoute, 5, (some .int), 5) z_ei 34 [] [] μ (z_oP μ (f_X8_troubleWithRoute_b34 μ)) := by
  unfold f_X8_troubleWithRoute_b34
  refine z_bipush (pc := 34) dX8_troubleWithRoute_34 zcb_m6 ?_
  refine z_goto (pc := 36) (tgt := 40) dX8_troubleWithRoute_36 (by decide) ?_
  exact z_iret (pc := 40) rfl dX8_troubleWithRoute_40

set_option maxRecDepth 20000 in
theorem w_X8_troubleWithRoute_0 {D : va_G} {cI cL : ClassId} {b : Nat} {Z : State → Heap → Prop}  (a1 : Int32) (a2 : Int32) (a3 : Int32) (μ : z_M) : z_w (zEc D cI cL b Z) (RX8, cX8_troubleWithRoute, 5, (some .int), 5) z_ei 0 [(0, .ref (b + 0)), (1, .int a1), (2, .int a2), (3, .int a3)] [] μ (z_oP μ (f_X8_troubleWithRoute a1 a2 a3 μ)) := by
  unfold f_X8_troubleWithRoute
  refine z_aload_n (pc := 0) dX8_troubleWithRoute_0 rfl ?_
  refine zgR_X8_25 (pc := 1) gc_0 rfl dX8_troubleWithRoute_1 ?_
  refine z_iload_n (pc := 4) dX8_troubleWithRoute_4 rfl ?_
  refine z_iload_n (pc := 5) dX8_troubleWithRoute_5 rfl ?_
  refine z_callVi (pc := 6) (As := [.int a1, .int a2]) (S := []) (c_X5_troubleWithStart a1 a2 μ) rfl zw_X5_troubleWithStart zv_X5_troubleWithStart zm_X8_95 (n := 2) (by decide) rfl (z_recv gc_22 (T := TX5) (N := 3) rfl) rfl (Nat.le_of_ble_eq_true rfl) (by decide) (by decide) dX8_troubleWithRoute_6 ?_
  refine z_letI (fun x1 => ?_)
  refine z_istore (pc := 9) (L' := [(0, .ref (b + 0)), (1, .int a1), (2, .int a2), (3, .int a3), (4, .int x1)]) dX8_troubleWithRoute_9 (by decide) rfl ?_
  refine z_iload (pc := 11) dX8_troubleWithRoute_11 rfl ?_
  refine z_outIf ?_
  refine z_if_eq (pc := 13) (tgt := 19) dX8_troubleWithRoute_13 (by decide) (fun _ => ?_) (fun _ => ?_)
  · refine z_iload_n (pc := 19) dX8_troubleWithRoute_19 rfl ?_
    refine z_iload_n (pc := 20) dX8_troubleWithRoute_20 rfl ?_
    refine z_outIf ?_
    refine z_icmp_gt (pc := 21) (tgt := 34) dX8_troubleWithRoute_21 (by decide) (fun _ => ?_) (fun _ => ?_)
    · refine z_drop (L' := []) [] rfl ?_
      exact w_X8_troubleWithRoute_34 μ
    · refine z_aload_n (pc := 24) dX8_troubleWithRoute_24 rfl ?_
      refine zgR_X8_10 (pc := 25) gc_0 rfl dX8_troubleWithRoute_25 ?_
      refine z_callVi (pc := 28) (As := []) (S := []) (c_X6_hasBird zstr_1 μ) rfl zw_X6_hasBird zv_X6_hasBird zm_X8_99 (n := 0) (by decide) rfl (z_recv gc_1 (T := TX6) (N := 10) rfl) rfl (Nat.le_of_ble_eq_true rfl) (by decide) (by decide) dX8_troubleWithRoute_28 ?_
      refine z_outIf ?_
      refine z_if_ne (pc := 31) (tgt := 39) dX8_troubleWithRoute_31 (by decide) (fun _ => ?_) (fun _ => ?_)
      · refine z_drop (L' := []) [] rfl ?_
        exact w_X8_troubleWithRoute_34 μ
      · refine z_iconst (pc := 39) dX8_troubleWithRoute_39 zci_0 ?_
        exact z_iret (pc := 40) rfl dX8_troubleWithRoute_40
  · refine z_iload (pc := 16) dX8_troubleWithRoute_16 rfl ?_
    exact z_iret (pc := 18) rfl dX8_troubleWithRoute_18

set_option maxRecDepth 20000 in
theorem c_X8_troubleWithRoute {D : va_G} {cI cL : ClassId} {b : Nat} {Z : State → Heap → Prop}  (a1 : Int32) (a2 : Int32) (a3 : Int32) (μ : z_M) : z_S (zEc D cI cL b Z) 5 yX8_troubleWithRoute cX8_troubleWithRoute 5 (some .int) z_ei [.ref (b + 0), .int a1, .int a2, .int a3] μ (z_oP μ (f_X8_troubleWithRoute a1 a2 a3 μ)) :=
  z_entry (yn := yX8_troubleWithRoute) (by decide) (Nat.le_of_ble_eq_true rfl) rfl (w_X8_troubleWithRoute_0 a1 a2 a3 μ)

def f_X8_troubleInThought (a1 : Int32) (a2 : Int32) (a3 : Int32) (μ : z_M) : Int32 :=
  if (f_X6_isHouse 1 a1 μ) = 0 then ((-1)) else (if (f_X8_isSet a2 μ) = 0 then ((-6)) else (if a3 = 0 then ((-6)) else (if (f_X6_hasBird 1 μ) = 0 then ((-6)) else (0))))
set_option maxRecDepth 20000 in
theorem w_X8_troubleInThought_0 {D : va_G} {cI cL : ClassId} {b : Nat} {Z : State → Heap → Prop}  (a1 : Int32) (a2 : Int32) (a3 : Int32) (μ : z_M) : z_w (zEc D cI cL b Z) (RX8, cX8_troubleInThought, 4, (some .int), 1) z_ei 0 [(0, .ref (b + 0)), (1, .int a1), (2, .int a2), (3, .int a3)] [] μ (z_oP μ (f_X8_troubleInThought a1 a2 a3 μ)) := by
  unfold f_X8_troubleInThought
  refine z_aload_n (pc := 0) dX8_troubleInThought_0 rfl ?_
  refine zgR_X8_10 (pc := 1) gc_0 rfl dX8_troubleInThought_1 ?_
  refine z_iload_n (pc := 4) dX8_troubleInThought_4 rfl ?_
  refine z_callVi (pc := 5) (As := [.int a1]) (S := []) (c_X6_isHouse zstr_1 a1 μ) rfl zw_X6_isHouse zv_X6_isHouse zm_X8_103 (n := 1) (by decide) rfl (z_recv gc_1 (T := TX6) (N := 10) rfl) rfl (Nat.le_of_ble_eq_true rfl) (by decide) (by decide) dX8_troubleInThought_5 ?_
  refine z_outIf ?_
  refine z_if_ne (pc := 8) (tgt := 13) dX8_troubleInThought_8 (by decide) (fun _ => ?_) (fun _ => ?_)
  · refine z_iconst (pc := 11) dX8_troubleInThought_11 zci_m1 ?_
    exact z_iret (pc := 12) rfl dX8_troubleInThought_12
  · refine z_iload_n (pc := 13) dX8_troubleInThought_13 rfl ?_
    refine z_callSi (pc := 14) (As := [.int a2]) (S := []) (c_X8_isSet a2 μ) rfl zw_X8_isSet zs_X8_isSet zm_X8_107 (n := 1) (by decide) rfl rfl (Nat.le_of_ble_eq_true rfl) (by decide) (by decide) dX8_troubleInThought_14 ?_
    refine z_outIf ?_
    refine z_if_eq (pc := 17) (tgt := 38) dX8_troubleInThought_17 (by decide) (fun _ => ?_) (fun _ => ?_)
    · refine z_bipush (pc := 38) dX8_troubleInThought_38 zcb_m6 ?_
      exact z_iret (pc := 40) rfl dX8_troubleInThought_40
    · refine z_iload_n (pc := 20) dX8_troubleInThought_20 rfl ?_
      refine z_outIf ?_
      refine z_if_eq (pc := 21) (tgt := 38) dX8_troubleInThought_21 (by decide) (fun _ => ?_) (fun _ => ?_)
      · refine z_bipush (pc := 38) dX8_troubleInThought_38 zcb_m6 ?_
        exact z_iret (pc := 40) rfl dX8_troubleInThought_40
      · refine z_aload_n (pc := 24) dX8_troubleInThought_24 rfl ?_
        refine zgR_X8_10 (pc := 25) gc_0 rfl dX8_troubleInThought_25 ?_
        refine z_callVi (pc := 28) (As := []) (S := []) (c_X6_hasBird zstr_1 μ) rfl zw_X6_hasBird zv_X6_hasBird zm_X8_99 (n := 0) (by decide) rfl (z_recv gc_1 (T := TX6) (N := 10) rfl) rfl (Nat.le_of_ble_eq_true rfl) (by decide) (by decide) dX8_troubleInThought_28 ?_
        refine z_outIf ?_
        refine z_if_eq (pc := 31) (tgt := 38) dX8_troubleInThought_31 (by decide) (fun _ => ?_) (fun _ => ?_)
        · refine z_bipush (pc := 38) dX8_troubleInThought_38 zcb_m6 ?_
          exact z_iret (pc := 40) rfl dX8_troubleInThought_40
        · refine z_iconst (pc := 34) dX8_troubleInThought_34 zci_0 ?_
          refine z_goto (pc := 35) (tgt := 40) dX8_troubleInThought_35 (by decide) ?_
          exact z_iret (pc := 40) rfl dX8_troubleInThought_40

set_option maxRecDepth 20000 in
theorem c_X8_troubleInThought {D : va_G} {cI cL : ClassId} {b : Nat} {Z : State → Heap → Prop}  (a1 : Int32) (a2 : Int32) (a3 : Int32) (μ : z_M) : z_S (zEc D cI cL b Z) 1 yX8_troubleInThought cX8_troubleInThought 4 (some .int) z_ei [.ref (b + 0), .int a1, .int a2, .int a3] μ (z_oP μ (f_X8_troubleInThought a1 a2 a3 μ)) :=
  z_entry (yn := yX8_troubleInThought) (by decide) (Nat.le_of_ble_eq_true rfl) rfl (w_X8_troubleInThought_0 a1 a2 a3 μ)

def f_X8_row (n : Nat) (a1 : Int32) (a2 : Int32) (a3 : Int32) (μ : z_M) : Option (Int32 × z_M) :=
  if (f_X5_isShelf a1 μ) = 0 then (z_let (f_X8_refuse (-1) μ) (fun p1 => some (p1.1, p1.2))) else (if a3 < 0 then (z_let (f_X8_refuse (-4) μ) (fun p2 => some (p2.1, p2.2))) else (if (f_X5_isSort a2 μ) = 0 then (z_let (f_X8_refuse (-6) μ) (fun p3 => some (p3.1, p3.2))) else (if (160 : Int32) < a3 then (z_let (f_X8_refuse (-7) μ) (fun p4 => some (p4.1, p4.2))) else (z_bind (f_X5_holdRow n a1 a2 a3 μ) (fun p5 => some (1, p5.2))))))
set_option maxRecDepth 20000 in
theorem w_X8_row_0 {D : va_G} {cI cL : ClassId} {b : Nat} {Z : State → Heap → Prop}  (n : Nat) (a1 : Int32) (a2 : Int32) (a3 : Int32) (μ : z_M) : z_w (zEc D cI cL b Z) (RX8, cX8_row, 4, (some .int), 4) z_ei 0 [(0, .ref (b + 0)), (1, .int a1), (2, .int a2), (3, .int a3)] [] μ ((f_X8_row n a1 a2 a3 μ)) := by
  unfold f_X8_row
  refine z_aload_n (pc := 0) dX8_row_0 rfl ?_
  refine zgR_X8_25 (pc := 1) gc_0 rfl dX8_row_1 ?_
  refine z_iload_n (pc := 4) dX8_row_4 rfl ?_
  refine z_callVi (pc := 5) (As := [.int a1]) (S := []) (c_X5_isShelf a1 μ) rfl zw_X5_isShelf zv_X5_isShelf zm_X8_110 (n := 1) (by decide) rfl (z_recv gc_22 (T := TX5) (N := 3) rfl) rfl (Nat.le_of_ble_eq_true rfl) (by decide) (by decide) dX8_row_5 ?_
  refine z_if_ne (pc := 8) (tgt := 17) dX8_row_8 (by decide) (fun _ => ?_) (fun _ => ?_)
  · refine z_aload_n (pc := 11) dX8_row_11 rfl ?_
    refine z_iconst (pc := 12) dX8_row_12 zci_m1 ?_
    refine z_letPO (fun p1 hp1 => ?_)
    refine z_callVi (pc := 13) (As := [.int (-1)]) (S := []) (c_X8_refuse (-1) μ) (z_pT hp1) zw_X8_refuse zv_X8_refuse zm_X8_88 (n := 1) (by decide) rfl (z_recv gc_0 (T := TX8) (N := 11) rfl) rfl (Nat.le_of_ble_eq_true rfl) (by decide) (by decide) dX8_row_13 ?_
    exact z_iret (pc := 16) rfl dX8_row_16
  · refine z_iload_n (pc := 17) dX8_row_17 rfl ?_
    refine z_if_ge (pc := 18) (tgt := 28) dX8_row_18 (by decide) (fun _ => ?_) (fun _ => ?_)
    · refine z_aload_n (pc := 21) dX8_row_21 rfl ?_
      refine z_bipush (pc := 22) dX8_row_22 zcb_m4 ?_
      refine z_letPO (fun p2 hp2 => ?_)
      refine z_callVi (pc := 24) (As := [.int (-4)]) (S := []) (c_X8_refuse (-4) μ) (z_pT hp2) zw_X8_refuse zv_X8_refuse zm_X8_88 (n := 1) (by decide) rfl (z_recv gc_0 (T := TX8) (N := 11) rfl) rfl (Nat.le_of_ble_eq_true rfl) (by decide) (by decide) dX8_row_24 ?_
      exact z_iret (pc := 27) rfl dX8_row_27
    · refine z_aload_n (pc := 28) dX8_row_28 rfl ?_
      refine zgR_X8_25 (pc := 29) gc_0 rfl dX8_row_29 ?_
      refine z_iload_n (pc := 32) dX8_row_32 rfl ?_
      refine z_callVi (pc := 33) (As := [.int a2]) (S := []) (c_X5_isSort a2 μ) rfl zw_X5_isSort zv_X5_isSort zm_X8_113 (n := 1) (by decide) rfl (z_recv gc_22 (T := TX5) (N := 3) rfl) rfl (Nat.le_of_ble_eq_true rfl) (by decide) (by decide) dX8_row_33 ?_
      refine z_if_ne (pc := 36) (tgt := 46) dX8_row_36 (by decide) (fun _ => ?_) (fun _ => ?_)
      · refine z_aload_n (pc := 39) dX8_row_39 rfl ?_
        refine z_bipush (pc := 40) dX8_row_40 zcb_m6 ?_
        refine z_letPO (fun p3 hp3 => ?_)
        refine z_callVi (pc := 42) (As := [.int (-6)]) (S := []) (c_X8_refuse (-6) μ) (z_pT hp3) zw_X8_refuse zv_X8_refuse zm_X8_88 (n := 1) (by decide) rfl (z_recv gc_0 (T := TX8) (N := 11) rfl) rfl (Nat.le_of_ble_eq_true rfl) (by decide) (by decide) dX8_row_42 ?_
        exact z_iret (pc := 45) rfl dX8_row_45
      · refine z_iload_n (pc := 46) dX8_row_46 rfl ?_
        refine z_sipush (pc := 47) dX8_row_47 zcs_160 ?_
        refine z_icmp_le (pc := 50) (tgt := 60) dX8_row_50 (by decide) (fun _ => ?_) (fun _ => ?_)
        · refine z_aload_n (pc := 53) dX8_row_53 rfl ?_
          refine z_bipush (pc := 54) dX8_row_54 zcb_m7 ?_
          refine z_letPO (fun p4 hp4 => ?_)
          refine z_callVi (pc := 56) (As := [.int (-7)]) (S := []) (c_X8_refuse (-7) μ) (z_pT hp4) zw_X8_refuse zv_X8_refuse zm_X8_88 (n := 1) (by decide) rfl (z_recv gc_0 (T := TX8) (N := 11) rfl) rfl (Nat.le_of_ble_eq_true rfl) (by decide) (by decide) dX8_row_56 ?_
          exact z_iret (pc := 59) rfl dX8_row_59
        · refine z_aload_n (pc := 60) dX8_row_60 rfl ?_
          refine zgR_X8_25 (pc := 61) gc_0 rfl dX8_row_61 ?_
          refine z_iload_n (pc := 64) dX8_row_64 rfl ?_
          refine z_iload_n (pc := 65) dX8_row_65 rfl ?_
          refine z_iload_n (pc := 66) dX8_row_66 rfl ?_
          refine z_bindP (fun p5 hp5 => ?_)
          refine z_callVv (pc := 67) (As := [.int a1, .int a2, .int a3]) (S := []) (c_X5_holdRow n a1 a2 a3 μ) hp5 zw_X5_holdRow zv_X5_holdRow zm_X8_116 (n := 3) (by decide) rfl (z_recv gc_22 (T := TX5) (N := 3) rfl) rfl (Nat.le_of_ble_eq_true rfl) (by decide) (by decide) dX8_row_67 ?_
          refine z_iconst (pc := 70) dX8_row_70 zci_1 ?_
          exact z_iret (pc := 71) rfl dX8_row_71

set_option maxRecDepth 20000 in
theorem c_X8_row {D : va_G} {cI cL : ClassId} {b : Nat} {Z : State → Heap → Prop}  (n : Nat) (a1 : Int32) (a2 : Int32) (a3 : Int32) (μ : z_M) : z_S (zEc D cI cL b Z) 4 yX8_row cX8_row 4 (some .int) z_ei [.ref (b + 0), .int a1, .int a2, .int a3] μ ((f_X8_row n a1 a2 a3 μ)) :=
  z_entry (yn := yX8_row) (by decide) (Nat.le_of_ble_eq_true rfl) rfl (w_X8_row_0 n a1 a2 a3 μ)

def f_X8_set_b31 (l1 : Int32) (l2 : Int32) (l3 : Int64) (l5 : Int32) (μ : z_M) : Option (Int32 × z_M) :=
  if l5 = 0 then (z_bind (f_X5_keepElement l1 l2 l3 μ) (fun p2 => some (1, p2.2))) else (z_let (f_X8_refuse l5 μ) (fun p3 => some (p3.1, p3.2)))
def f_X8_set (a1 : Int32) (a2 : Int32) (a3 : Int64) (μ : z_M) : Option (Int32 × z_M) :=
  z_let ((f_X5_troubleWithRow a1 μ) : Int32) (fun x1 => if x1 = 0 then (if (f_X5_hasElement a1 a2 μ) = 0 then (f_X8_set_b31 a1 a2 a3 (-5) μ) else (f_X8_set_b31 a1 a2 a3 x1 μ)) else (f_X8_set_b31 a1 a2 a3 x1 μ))
set_option maxRecDepth 20000 in
theorem w_X8_set_31 {D : va_G} {cI cL : ClassId} {b : Nat} {Z : State → Heap → Prop}  (l1 : Int32) (l2 : Int32) (l3 : Int64) (l5 : Int32) (μ : z_M) : z_w (zEc D cI cL b Z) (RX8, cX8_set, 6, (some .int), 4) z_ei 31 [(0, .ref (b + 0)), (1, .int l1), (2, .int l2), (3, .long l3), (5, .int l5)] [] μ ((f_X8_set_b31 l1 l2 l3 l5 μ)) := by
  unfold f_X8_set_b31
  refine z_iload (pc := 31) dX8_set_31 rfl ?_
  refine z_if_eq (pc := 33) (tgt := 43) dX8_set_33 (by decide) (fun _ => ?_) (fun _ => ?_)
  · refine z_aload_n (pc := 43) dX8_set_43 rfl ?_
    refine zgR_X8_25 (pc := 44) gc_0 rfl dX8_set_44 ?_
    refine z_iload_n (pc := 47) dX8_set_47 rfl ?_
    refine z_iload_n (pc := 48) dX8_set_48 rfl ?_
    refine z_lload_n (pc := 49) dX8_set_49 rfl ?_
    refine z_bindP (fun p2 hp2 => ?_)
    refine z_callVv (pc := 50) (As := [.int l1, .int l2, .long l3]) (S := []) (c_X5_keepElement l1 l2 l3 μ) hp2 zw_X5_keepElement zv_X5_keepElement zm_X8_127 (n := 3) (by decide) rfl (z_recv gc_22 (T := TX5) (N := 3) rfl) rfl (Nat.le_of_ble_eq_true rfl) (by decide) (by decide) dX8_set_50 ?_
    refine z_iconst (pc := 53) dX8_set_53 zci_1 ?_
    exact z_iret (pc := 54) rfl dX8_set_54
  · refine z_aload_n (pc := 36) dX8_set_36 rfl ?_
    refine z_iload (pc := 37) dX8_set_37 rfl ?_
    refine z_letPO (fun p3 hp3 => ?_)
    refine z_callVi (pc := 39) (As := [.int l5]) (S := []) (c_X8_refuse l5 μ) (z_pT hp3) zw_X8_refuse zv_X8_refuse zm_X8_88 (n := 1) (by decide) rfl (z_recv gc_0 (T := TX8) (N := 11) rfl) rfl (Nat.le_of_ble_eq_true rfl) (by decide) (by decide) dX8_set_39 ?_
    exact z_iret (pc := 42) rfl dX8_set_42

set_option maxRecDepth 20000 in
theorem w_X8_set_0 {D : va_G} {cI cL : ClassId} {b : Nat} {Z : State → Heap → Prop}  (a1 : Int32) (a2 : Int32) (a3 : Int64) (μ : z_M) : z_w (zEc D cI cL b Z) (RX8, cX8_set, 6, (some .int), 4) z_ei 0 [(0, .ref (b + 0)), (1, .int a1), (2, .int a2), (3, .long a3)] [] μ ((f_X8_set a1 a2 a3 μ)) := by
  unfold f_X8_set
  refine z_aload_n (pc := 0) dX8_set_0 rfl ?_
  refine zgR_X8_25 (pc := 1) gc_0 rfl dX8_set_1 ?_
  refine z_iload_n (pc := 4) dX8_set_4 rfl ?_
  refine z_callVi (pc := 5) (As := [.int a1]) (S := []) (c_X5_troubleWithRow a1 μ) rfl zw_X5_troubleWithRow zv_X5_troubleWithRow zm_X8_120 (n := 1) (by decide) rfl (z_recv gc_22 (T := TX5) (N := 3) rfl) rfl (Nat.le_of_ble_eq_true rfl) (by decide) (by decide) dX8_set_5 ?_
  refine z_letIO (fun x1 => ?_)
  refine z_istore (pc := 8) (L' := [(0, .ref (b + 0)), (1, .int a1), (2, .int a2), (3, .long a3), (5, .int x1)]) dX8_set_8 (by decide) rfl ?_
  refine z_iload (pc := 10) dX8_set_10 rfl ?_
  refine z_if_ne (pc := 12) (tgt := 31) dX8_set_12 (by decide) (fun _ => ?_) (fun _ => ?_)
  · refine z_aload_n (pc := 15) dX8_set_15 rfl ?_
    refine zgR_X8_25 (pc := 16) gc_0 rfl dX8_set_16 ?_
    refine z_iload_n (pc := 19) dX8_set_19 rfl ?_
    refine z_iload_n (pc := 20) dX8_set_20 rfl ?_
    refine z_callVi (pc := 21) (As := [.int a1, .int a2]) (S := []) (c_X5_hasElement a1 a2 μ) rfl zw_X5_hasElement zv_X5_hasElement zm_X8_123 (n := 2) (by decide) rfl (z_recv gc_22 (T := TX5) (N := 3) rfl) rfl (Nat.le_of_ble_eq_true rfl) (by decide) (by decide) dX8_set_21 ?_
    refine z_if_ne (pc := 24) (tgt := 31) dX8_set_24 (by decide) (fun _ => ?_) (fun _ => ?_)
    · refine z_bipush (pc := 27) dX8_set_27 zcb_m5 ?_
      refine z_istore (pc := 29) (L' := [(0, .ref (b + 0)), (1, .int a1), (2, .int a2), (3, .long a3), (5, .int (-5))]) dX8_set_29 (by decide) rfl ?_
      exact w_X8_set_31 a1 a2 a3 (-5) μ
    · exact w_X8_set_31 a1 a2 a3 x1 μ
  · exact w_X8_set_31 a1 a2 a3 x1 μ

set_option maxRecDepth 20000 in
theorem c_X8_set {D : va_G} {cI cL : ClassId} {b : Nat} {Z : State → Heap → Prop}  (a1 : Int32) (a2 : Int32) (a3 : Int64) (μ : z_M) : z_S (zEc D cI cL b Z) 4 yX8_set cX8_set 6 (some .int) z_ei [.ref (b + 0), .int a1, .int a2, .long a3] μ ((f_X8_set a1 a2 a3 μ)) :=
  z_entry (yn := yX8_set) (by decide) (Nat.le_of_ble_eq_true rfl) rfl (w_X8_set_0 a1 a2 a3 μ)

def f_X8_house_b31  (μ : z_M) : Int32 × z_M :=
  z_let (f_X8_refuse (-6) μ) (fun p2 => (p2.1, p2.2))
def f_X8_house (a1 : Int32) (a2 : Int32) (a3 : Int32) (μ : z_M) : Int32 × z_M :=
  if (f_X2_isKind a1 μ) = 0 then (z_let (f_X8_refuse (-1) μ) (fun p1 => (p1.1, p1.2))) else (if (f_X8_isSet a2 μ) = 0 then (f_X8_house_b31 μ) else (if a3 < 0 then (f_X8_house_b31 μ) else (if (255 : Int32) < a3 then (f_X8_house_b31 μ) else (if (f_X6_hasRoomForHouse 1 μ) = 0 then (z_let (f_X8_refuse (-7) μ) (fun p3 => (p3.1, p3.2))) else (z_let (f_X6_addHouse 1 a1 a2 a3 μ) (fun p4 => (p4.1, p4.2)))))))
set_option maxRecDepth 20000 in
theorem w_X8_house_31 {D : va_G} {cI cL : ClassId} {b : Nat} {Z : State → Heap → Prop}   (μ : z_M) : z_w (zEc D cI cL b Z) (RX8, cX8_house, 4, (some .int), 3) z_ei 31 [(0, .ref (b + 0))] [] μ (z_oT (f_X8_house_b31 μ)) := by
  unfold f_X8_house_b31
  refine z_aload_n (pc := 31) dX8_house_31 rfl ?_
  refine z_bipush (pc := 32) dX8_house_32 zcb_m6 ?_
  refine z_letP (fun p2 hp2 => ?_)
  refine z_callVi (pc := 34) (As := [.int (-6)]) (S := []) (c_X8_refuse (-6) μ) (z_pT hp2) zw_X8_refuse zv_X8_refuse zm_X8_88 (n := 1) (by decide) rfl (z_recv gc_0 (T := TX8) (N := 11) rfl) rfl (Nat.le_of_ble_eq_true rfl) (by decide) (by decide) dX8_house_34 ?_
  exact z_iret (pc := 37) rfl dX8_house_37

set_option maxRecDepth 20000 in
theorem w_X8_house_0 {D : va_G} {cI cL : ClassId} {b : Nat} {Z : State → Heap → Prop}  (a1 : Int32) (a2 : Int32) (a3 : Int32) (μ : z_M) : z_w (zEc D cI cL b Z) (RX8, cX8_house, 4, (some .int), 3) z_ei 0 [(0, .ref (b + 0)), (1, .int a1), (2, .int a2), (3, .int a3)] [] μ (z_oT (f_X8_house a1 a2 a3 μ)) := by
  unfold f_X8_house
  refine z_iload_n (pc := 0) dX8_house_0 rfl ?_
  refine z_callSi (pc := 1) (As := [.int a1]) (S := []) (c_X2_isKind a1 μ) rfl zw_X2_isKind zs_X2_isKind zm_X8_151 (n := 1) (by decide) rfl rfl (Nat.le_of_ble_eq_true rfl) (by decide) (by decide) dX8_house_1 ?_
  refine z_outIf ?_
  refine z_if_ne (pc := 4) (tgt := 13) dX8_house_4 (by decide) (fun _ => ?_) (fun _ => ?_)
  · refine z_aload_n (pc := 7) dX8_house_7 rfl ?_
    refine z_iconst (pc := 8) dX8_house_8 zci_m1 ?_
    refine z_letP (fun p1 hp1 => ?_)
    refine z_callVi (pc := 9) (As := [.int (-1)]) (S := []) (c_X8_refuse (-1) μ) (z_pT hp1) zw_X8_refuse zv_X8_refuse zm_X8_88 (n := 1) (by decide) rfl (z_recv gc_0 (T := TX8) (N := 11) rfl) rfl (Nat.le_of_ble_eq_true rfl) (by decide) (by decide) dX8_house_9 ?_
    exact z_iret (pc := 12) rfl dX8_house_12
  · refine z_iload_n (pc := 13) dX8_house_13 rfl ?_
    refine z_callSi (pc := 14) (As := [.int a2]) (S := []) (c_X8_isSet a2 μ) rfl zw_X8_isSet zs_X8_isSet zm_X8_107 (n := 1) (by decide) rfl rfl (Nat.le_of_ble_eq_true rfl) (by decide) (by decide) dX8_house_14 ?_
    refine z_outIf ?_
    refine z_if_eq (pc := 17) (tgt := 31) dX8_house_17 (by decide) (fun _ => ?_) (fun _ => ?_)
    · refine z_drop (L' := [(0, .ref (b + 0))]) [0] rfl ?_
      exact w_X8_house_31 μ
    · refine z_iload_n (pc := 20) dX8_house_20 rfl ?_
      refine z_outIf ?_
      refine z_if_lt (pc := 21) (tgt := 31) dX8_house_21 (by decide) (fun _ => ?_) (fun _ => ?_)
      · refine z_drop (L' := [(0, .ref (b + 0))]) [0] rfl ?_
        exact w_X8_house_31 μ
      · refine z_iload_n (pc := 24) dX8_house_24 rfl ?_
        refine z_sipush (pc := 25) dX8_house_25 zcs_255 ?_
        refine z_outIf ?_
        refine z_icmp_le (pc := 28) (tgt := 38) dX8_house_28 (by decide) (fun _ => ?_) (fun _ => ?_)
        · refine z_drop (L' := [(0, .ref (b + 0))]) [0] rfl ?_
          exact w_X8_house_31 μ
        · refine z_aload_n (pc := 38) dX8_house_38 rfl ?_
          refine zgR_X8_10 (pc := 39) gc_0 rfl dX8_house_39 ?_
          refine z_callVi (pc := 42) (As := []) (S := []) (c_X6_hasRoomForHouse zstr_1 μ) rfl zw_X6_hasRoomForHouse zv_X6_hasRoomForHouse zm_X8_169 (n := 0) (by decide) rfl (z_recv gc_1 (T := TX6) (N := 10) rfl) rfl (Nat.le_of_ble_eq_true rfl) (by decide) (by decide) dX8_house_42 ?_
          refine z_outIf ?_
          refine z_if_eq (pc := 45) (tgt := 61) dX8_house_45 (by decide) (fun _ => ?_) (fun _ => ?_)
          · refine z_aload_n (pc := 61) dX8_house_61 rfl ?_
            refine z_bipush (pc := 62) dX8_house_62 zcb_m7 ?_
            refine z_letP (fun p3 hp3 => ?_)
            refine z_callVi (pc := 64) (As := [.int (-7)]) (S := []) (c_X8_refuse (-7) μ) (z_pT hp3) zw_X8_refuse zv_X8_refuse zm_X8_88 (n := 1) (by decide) rfl (z_recv gc_0 (T := TX8) (N := 11) rfl) rfl (Nat.le_of_ble_eq_true rfl) (by decide) (by decide) dX8_house_64 ?_
            exact z_iret (pc := 67) rfl dX8_house_67
          · refine z_aload_n (pc := 48) dX8_house_48 rfl ?_
            refine zgR_X8_10 (pc := 49) gc_0 rfl dX8_house_49 ?_
            refine z_iload_n (pc := 52) dX8_house_52 rfl ?_
            refine z_iload_n (pc := 53) dX8_house_53 rfl ?_
            refine z_iload_n (pc := 54) dX8_house_54 rfl ?_
            refine z_letP (fun p4 hp4 => ?_)
            refine z_callVi (pc := 55) (As := [.int a1, .int a2, .int a3]) (S := []) (c_X6_addHouse zstr_1 a1 a2 a3 μ) (z_pT hp4) zw_X6_addHouse zv_X6_addHouse zm_X8_172 (n := 3) (by decide) rfl (z_recv gc_1 (T := TX6) (N := 10) rfl) rfl (Nat.le_of_ble_eq_true rfl) (by decide) (by decide) dX8_house_55 ?_
            refine z_goto (pc := 58) (tgt := 67) dX8_house_58 (by decide) ?_
            exact z_iret (pc := 67) rfl dX8_house_67

set_option maxRecDepth 20000 in
theorem c_X8_house {D : va_G} {cI cL : ClassId} {b : Nat} {Z : State → Heap → Prop}  (a1 : Int32) (a2 : Int32) (a3 : Int32) (μ : z_M) : z_S (zEc D cI cL b Z) 3 yX8_house cX8_house 4 (some .int) z_ei [.ref (b + 0), .int a1, .int a2, .int a3] μ (z_oT (f_X8_house a1 a2 a3 μ)) :=
  z_entry (yn := yX8_house) (by decide) (Nat.le_of_ble_eq_true rfl) rfl (w_X8_house_0 a1 a2 a3 μ)

def f_X8_troubleWithWay (a1 : Int32) (a2 : Int32) (a3 : Int32) (μ : z_M) : Int32 :=
  if (f_X6_isHouse 1 a1 μ) = 0 then ((-1)) else (if (f_X6_isHouse 1 a2 μ) = 0 then ((-1)) else (if a1 = a2 then ((-6)) else (if a3 < 1 then ((-6)) else (if (60 : Int32) < a3 then ((-6)) else (if (f_X6_hasRoomForWay 1 μ) = 0 then ((-7)) else (0))))))
set_option maxRecDepth 20000 in
theorem w_X8_troubleWithWay_0 {D : va_G} {cI cL : ClassId} {b : Nat} {Z : State → Heap → Prop}  (a1 : Int32) (a2 : Int32) (a3 : Int32) (μ : z_M) : z_w (zEc D cI cL b Z) (RX8, cX8_troubleWithWay, 4, (some .int), 1) z_ei 0 [(0, .ref (b + 0)), (1, .int a1), (2, .int a2), (3, .int a3)] [] μ (z_oP μ (f_X8_troubleWithWay a1 a2 a3 μ)) := by
  unfold f_X8_troubleWithWay
  refine z_aload_n (pc := 0) dX8_troubleWithWay_0 rfl ?_
  refine zgR_X8_10 (pc := 1) gc_0 rfl dX8_troubleWithWay_1 ?_
  refine z_iload_n (pc := 4) dX8_troubleWithWay_4 rfl ?_
  refine z_callVi (pc := 5) (As := [.int a1]) (S := []) (c_X6_isHouse zstr_1 a1 μ) rfl zw_X6_isHouse zv_X6_isHouse zm_X8_103 (n := 1) (by decide) rfl (z_recv gc_1 (T := TX6) (N := 10) rfl) rfl (Nat.le_of_ble_eq_true rfl) (by decide) (by decide) dX8_troubleWithWay_5 ?_
  refine z_outIf ?_
  refine z_if_eq (pc := 8) (tgt := 22) dX8_troubleWithWay_8 (by decide) (fun _ => ?_) (fun _ => ?_)
  · refine z_iconst (pc := 22) dX8_troubleWithWay_22 zci_m1 ?_
    exact z_iret (pc := 23) rfl dX8_troubleWithWay_23
  · refine z_aload_n (pc := 11) dX8_troubleWithWay_11 rfl ?_
    refine zgR_X8_10 (pc := 12) gc_0 rfl dX8_troubleWithWay_12 ?_
    refine z_iload_n (pc := 15) dX8_troubleWithWay_15 rfl ?_
    refine z_callVi (pc := 16) (As := [.int a2]) (S := []) (c_X6_isHouse zstr_1 a2 μ) rfl zw_X6_isHouse zv_X6_isHouse zm_X8_103 (n := 1) (by decide) rfl (z_recv gc_1 (T := TX6) (N := 10) rfl) rfl (Nat.le_of_ble_eq_true rfl) (by decide) (by decide) dX8_troubleWithWay_16 ?_
    refine z_outIf ?_
    refine z_if_ne (pc := 19) (tgt := 24) dX8_troubleWithWay_19 (by decide) (fun _ => ?_) (fun _ => ?_)
    · refine z_iconst (pc := 22) dX8_troubleWithWay_22 zci_m1 ?_
      exact z_iret (pc := 23) rfl dX8_troubleWithWay_23
    · refine z_iload_n (pc := 24) dX8_troubleWithWay_24 rfl ?_
      refine z_iload_n (pc := 25) dX8_troubleWithWay_25 rfl ?_
      refine z_outIf ?_
      refine z_icmp_eq (pc := 26) (tgt := 40) dX8_troubleWithWay_26 (by decide) (fun _ => ?_) (fun _ => ?_)
      · refine z_bipush (pc := 40) dX8_troubleWithWay_40 zcb_m6 ?_
        exact z_iret (pc := 42) rfl dX8_troubleWithWay_42
      · refine z_iload_n (pc := 29) dX8_troubleWithWay_29 rfl ?_
        refine z_iconst (pc := 30) dX8_troubleWithWay_30 zci_1 ?_
        refine z_outIf ?_
        refine z_icmp_lt (pc := 31) (tgt := 40) dX8_troubleWithWay_31 (by decide) (fun _ => ?_) (fun _ => ?_)
        · refine z_bipush (pc := 40) dX8_troubleWithWay_40 zcb_m6 ?_
          exact z_iret (pc := 42) rfl dX8_troubleWithWay_42
        · refine z_iload_n (pc := 34) dX8_troubleWithWay_34 rfl ?_
          refine z_bipush (pc := 35) dX8_troubleWithWay_35 zcb_60 ?_
          refine z_outIf ?_
          refine z_icmp_le (pc := 37) (tgt := 43) dX8_troubleWithWay_37 (by decide) (fun _ => ?_) (fun _ => ?_)
          · refine z_bipush (pc := 40) dX8_troubleWithWay_40 zcb_m6 ?_
            exact z_iret (pc := 42) rfl dX8_troubleWithWay_42
          · refine z_aload_n (pc := 43) dX8_troubleWithWay_43 rfl ?_
            refine zgR_X8_10 (pc := 44) gc_0 rfl dX8_troubleWithWay_44 ?_
            refine z_callVi (pc := 47) (As := []) (S := []) (c_X6_hasRoomForWay zstr_1 μ) rfl zw_X6_hasRoomForWay zv_X6_hasRoomForWay zm_X8_175 (n := 0) (by decide) rfl (z_recv gc_1 (T := TX6) (N := 10) rfl) rfl (Nat.le_of_ble_eq_true rfl) (by decide) (by decide) dX8_troubleWithWay_47 ?_
            refine z_outIf ?_
            refine z_if_eq (pc := 50) (tgt := 57) dX8_troubleWithWay_50 (by decide) (fun _ => ?_) (fun _ => ?_)
            · refine z_bipush (pc := 57) dX8_troubleWithWay_57 zcb_m7 ?_
              exact z_iret (pc := 59) rfl dX8_troubleWithWay_59
            · refine z_iconst (pc := 53) dX8_troubleWithWay_53 zci_0 ?_
              refine z_goto (pc := 54) (tgt := 59) dX8_troubleWithWay_54 (by decide) ?_
              exact z_iret (pc := 59) rfl dX8_troubleWithWay_59

set_option maxRecDepth 20000 in
theorem c_X8_troubleWithWay {D : va_G} {cI cL : ClassId} {b : Nat} {Z : State → Heap → Prop}  (a1 : Int32) (a2 : Int32) (a3 : Int32) (μ : z_M) : z_S (zEc D cI cL b Z) 1 yX8_troubleWithWay cX8_troubleWithWay 4 (some .int) z_ei [.ref (b + 0), .int a1, .int a2, .int a3] μ (z_oP μ (f_X8_troubleWithWay a1 a2 a3 μ)) :=
  z_entry (yn := yX8_troubleWithWay) (by decide) (Nat.le_of_ble_eq_true rfl) rfl (w_X8_troubleWithWay_0 a1 a2 a3 μ)

def f_X8_way (a1 : Int32) (a2 : Int32) (a3 : Int32) (μ : z_M) : Int32 × z_M :=
  z_let ((f_X8_troubleWithWay a1 a2 a3 μ) : Int32) (fun x1 => if x1 = 0 then (z_let (f_X6_addWay 1 a1 a2 a3 μ) (fun p2 => (p2.1, p2.2))) else (z_let (f_X8_refuse x1 μ) (fun p3 => (p3.1, p3.2))))
set_option maxRecDepth 20000 in
theorem w_X8_way_0 {D : va_G} {cI cL : ClassId} {b : Nat} {Z : State → Heap → Prop}  (a1 : Int32) (a2 : Int32) (a3 : Int32) (μ : z_M) : z_w (zEc D cI cL b Z) (RX8, cX8_way, 5, (some .int), 3) z_ei 0 [(0, .ref (b + 0)), (1, .int a1), (2, .int a2), (3, .int a3)] [] μ (z_oT (f_X8_way a1 a2 a3 μ)) := by
  unfold f_X8_way
  refine z_aload_n (pc := 0) dX8_way_0 rfl ?_
  refine z_iload_n (pc := 1) dX8_way_1 rfl ?_
  refine z_iload_n (pc := 2) dX8_way_2 rfl ?_
  refine z_iload_n (pc := 3) dX8_way_3 rfl ?_
  refine z_callVi (pc := 4) (As := [.int a1, .int a2, .int a3]) (S := []) (c_X8_troubleWithWay a1 a2 a3 μ) rfl zw_X8_troubleWithWay zv_X8_troubleWithWay zm_X8_178 (n := 3) (by decide) rfl (z_recv gc_0 (T := TX8) (N := 11) rfl) rfl (Nat.le_of_ble_eq_true rfl) (by decide) (by decide) dX8_way_4 ?_
  refine z_letI (fun x1 => ?_)
  refine z_istore (pc := 7) (L' := [(0, .ref (b + 0)), (1, .int a1), (2, .int a2), (3, .int a3), (4, .int x1)]) dX8_way_7 (by decide) rfl ?_
  refine z_iload (pc := 9) dX8_way_9 rfl ?_
  refine z_outIf ?_
  refine z_if_ne (pc := 11) (tgt := 27) dX8_way_11 (by decide) (fun _ => ?_) (fun _ => ?_)
  · refine z_aload_n (pc := 14) dX8_way_14 rfl ?_
    refine zgR_X8_10 (pc := 15) gc_0 rfl dX8_way_15 ?_
    refine z_iload_n (pc := 18) dX8_way_18 rfl ?_
    refine z_iload_n (pc := 19) dX8_way_19 rfl ?_
    refine z_iload_n (pc := 20) dX8_way_20 rfl ?_
    refine z_letP (fun p2 hp2 => ?_)
    refine z_callVi (pc := 21) (As := [.int a1, .int a2, .int a3]) (S := []) (c_X6_addWay zstr_1 a1 a2 a3 μ) (z_pT hp2) zw_X6_addWay zv_X6_addWay zm_X8_181 (n := 3) (by decide) rfl (z_recv gc_1 (T := TX6) (N := 10) rfl) rfl (Nat.le_of_ble_eq_true rfl) (by decide) (by decide) dX8_way_21 ?_
    refine z_goto (pc := 24) (tgt := 33) dX8_way_24 (by decide) ?_
    exact z_iret (pc := 33) rfl dX8_way_33
  · refine z_aload_n (pc := 27) dX8_way_27 rfl ?_
    refine z_iload (pc := 28) dX8_way_28 rfl ?_
    refine z_letP (fun p3 hp3 => ?_)
    refine z_callVi (pc := 30) (As := [.int x1]) (S := []) (c_X8_refuse x1 μ) (z_pT hp3) zw_X8_refuse zv_X8_refuse zm_X8_88 (n := 1) (by decide) rfl (z_recv gc_0 (T := TX8) (N := 11) rfl) rfl (Nat.le_of_ble_eq_true rfl) (by decide) (by decide) dX8_way_30 ?_
    exact z_iret (pc := 33) rfl dX8_way_33

set_option maxRecDepth 20000 in
theorem c_X8_way {D : va_G} {cI cL : ClassId} {b : Nat} {Z : State → Heap → Prop}  (a1 : Int32) (a2 : Int32) (a3 : Int32) (μ : z_M) : z_S (zEc D cI cL b Z) 3 yX8_way cX8_way 5 (some .int) z_ei [.ref (b + 0), .int a1, .int a2, .int a3] μ (z_oT (f_X8_way a1 a2 a3 μ)) :=
  z_entry (yn := yX8_way) (by decide) (Nat.le_of_ble_eq_true rfl) rfl (w_X8_way_0 a1 a2 a3 μ)

def f_X8_shut (a1 : Int32) (a2 : Int32) (μ : z_M) : Int32 × z_M :=
  if (f_X6_isWay 1 a1 μ) = 0 then (z_let (f_X8_refuse (-1) μ) (fun p1 => (p1.1, p1.2))) else (z_let (f_X6_changeShut 1 a1 a2 μ) (fun p2 => if p2.1 = 0 then ((0, p2.2)) else ((1, p2.2))))
set_option maxRecDepth 20000 in
theorem w_X8_shut_0 {D : va_G} {cI cL : ClassId} {b : Nat} {Z : State → Heap → Prop}  (a1 : Int32) (a2 : Int32) (μ : z_M) : z_w (zEc D cI cL b Z) (RX8, cX8_shut, 3, (some .int), 3) z_ei 0 [(0, .ref (b + 0)), (1, .int a1), (2, .int a2)] [] μ (z_oT (f_X8_shut a1 a2 μ)) := by
  unfold f_X8_shut
  refine z_aload_n (pc := 0) dX8_shut_0 rfl ?_
  refine zgR_X8_10 (pc := 1) gc_0 rfl dX8_shut_1 ?_
  refine z_iload_n (pc := 4) dX8_shut_4 rfl ?_
  refine z_callVi (pc := 5) (As := [.int a1]) (S := []) (c_X6_isWay zstr_1 a1 μ) rfl zw_X6_isWay zv_X6_isWay zm_X8_190 (n := 1) (by decide) rfl (z_recv gc_1 (T := TX6) (N := 10) rfl) rfl (Nat.le_of_ble_eq_true rfl) (by decide) (by decide) dX8_shut_5 ?_
  refine z_outIf ?_
  refine z_if_ne (pc := 8) (tgt := 17) dX8_shut_8 (by decide) (fun _ => ?_) (fun _ => ?_)
  · refine z_aload_n (pc := 11) dX8_shut_11 rfl ?_
    refine z_iconst (pc := 12) dX8_shut_12 zci_m1 ?_
    refine z_letP (fun p1 hp1 => ?_)
    refine z_callVi (pc := 13) (As := [.int (-1)]) (S := []) (c_X8_refuse (-1) μ) (z_pT hp1) zw_X8_refuse zv_X8_refuse zm_X8_88 (n := 1) (by decide) rfl (z_recv gc_0 (T := TX8) (N := 11) rfl) rfl (Nat.le_of_ble_eq_true rfl) (by decide) (by decide) dX8_shut_13 ?_
    exact z_iret (pc := 16) rfl dX8_shut_16
  · refine z_aload_n (pc := 17) dX8_shut_17 rfl ?_
    refine zgR_X8_10 (pc := 18) gc_0 rfl dX8_shut_18 ?_
    refine z_iload_n (pc := 21) dX8_shut_21 rfl ?_
    refine z_iload_n (pc := 22) dX8_shut_22 rfl ?_
    refine z_letP (fun p2 hp2 => ?_)
    refine z_callVi (pc := 23) (As := [.int a1, .int a2]) (S := []) (c_X6_changeShut zstr_1 a1 a2 μ) (z_pT hp2) zw_X6_changeShut zv_X6_changeShut zm_X8_193 (n := 2) (by decide) rfl (z_recv gc_1 (T := TX6) (N := 10) rfl) rfl (Nat.le_of_ble_eq_true rfl) (by decide) (by decide) dX8_shut_23 ?_
    refine z_outIf ?_
    refine z_if_eq (pc := 26) (tgt := 33) dX8_shut_26 (by decide) (fun _ => ?_) (fun _ => ?_)
    · refine z_iconst (pc := 33) dX8_shut_33 zci_0 ?_
      exact z_iret (pc := 34) rfl dX8_shut_34
    · refine z_iconst (pc := 29) dX8_shut_29 zci_1 ?_
      refine z_goto (pc := 30) (tgt := 34) dX8_shut_30 (by decide) ?_
      exact z_iret (pc := 34) rfl dX8_shut_34

set_option maxRecDepth 20000 in
theorem c_X8_shut {D : va_G} {cI cL : ClassId} {b : Nat} {Z : State → Heap → Prop}  (a1 : Int32) (a2 : Int32) (μ : z_M) : z_S (zEc D cI cL b Z) 3 yX8_shut cX8_shut 3 (some .int) z_ei [.ref (b + 0), .int a1, .int a2] μ (z_oT (f_X8_shut a1 a2 μ)) :=
  z_entry (yn := yX8_shut) (by decide) (Nat.le_of_ble_eq_true rfl) rfl (w_X8_shut_0 a1 a2 μ)

def f_X8_lag (a1 : Int32) (μ : z_M) : Int32 × z_M :=
  if (f_X8_isLag a1 μ) = 0 then (z_let (f_X8_refuse (-6) μ) (fun p1 => (p1.1, p1.2))) else (z_let ((f_X6_lagNow 1 μ) : Int32) (fun x2 => z_let (f_X6_changeLag 1 a1 μ) (fun m3 => (x2, m3))))
set_option maxRecDepth 20000 in
theorem w_X8_lag_0 {D : va_G} {cI cL : ClassId} {b : Nat} {Z : State → Heap → Prop}  (a1 : Int32) (μ : z_M) : z_w (zEc D cI cL b Z) (RX8, cX8_lag, 3, (some .int), 2) z_ei 0 [(0, .ref (b + 0)), (1, .int a1)] [] μ (z_oT (f_X8_lag a1 μ)) := by
  unfold f_X8_lag
  refine z_iload_n (pc := 0) dX8_lag_0 rfl ?_
  refine z_callSi (pc := 1) (As := [.int a1]) (S := []) (c_X8_isLag a1 μ) rfl zw_X8_isLag zs_X8_isLag zm_X8_197 (n := 1) (by decide) rfl rfl (Nat.le_of_ble_eq_true rfl) (by decide) (by decide) dX8_lag_1 ?_
  refine z_outIf ?_
  refine z_if_ne (pc := 4) (tgt := 14) dX8_lag_4 (by decide) (fun _ => ?_) (fun _ => ?_)
  · refine z_aload_n (pc := 7) dX8_lag_7 rfl ?_
    refine z_bipush (pc := 8) dX8_lag_8 zcb_m6 ?_
    refine z_letP (fun p1 hp1 => ?_)
    refine z_callVi (pc := 10) (As := [.int (-6)]) (S := []) (c_X8_refuse (-6) μ) (z_pT hp1) zw_X8_refuse zv_X8_refuse zm_X8_88 (n := 1) (by decide) rfl (z_recv gc_0 (T := TX8) (N := 11) rfl) rfl (Nat.le_of_ble_eq_true rfl) (by decide) (by decide) dX8_lag_10 ?_
    exact z_iret (pc := 13) rfl dX8_lag_13
  · refine z_aload_n (pc := 14) dX8_lag_14 rfl ?_
    refine zgR_X8_10 (pc := 15) gc_0 rfl dX8_lag_15 ?_
    refine z_callVi (pc := 18) (As := []) (S := []) (c_X6_lagNow zstr_1 μ) rfl zw_X6_lagNow zv_X6_lagNow zm_X8_200 (n := 0) (by decide) rfl (z_recv gc_1 (T := TX6) (N := 10) rfl) rfl (Nat.le_of_ble_eq_true rfl) (by decide) (by decide) dX8_lag_18 ?_
    refine z_letI (fun x2 => ?_)
    refine z_istore_n (pc := 21) (L' := [(0, .ref (b + 0)), (1, .int a1), (2, .int x2)]) dX8_lag_21 (by decide) rfl ?_
    refine z_aload_n (pc := 22) dX8_lag_22 rfl ?_
    refine zgR_X8_10 (pc := 23) gc_0 rfl dX8_lag_23 ?_
    refine z_iload_n (pc := 26) dX8_lag_26 rfl ?_
    refine z_letP (fun m3 hm3 => ?_)
    refine z_callVv (pc := 27) (As := [.int a1]) (S := []) (c_X6_changeLag zstr_1 a1 μ) (z_pV hm3) zw_X6_changeLag zv_X6_changeLag zm_X8_204 (n := 1) (by decide) rfl (z_recv gc_1 (T := TX6) (N := 10) rfl) rfl (Nat.le_of_ble_eq_true rfl) (by decide) (by decide) dX8_lag_27 ?_
    refine z_iload_n (pc := 30) dX8_lag_30 rfl ?_
    exact z_iret (pc := 31) rfl dX8_lag_31

set_option maxRecDepth 20000 in
theorem c_X8_lag {D : va_G} {cI cL : ClassId} {b : Nat} {Z : State → Heap → Prop}  (a1 : Int32) (μ : z_M) : z_S (zEc D cI cL b Z) 2 yX8_lag cX8_lag 3 (some .int) z_ei [.ref (b + 0), .int a1] μ (z_oT (f_X8_lag a1 μ)) :=
  z_entry (yn := yX8_lag) (by decide) (Nat.le_of_ble_eq_true rfl) rfl (w_X8_lag_0 a1 μ)

def f_X8_houseOf_b25 (l1 : Int32) (l2 : Int32) (s0 : Int32) (μ : z_M) : Int32 × z_M :=
  if s0 = 0 then (z_let (f_X8_refuse (-5) μ) (fun p1 => (p1.1, p1.2))) else (((f_X6_ofHouse 1 l1 l2 μ), μ))
def f_X8_houseOf_b24 (l1 : Int32) (l2 : Int32) (μ : z_M) : Int32 × z_M :=
  f_X8_houseOf_b25 l1 l2 0 μ
def f_X8_houseOf (a1 : Int32) (a2 : Int32) (μ : z_M) : Int32 × z_M :=
  if (f_X6_isHouse 1 a1 μ) = 0 then (f_X8_houseOf_b24 a1 a2 μ) else (if a2 < 0 then (f_X8_houseOf_b24 a1 a2 μ) else (if a2 < 5 then (f_X8_houseOf_b25 a1 a2 1 μ) else (f_X8_houseOf_b24 a1 a2 μ)))
set_option maxRecDepth 20000 in
theorem w_X8_houseOf_25 {D : va_G} {cI cL : ClassId} {b : Nat} {Z : State → Heap → Prop}  (l1 : Int32) (l2 : Int32) (s0 : Int32) (μ : z_M) : z_w (zEc D cI cL b Z) (RX8, cX8_houseOf, 4, (some .int), 2) z_ei 25 [(0, .ref (b + 0)), (1, .int l1), (2, .int l2)] [.int s0] μ (z_oT (f_X8_houseOf_b25 l1 l2 s0 μ)) := by
  unfold f_X8_houseOf_b25
  refine z_istore_n (pc := 25) (L' := [(0, .ref (b + 0)), (1, .int l1), (2, .int l2), (3, .int s0)]) dX8_houseOf_25 (by decide) rfl ?_
  refine z_iload_n (pc := 26) dX8_houseOf_26 rfl ?_
  refine z_outIf ?_
  refine z_if_eq (pc := 27) (tgt := 42) dX8_houseOf_27 (by decide) (fun _ => ?_) (fun _ => ?_)
  · refine z_aload_n (pc := 42) dX8_houseOf_42 rfl ?_
    refine z_bipush (pc := 43) dX8_houseOf_43 zcb_m5 ?_
    refine z_letP (fun p1 hp1 => ?_)
    refine z_callVi (pc := 45) (As := [.int (-5)]) (S := []) (c_X8_refuse (-5) μ) (z_pT hp1) zw_X8_refuse zv_X8_refuse zm_X8_88 (n := 1) (by decide) rfl (z_recv gc_0 (T := TX8) (N := 11) rfl) rfl (Nat.le_of_ble_eq_true rfl) (by decide) (by decide) dX8_houseOf_45 ?_
    exact z_iret (pc := 48) rfl dX8_houseOf_48
  · refine z_aload_n (pc := 30) dX8_houseOf_30 rfl ?_
    refine zgR_X8_10 (pc := 31) gc_0 rfl dX8_houseOf_31 ?_
    refine z_iload_n (pc := 34) dX8_houseOf_34 rfl ?_
    refine z_iload_n (pc := 35) dX8_houseOf_35 rfl ?_
    refine z_callVi (pc := 36) (As := [.int l1, .int l2]) (S := []) (c_X6_ofHouse zstr_1 l1 l2 μ) rfl zw_X6_ofHouse zv_X6_ofHouse zm_X8_159 (n := 2) (by decide) rfl (z_recv gc_1 (T := TX6) (N := 10) rfl) rfl (Nat.le_of_ble_eq_true rfl) (by decide) (by decide) dX8_houseOf_36 ?_
    refine z_goto (pc := 39) (tgt := 48) dX8_houseOf_39 (by decide) ?_
    exact z_iret (pc := 48) rfl dX8_houseOf_48

set_option maxRecDepth 20000 in
theorem w_X8_houseOf_24 {D : va_G} {cI cL : ClassId} {b : Nat} {Z : State → Heap → Prop}  (l1 : Int32) (l2 : Int32) (μ : z_M) : z_w (zEc D cI cL b Z) (RX8, cX8_houseOf, 4, (some .int), 2) z_ei 24 [(0, .ref (b + 0)), (1, .int l1), (2, .int l2)] [] μ (z_oT (f_X8_houseOf_b24 l1 l2 μ)) := by
  unfold f_X8_houseOf_b24
  refine z_iconst (pc := 24) dX8_houseOf_24 zci_0 ?_
  exact w_X8_houseOf_25 l1 l2 0 μ

set_option maxRecDepth 20000 in
theorem w_X8_houseOf_0 {D : va_G} {cI cL : ClassId} {b : Nat} {Z : State → Heap → Prop}  (a1 : Int32) (a2 : Int32) (μ : z_M) : z_w (zEc D cI cL b Z) (RX8, cX8_houseOf, 4, (some .int), 2) z_ei 0 [(0, .ref (b + 0)), (1, .int a1), (2, .int a2)] [] μ (z_oT (f_X8_houseOf a1 a2 μ)) := by
  unfold f_X8_houseOf
  refine z_aload_n (pc := 0) dX8_houseOf_0 rfl ?_
  refine zgR_X8_10 (pc := 1) gc_0 rfl dX8_houseOf_1 ?_
  refine z_iload_n (pc := 4) dX8_houseOf_4 rfl ?_
  refine z_callVi (pc := 5) (As := [.int a1]) (S := []) (c_X6_isHouse zstr_1 a1 μ) rfl zw_X6_isHouse zv_X6_isHouse zm_X8_103 (n := 1) (by decide) rfl (z_recv gc_1 (T := TX6) (N := 10) rfl) rfl (Nat.le_of_ble_eq_true rfl) (by decide) (by decide) dX8_houseOf_5 ?_
  refine z_outIf ?_
  refine z_if_eq (pc := 8) (tgt := 24) dX8_houseOf_8 (by decide) (fun _ => ?_) (fun _ => ?_)
  · exact w_X8_houseOf_24 a1 a2 μ
  · refine z_iload_n (pc := 11) dX8_houseOf_11 rfl ?_
    refine z_outIf ?_
    refine z_if_lt (pc := 12) (tgt := 24) dX8_houseOf_12 (by decide) (fun _ => ?_) (fun _ => ?_)
    · exact w_X8_houseOf_24 a1 a2 μ
    · refine z_iload_n (pc := 15) dX8_houseOf_15 rfl ?_
      refine z_iconst (pc := 16) dX8_houseOf_16 zci_5 ?_
      refine z_outIf ?_
      refine z_icmp_ge (pc := 17) (tgt := 24) dX8_houseOf_17 (by decide) (fun _ => ?_) (fun _ => ?_)
      · refine z_iconst (pc := 20) dX8_houseOf_20 zci_1 ?_
        refine z_goto (pc := 21) (tgt := 25) dX8_houseOf_21 (by decide) ?_
        exact w_X8_houseOf_25 a1 a2 1 μ
      · exact w_X8_houseOf_24 a1 a2 μ

set_option maxRecDepth 20000 in
theorem c_X8_houseOf {D : va_G} {cI cL : ClassId} {b : Nat} {Z : State → Heap → Prop}  (a1 : Int32) (a2 : Int32) (μ : z_M) : z_S (zEc D cI cL b Z) 2 yX8_houseOf cX8_houseOf 4 (some .int) z_ei [.ref (b + 0), .int a1, .int a2] μ (z_oT (f_X8_houseOf a1 a2 μ)) :=
  z_entry (yn := yX8_houseOf) (by decide) (Nat.le_of_ble_eq_true rfl) rfl (w_X8_houseOf_0 a1 a2 μ)

def f_X8_put (n : Nat) (a1 : Int32) (μ : z_M) : Option (Int32 × z_M) :=
  if (f_X6_isHouse 1 a1 μ) = 0 then (z_let (f_X8_refuse (-1) μ) (fun p1 => some (p1.1, p1.2))) else (z_bind (f_X6_visit 1 n a1 μ) (fun p2 => some (p2.1, p2.2)))
set_option maxRecDepth 20000 in
theorem w_X8_put_0 {D : va_G} {cI cL : ClassId} {b : Nat} {Z : State → Heap → Prop}  (n : Nat) (a1 : Int32) (μ : z_M) : z_w (zEc D cI cL b Z) (RX8, cX8_put, 2, (some .int), 3) z_ei 0 [(0, .ref (b + 0)), (1, .int a1)] [] μ ((f_X8_put n a1 μ)) := by
  unfold f_X8_put
  refine z_aload_n (pc := 0) dX8_put_0 rfl ?_
  refine zgR_X8_10 (pc := 1) gc_0 rfl dX8_put_1 ?_
  refine z_iload_n (pc := 4) dX8_put_4 rfl ?_
  refine z_callVi (pc := 5) (As := [.int a1]) (S := []) (c_X6_isHouse zstr_1 a1 μ) rfl zw_X6_isHouse zv_X6_isHouse zm_X8_103 (n := 1) (by decide) rfl (z_recv gc_1 (T := TX6) (N := 10) rfl) rfl (Nat.le_of_ble_eq_true rfl) (by decide) (by decide) dX8_put_5 ?_
  refine z_if_eq (pc := 8) (tgt := 22) dX8_put_8 (by decide) (fun _ => ?_) (fun _ => ?_)
  · refine z_aload_n (pc := 22) dX8_put_22 rfl ?_
    refine z_iconst (pc := 23) dX8_put_23 zci_m1 ?_
    refine z_letPO (fun p1 hp1 => ?_)
    refine z_callVi (pc := 24) (As := [.int (-1)]) (S := []) (c_X8_refuse (-1) μ) (z_pT hp1) zw_X8_refuse zv_X8_refuse zm_X8_88 (n := 1) (by decide) rfl (z_recv gc_0 (T := TX8) (N := 11) rfl) rfl (Nat.le_of_ble_eq_true rfl) (by decide) (by decide) dX8_put_24 ?_
    exact z_iret (pc := 27) rfl dX8_put_27
  · refine z_aload_n (pc := 11) dX8_put_11 rfl ?_
    refine zgR_X8_10 (pc := 12) gc_0 rfl dX8_put_12 ?_
    refine z_iload_n (pc := 15) dX8_put_15 rfl ?_
    refine z_bindP (fun p2 hp2 => ?_)
    refine z_callVi (pc := 16) (As := [.int a1]) (S := []) (c_X6_visit zstr_1 n a1 μ) hp2 zw_X6_visit zv_X6_visit zm_X8_222 (n := 1) (by decide) rfl (z_recv gc_1 (T := TX6) (N := 10) rfl) rfl (Nat.le_of_ble_eq_true rfl) (by decide) (by decide) dX8_put_16 ?_
    refine z_goto (pc := 19) (tgt := 27) dX8_put_19 (by decide) ?_
    exact z_iret (pc := 27) rfl dX8_put_27

set_option maxRecDepth 20000 in
theorem c_X8_put {D : va_G} {cI cL : ClassId} {b : Nat} {Z : State → Heap → Prop}  (n : Nat) (a1 : Int32) (μ : z_M) : z_S (zEc D cI cL b Z) 3 yX8_put cX8_put 2 (some .int) z_ei [.ref (b + 0), .int a1] μ ((f_X8_put n a1 μ)) :=
  z_entry (yn := yX8_put) (by decide) (Nat.le_of_ble_eq_true rfl) rfl (w_X8_put_0 n a1 μ)

def f_X8_go (n : Nat) (a1 : Int32) (μ : z_M) : Option (Int32 × z_M) :=
  if (f_X6_isWay 1 a1 μ) = 0 then (z_let (f_X8_refuse (-1) μ) (fun p1 => some (p1.1, p1.2))) else (if (f_X6_canGoBy 1 a1 μ) = 0 then (z_let (f_X8_refuse (-6) μ) (fun p2 => some (p2.1, p2.2))) else (z_bind (f_X6_goBy 1 n a1 μ) (fun p3 => some (p3.1, p3.2))))
set_option maxRecDepth 20000 in
theorem w_X8_go_0 {D : va_G} {cI cL : ClassId} {b : Nat} {Z : State → Heap → Prop}  (n : Nat) (a1 : Int32) (μ : z_M) : z_w (zEc D cI cL b Z) (RX8, cX8_go, 2, (some .int), 4) z_ei 0 [(0, .ref (b + 0)), (1, .int a1)] [] μ ((f_X8_go n a1 μ)) := by
  unfold f_X8_go
  refine z_aload_n (pc := 0) dX8_go_0 rfl ?_
  refine zgR_X8_10 (pc := 1) gc_0 rfl dX8_go_1 ?_
  refine z_iload_n (pc := 4) dX8_go_4 rfl ?_
  refine z_callVi (pc := 5) (As := [.int a1]) (S := []) (c_X6_isWay zstr_1 a1 μ) rfl zw_X6_isWay zv_X6_isWay zm_X8_190 (n := 1) (by decide) rfl (z_recv gc_1 (T := TX6) (N := 10) rfl) rfl (Nat.le_of_ble_eq_true rfl) (by decide) (by decide) dX8_go_5 ?_
  refine z_if_ne (pc := 8) (tgt := 17) dX8_go_8 (by decide) (fun _ => ?_) (fun _ => ?_)
  · refine z_aload_n (pc := 11) dX8_go_11 rfl ?_
    refine z_iconst (pc := 12) dX8_go_12 zci_m1 ?_
    refine z_letPO (fun p1 hp1 => ?_)
    refine z_callVi (pc := 13) (As := [.int (-1)]) (S := []) (c_X8_refuse (-1) μ) (z_pT hp1) zw_X8_refuse zv_X8_refuse zm_X8_88 (n := 1) (by decide) rfl (z_recv gc_0 (T := TX8) (N := 11) rfl) rfl (Nat.le_of_ble_eq_true rfl) (by decide) (by decide) dX8_go_13 ?_
    exact z_iret (pc := 16) rfl dX8_go_16
  · refine z_aload_n (pc := 17) dX8_go_17 rfl ?_
    refine zgR_X8_10 (pc := 18) gc_0 rfl dX8_go_18 ?_
    refine z_iload_n (pc := 21) dX8_go_21 rfl ?_
    refine z_callVi (pc := 22) (As := [.int a1]) (S := []) (c_X6_canGoBy zstr_1 a1 μ) rfl zw_X6_canGoBy zv_X6_canGoBy zm_X8_225 (n := 1) (by decide) rfl (z_recv gc_1 (T := TX6) (N := 10) rfl) rfl (Nat.le_of_ble_eq_true rfl) (by decide) (by decide) dX8_go_22 ?_
    refine z_if_eq (pc := 25) (tgt := 39) dX8_go_25 (by decide) (fun _ => ?_) (fun _ => ?_)
    · refine z_aload_n (pc := 39) dX8_go_39 rfl ?_
      refine z_bipush (pc := 40) dX8_go_40 zcb_m6 ?_
      refine z_letPO (fun p2 hp2 => ?_)
      refine z_callVi (pc := 42) (As := [.int (-6)]) (S := []) (c_X8_refuse (-6) μ) (z_pT hp2) zw_X8_refuse zv_X8_refuse zm_X8_88 (n := 1) (by decide) rfl (z_recv gc_0 (T := TX8) (N := 11) rfl) rfl (Nat.le_of_ble_eq_true rfl) (by decide) (by decide) dX8_go_42 ?_
      exact z_iret (pc := 45) rfl dX8_go_45
    · refine z_aload_n (pc := 28) dX8_go_28 rfl ?_
      refine zgR_X8_10 (pc := 29) gc_0 rfl dX8_go_29 ?_
      refine z_iload_n (pc := 32) dX8_go_32 rfl ?_
      refine z_bindP (fun p3 hp3 => ?_)
      refine z_callVi (pc := 33) (As := [.int a1]) (S := []) (c_X6_goBy zstr_1 n a1 μ) hp3 zw_X6_goBy zv_X6_goBy zm_X8_228 (n := 1) (by decide) rfl (z_recv gc_1 (T := TX6) (N := 10) rfl) rfl (Nat.le_of_ble_eq_true rfl) (by decide) (by decide) dX8_go_33 ?_
      refine z_goto (pc := 36) (tgt := 45) dX8_go_36 (by decide) ?_
      exact z_iret (pc := 45) rfl dX8_go_45

set_option maxRecDepth 20000 in
theorem c_X8_go {D : va_G} {cI cL : ClassId} {b : Nat} {Z : State → Heap → Prop}  (n : Nat) (a1 : Int32) (μ : z_M) : z_S (zEc D cI cL b Z) 4 yX8_go cX8_go 2 (some .int) z_ei [.ref (b + 0), .int a1] μ ((f_X8_go n a1 μ)) :=
  z_entry (yn := yX8_go) (by decide) (Nat.le_of_ble_eq_true rfl) rfl (w_X8_go_0 n a1 μ)

def f_X8_where  (μ : z_M) : Int32 :=
  (f_X6_birdAt 1 μ)
set_option maxRecDepth 20000 in
theorem w_X8_where_0 {D : va_G} {cI cL : ClassId} {b : Nat} {Z : State → Heap → Prop}   (μ : z_M) : z_w (zEc D cI cL b Z) (RX8, cX8_where, 1, (some .int), 1) z_ei 0 [(0, .ref (b + 0))] [] μ (z_oP μ (f_X8_where μ)) := by
  unfold f_X8_where
  refine z_aload_n (pc := 0) dX8_where_0 rfl ?_
  refine zgR_X8_10 (pc := 1) gc_0 rfl dX8_where_1 ?_
  refine z_callVi (pc := 4) (As := []) (S := []) (c_X6_birdAt zstr_1 μ) rfl zw_X6_birdAt zv_X6_birdAt zm_X8_231 (n := 0) (by decide) rfl (z_recv gc_1 (T := TX6) (N := 10) rfl) rfl (Nat.le_of_ble_eq_true rfl) (by decide) (by decide) dX8_where_4 ?_
  exact z_iret (pc := 7) rfl dX8_where_7

set_option maxRecDepth 20000 in
theorem c_X8_where {D : va_G} {cI cL : ClassId} {b : Nat} {Z : State → Heap → Prop}   (μ : z_M) : z_S (zEc D cI cL b Z) 1 yX8_where cX8_where 1 (some .int) z_ei [.ref (b + 0)] μ (z_oP μ (f_X8_where μ)) :=
  z_entry (yn := yX8_where) (by decide) (Nat.le_of_ble_eq_true rfl) rfl (w_X8_where_0  μ)

def f_X8_answer (a1 : Int32) (a2 : Int32) (μ : z_M) : Int32 × z_M :=
  if (f_X6_isHouse 1 a1 μ) = 0 then (z_let (f_X8_refuse (-1) μ) (fun p1 => (p1.1, p1.2))) else (if (f_X8_isSet a2 μ) = 0 then (z_let (f_X8_refuse (-6) μ) (fun p2 => (p2.1, p2.2))) else (((f_X6_answerAfter 1 a1 a2 0 0 μ), μ)))
set_option maxRecDepth 20000 in
theorem w_X8_answer_0 {D : va_G} {cI cL : ClassId} {b : Nat} {Z : State → Heap → Prop}  (a1 : Int32) (a2 : Int32) (μ : z_M) : z_w (zEc D cI cL b Z) (RX8, cX8_answer, 3, (some .int), 2) z_ei 0 [(0, .ref (b + 0)), (1, .int a1), (2, .int a2)] [] μ (z_oT (f_X8_answer a1 a2 μ)) := by
  unfold f_X8_answer
  refine z_aload_n (pc := 0) dX8_answer_0 rfl ?_
  refine zgR_X8_10 (pc := 1) gc_0 rfl dX8_answer_1 ?_
  refine z_iload_n (pc := 4) dX8_answer_4 rfl ?_
  refine z_callVi (pc := 5) (As := [.int a1]) (S := []) (c_X6_isHouse zstr_1 a1 μ) rfl zw_X6_isHouse zv_X6_isHouse zm_X8_103 (n := 1) (by decide) rfl (z_recv gc_1 (T := TX6) (N := 10) rfl) rfl (Nat.le_of_ble_eq_true rfl) (by decide) (by decide) dX8_answer_5 ?_
  refine z_outIf ?_
  refine z_if_ne (pc := 8) (tgt := 17) dX8_answer_8 (by decide) (fun _ => ?_) (fun _ => ?_)
  · refine z_aload_n (pc := 11) dX8_answer_11 rfl ?_
    refine z_iconst (pc := 12) dX8_answer_12 zci_m1 ?_
    refine z_letP (fun p1 hp1 => ?_)
    refine z_callVi (pc := 13) (As := [.int (-1)]) (S := []) (c_X8_refuse (-1) μ) (z_pT hp1) zw_X8_refuse zv_X8_refuse zm_X8_88 (n := 1) (by decide) rfl (z_recv gc_0 (T := TX8) (N := 11) rfl) rfl (Nat.le_of_ble_eq_true rfl) (by decide) (by decide) dX8_answer_13 ?_
    exact z_iret (pc := 16) rfl dX8_answer_16
  · refine z_iload_n (pc := 17) dX8_answer_17 rfl ?_
    refine z_callSi (pc := 18) (As := [.int a2]) (S := []) (c_X8_isSet a2 μ) rfl zw_X8_isSet zs_X8_isSet zm_X8_107 (n := 1) (by decide) rfl rfl (Nat.le_of_ble_eq_true rfl) (by decide) (by decide) dX8_answer_18 ?_
    refine z_outIf ?_
    refine z_if_eq (pc := 21) (tgt := 38) dX8_answer_21 (by decide) (fun _ => ?_) (fun _ => ?_)
    · refine z_aload_n (pc := 38) dX8_answer_38 rfl ?_
      refine z_bipush (pc := 39) dX8_answer_39 zcb_m6 ?_
      refine z_letP (fun p2 hp2 => ?_)
      refine z_callVi (pc := 41) (As := [.int (-6)]) (S := []) (c_X8_refuse (-6) μ) (z_pT hp2) zw_X8_refuse zv_X8_refuse zm_X8_88 (n := 1) (by decide) rfl (z_recv gc_0 (T := TX8) (N := 11) rfl) rfl (Nat.le_of_ble_eq_true rfl) (by decide) (by decide) dX8_answer_41 ?_
      exact z_iret (pc := 44) rfl dX8_answer_44
    · refine z_aload_n (pc := 24) dX8_answer_24 rfl ?_
      refine zgR_X8_10 (pc := 25) gc_0 rfl dX8_answer_25 ?_
      refine z_iload_n (pc := 28) dX8_answer_28 rfl ?_
      refine z_iload_n (pc := 29) dX8_answer_29 rfl ?_
      refine z_iconst (pc := 30) dX8_answer_30 zci_0 ?_
      refine z_iconst (pc := 31) dX8_answer_31 zci_0 ?_
      refine z_callVi (pc := 32) (As := [.int a1, .int a2, .int 0, .int 0]) (S := []) (c_X6_answerAfter zstr_1 a1 a2 0 0 μ) rfl zw_X6_answerAfter zv_X6_answerAfter zm_X8_240 (n := 4) (by decide) rfl (z_recv gc_1 (T := TX6) (N := 10) rfl) rfl (Nat.le_of_ble_eq_true rfl) (by decide) (by decide) dX8_answer_32 ?_
      refine z_goto (pc := 35) (tgt := 44) dX8_answer_35 (by decide) ?_
      exact z_iret (pc := 44) rfl dX8_answer_44

set_option maxRecDepth 20000 in
theorem c_X8_answer {D : va_G} {cI cL : ClassId} {b : Nat} {Z : State → Heap → Prop}  (a1 : Int32) (a2 : Int32) (μ : z_M) : z_S (zEc D cI cL b Z) 2 yX8_answer cX8_answer 3 (some .int) z_ei [.ref (b + 0), .int a1, .int a2] μ (z_oT (f_X8_answer a1 a2 μ)) :=
  z_entry (yn := yX8_answer) (by decide) (Nat.le_of_ble_eq_true rfl) rfl (w_X8_answer_0 a1 a2 μ)

def f_X8_between_b22 (n : Nat)  (μ : z_M) : Option (Int32 × z_M) :=
  z_let (f_X8_refuseApart (-1) μ) (fun p1 => some (p1.1, p1.2))
def f_X8_between (n : Nat) (a1 : Int32) (a2 : Int32) (μ : z_M) : Option (Int32 × z_M) :=
  if (f_X6_isHouse 1 a1 μ) = 0 then (f_X8_between_b22 n μ) else (if (f_X6_isHouse 1 a2 μ) = 0 then (f_X8_between_b22 n μ) else (z_bind (f_X7_begin n μ) (fun p2 => some ((f_X7_wayTaken a1 a2 p2.2), p2.2))))
set_option maxRecDepth 20000 in
theorem w_X8_between_22 {D : va_G} {cI cL : ClassId} {b : Nat} {Z : State → Heap → Prop}  (n : Nat)  (μ : z_M) : z_w (zEc D cI cL b Z) (RX8, cX8_between, 3, (some .int), 5) z_ei 22 [(0, .ref (b + 0))] [] μ ((f_X8_between_b22 n μ)) := by
  unfold f_X8_between_b22
  refine z_aload_n (pc := 22) dX8_between_22 rfl ?_
  refine z_iconst (pc := 23) dX8_between_23 zci_m1 ?_
  refine z_letPO (fun p1 hp1 => ?_)
  refine z_callVi (pc := 24) (As := [.int (-1)]) (S := []) (c_X8_refuseApart (-1) μ) (z_pT hp1) zw_X8_refuseApart zv_X8_refuseApart zm_X8_244 (n := 1) (by decide) rfl (z_recv gc_0 (T := TX8) (N := 11) rfl) rfl (Nat.le_of_ble_eq_true rfl) (by decide) (by decide) dX8_between_24 ?_
  exact z_iret (pc := 27) rfl dX8_between_27

set_option maxRecDepth 20000 in
theorem w_X8_between_0 {D : va_G} {cI cL : ClassId} {b : Nat} {Z : State → Heap → Prop}  (n : Nat) (a1 : Int32) (a2 : Int32) (μ : z_M) : z_w (zEc D cI cL b Z) (RX8, cX8_between, 3, (some .int), 5) z_ei 0 [(0, .ref (b + 0)), (1, .int a1), (2, .int a2)] [] μ ((f_X8_between n a1 a2 μ)) := by
  unfold f_X8_between
  refine z_aload_n (pc := 0) dX8_between_0 rfl ?_
  refine zgR_X8_10 (pc := 1) gc_0 rfl dX8_between_1 ?_
  refine z_iload_n (pc := 4) dX8_between_4 rfl ?_
  refine z_callVi (pc := 5) (As := [.int a1]) (S := []) (c_X6_isHouse zstr_1 a1 μ) rfl zw_X6_isHouse zv_X6_isHouse zm_X8_103 (n := 1) (by decide) rfl (z_recv gc_1 (T := TX6) (N := 10) rfl) rfl (Nat.le_of_ble_eq_true rfl) (by decide) (by decide) dX8_between_5 ?_
  refine z_if_eq (pc := 8) (tgt := 22) dX8_between_8 (by decide) (fun _ => ?_) (fun _ => ?_)
  · refine z_drop (L' := [(0, .ref (b + 0))]) [0] rfl ?_
    exact w_X8_between_22 n μ
  · refine z_aload_n (pc := 11) dX8_between_11 rfl ?_
    refine zgR_X8_10 (pc := 12) gc_0 rfl dX8_between_12 ?_
    refine z_iload_n (pc := 15) dX8_between_15 rfl ?_
    refine z_callVi (pc := 16) (As := [.int a2]) (S := []) (c_X6_isHouse zstr_1 a2 μ) rfl zw_X6_isHouse zv_X6_isHouse zm_X8_103 (n := 1) (by decide) rfl (z_recv gc_1 (T := TX6) (N := 10) rfl) rfl (Nat.le_of_ble_eq_true rfl) (by decide) (by decide) dX8_between_16 ?_
    refine z_if_ne (pc := 19) (tgt := 28) dX8_between_19 (by decide) (fun _ => ?_) (fun _ => ?_)
    · refine z_drop (L' := [(0, .ref (b + 0))]) [0] rfl ?_
      exact w_X8_between_22 n μ
    · refine z_aload_n (pc := 28) dX8_between_28 rfl ?_
      refine zgR_X8_41 (pc := 29) gc_0 rfl dX8_between_29 ?_
      refine z_bindP (fun p2 hp2 => ?_)
      refine z_callVv (pc := 32) (As := []) (S := []) (c_X7_begin n μ) hp2 zw_X7_begin zv_X7_begin zm_X8_247 (n := 0) (by decide) rfl (z_recv gc_31 (T := TX7) (N := 8) rfl) rfl (Nat.le_of_ble_eq_true rfl) (by decide) (by decide) dX8_between_32 ?_
      refine z_aload_n (pc := 35) dX8_between_35 rfl ?_
      refine zgR_X8_41 (pc := 36) gc_0 rfl dX8_between_36 ?_
      refine z_iload_n (pc := 39) dX8_between_39 rfl ?_
      refine z_iload_n (pc := 40) dX8_between_40 rfl ?_
      refine z_callVi (pc := 41) (As := [.int a1, .int a2]) (S := []) (c_X7_wayTaken a1 a2 p2.2) rfl zw_X7_wayTaken zv_X7_wayTaken zm_X8_250 (n := 2) (by decide) rfl (z_recv gc_31 (T := TX7) (N := 8) rfl) rfl (Nat.le_of_ble_eq_true rfl) (by decide) (by decide) dX8_between_41 ?_
      exact z_iret (pc := 44) rfl dX8_between_44

set_option maxRecDepth 20000 in
theorem c_X8_between {D : va_G} {cI cL : ClassId} {b : Nat} {Z : State → Heap → Prop}  (n : Nat) (a1 : Int32) (a2 : Int32) (μ : z_M) : z_S (zEc D cI cL b Z) 5 yX8_between cX8_between 3 (some .int) z_ei [.ref (b + 0), .int a1, .int a2] μ ((f_X8_between n a1 a2 μ)) :=
  z_entry (yn := yX8_between) (by decide) (Nat.le_of_ble_eq_true rfl) rfl (w_X8_between_0 n a1 a2 μ)

def f_X8_walkTold_h2 : Nat → Int32 → Int32 → Int32 → z_M → Option (Int32 × z_M)
  | 0, _, _, _, _ => none
  | n + 1, l1, l2, l3, μ =>
    if l3 < l2 then (z_bind (f_X5_intAt l1 l3 μ) (fun p1 => z_bind (f_X7_stepTo n p1.1 p1.2) (fun p2 => if p2.1 = 0 then (some (l3, p2.2)) else (f_X8_walkTold_h2 n l1 l2 (l3 + 1) p2.2)))) else (some ((-1), μ))
def f_X8_walkTold (n : Nat) (a1 : Int32) (a2 : Int32) (μ : z_M) : Option (Int32 × z_M) :=
  f_X8_walkTold_h2 n a1 a2 0 μ
set_option maxRecDepth 20000 in
theorem w_X8_walkTold_2 {D : va_G} {cI cL : ClassId} {b : Nat} {Z : State → Heap → Prop}  : ∀ (n : Nat) (l1 : Int32) (l2 : Int32) (l3 : Int32) (μ : z_M), z_w (zEc D cI cL b Z) (RX8, cX8_walkTold, 4, (some .int), 4) z_ei 2 [(0, .ref (b + 0)), (1, .int l1), (2, .int l2), (3, .int l3)] [] μ (f_X8_walkTold_h2 n l1 l2 l3 μ) := by
  intro n
  induction n with
  | zero =>
    intro l1 l2 l3 μ
    exact z_none
  | succ n ih =>
    intro l1 l2 l3 μ
    unfold f_X8_walkTold_h2
    refine z_iload_n (pc := 2) dX8_walkTold_2 rfl ?_
    refine z_iload_n (pc := 3) dX8_walkTold_3 rfl ?_
    refine z_icmp_ge (pc := 4) (tgt := 34) dX8_walkTold_4 (by decide) (fun _ => ?_) (fun _ => ?_)
    · refine z_aload_n (pc := 7) dX8_walkTold_7 rfl ?_
      refine zgR_X8_41 (pc := 8) gc_0 rfl dX8_walkTold_8 ?_
      refine z_aload_n (pc := 11) dX8_walkTold_11 rfl ?_
      refine zgR_X8_25 (pc := 12) gc_0 rfl dX8_walkTold_12 ?_
      refine z_iload_n (pc := 15) dX8_walkTold_15 rfl ?_
      refine z_iload_n (pc := 16) dX8_walkTold_16 rfl ?_
      refine z_bindP (fun p1 hp1 => ?_)
      refine z_callVi (pc := 17) (As := [.int l1, .int l3]) (S := [.ref (b + 31)]) (c_X5_intAt l1 l3 μ) hp1 zw_X5_intAt zv_X5_intAt zm_X8_187 (n := 2) (by decide) rfl (z_recv gc_22 (T := TX5) (N := 3) rfl) rfl (Nat.le_of_ble_eq_true rfl) (by decide) (by decide) dX8_walkTold_17 ?_
      refine z_bindP (fun p2 hp2 => ?_)
      refine z_callVi (pc := 20) (As := [.int p1.1]) (S := []) (c_X7_stepTo n p1.1 p1.2) hp2 zw_X7_stepTo zv_X7_stepTo zm_X8_253 (n := 1) (by decide) rfl (z_recv gc_31 (T := TX7) (N := 8) rfl) rfl (Nat.le_of_ble_eq_true rfl) (by decide) (by decide) dX8_walkTold_20 ?_
      refine z_if_ne (pc := 23) (tgt := 28) dX8_walkTold_23 (by decide) (fun _ => ?_) (fun _ => ?_)
      · refine z_iload_n (pc := 26) dX8_walkTold_26 rfl ?_
        exact z_iret (pc := 27) rfl dX8_walkTold_27
      · refine z_iinc (pc := 28) (v := (l3 + 1)) (L' := [(0, .ref (b + 0)), (1, .int l1), (2, .int l2), (3, .int (l3 + 1))]) dX8_walkTold_28 rfl (by decide) rfl rfl ?_
        refine z_goto (pc := 31) (tgt := 2) dX8_walkTold_31 (by decide) ?_
        exact ih l1 l2 (l3 + 1) p2.2
    · refine z_iconst (pc := 34) dX8_walkTold_34 zci_m1 ?_
      exact z_iret (pc := 35) rfl dX8_walkTold_35

set_option maxRecDepth 20000 in
theorem w_X8_walkTold_0 {D : va_G} {cI cL : ClassId} {b : Nat} {Z : State → Heap → Prop}  (n : Nat) (a1 : Int32) (a2 : Int32) (μ : z_M) : z_w (zEc D cI cL b Z) (RX8, cX8_walkTold, 4, (some .int), 4) z_ei 0 [(0, .ref (b + 0)), (1, .int a1), (2, .int a2)] [] μ ((f_X8_walkTold n a1 a2 μ)) := by
  unfold f_X8_walkTold
  refine z_iconst (pc := 0) dX8_walkTold_0 zci_0 ?_
  refine z_istore_n (pc := 1) (L' := [(0, .ref (b + 0)), (1, .int a1), (2, .int a2), (3, .int 0)]) dX8_walkTold_1 (by decide) rfl ?_
  exact w_X8_walkTold_2 n a1 a2 0 μ

set_option maxRecDepth 20000 in
theorem c_X8_walkTold {D : va_G} {cI cL : ClassId} {b : Nat} {Z : State → Heap → Prop}  (n : Nat) (a1 : Int32) (a2 : Int32) (μ : z_M) : z_S (zEc D cI cL b Z) 4 yX8_walkTold cX8_walkTold 4 (some .int) z_ei [.ref (b + 0), .int a1, .int a2] μ ((f_X8_walkTold n a1 a2 μ)) :=
  z_entry (yn := yX8_walkTold) (by decide) (Nat.le_of_ble_eq_true rfl) rfl (w_X8_walkTold_0 n a1 a2 μ)

def f_X8_judge (n : Nat) (a1 : Int32) (a2 : Int32) (μ : z_M) : Option (Int32 × z_M) :=
  z_let ((f_X8_troubleWithRoute a1 a2 40 μ) : Int32) (fun x1 => if x1 = 0 then (z_bind (f_X7_begin n μ) (fun p2 => z_bind (f_X8_walkTold n a1 a2 p2.2) (fun p3 => some (p3.1, p3.2)))) else (z_let (f_X8_refuse x1 μ) (fun p4 => some (p4.1, p4.2))))
set_option maxRecDepth 20000 in
theorem w_X8_judge_0 {D : va_G} {cI cL : ClassId} {b : Nat} {Z : State → Heap → Prop}  (n : Nat) (a1 : Int32) (a2 : Int32) (μ : z_M) : z_w (zEc D cI cL b Z) (RX8, cX8_judge, 4, (some .int), 6) z_ei 0 [(0, .ref (b + 0)), (1, .int a1), (2, .int a2)] [] μ ((f_X8_judge n a1 a2 μ)) := by
  unfold f_X8_judge
  refine z_aload_n (pc := 0) dX8_judge_0 rfl ?_
  refine z_iload_n (pc := 1) dX8_judge_1 rfl ?_
  refine z_iload_n (pc := 2) dX8_judge_2 rfl ?_
  refine z_bipush (pc := 3) dX8_judge_3 zcb_40 ?_
  refine z_callVi (pc := 5) (As := [.int a1, .int a2, .int 40]) (S := []) (c_X8_troubleWithRoute a1 a2 40 μ) rfl zw_X8_troubleWithRoute zv_X8_troubleWithRoute zm_X8_256 (n := 3) (by decide) rfl (z_recv gc_0 (T := TX8) (N := 11) rfl) rfl (Nat.le_of_ble_eq_true rfl) (by decide) (by decide) dX8_judge_5 ?_
  refine z_letIO (fun x1 => ?_)
  refine z_istore_n (pc := 8) (L' := [(0, .ref (b + 0)), (1, .int a1), (2, .int a2), (3, .int x1)]) dX8_judge_8 (by decide) rfl ?_
  refine z_iload_n (pc := 9) dX8_judge_9 rfl ?_
  refine z_if_eq (pc := 10) (tgt := 19) dX8_judge_10 (by decide) (fun _ => ?_) (fun _ => ?_)
  · refine z_aload_n (pc := 19) dX8_judge_19 rfl ?_
    refine zgR_X8_41 (pc := 20) gc_0 rfl dX8_judge_20 ?_
    refine z_bindP (fun p2 hp2 => ?_)
    refine z_callVv (pc := 23) (As := []) (S := []) (c_X7_begin n μ) hp2 zw_X7_begin zv_X7_begin zm_X8_247 (n := 0) (by decide) rfl (z_recv gc_31 (T := TX7) (N := 8) rfl) rfl (Nat.le_of_ble_eq_true rfl) (by decide) (by decide) dX8_judge_23 ?_
    refine z_aload_n (pc := 26) dX8_judge_26 rfl ?_
    refine z_iload_n (pc := 27) dX8_judge_27 rfl ?_
    refine z_iload_n (pc := 28) dX8_judge_28 rfl ?_
    refine z_bindP (fun p3 hp3 => ?_)
    refine z_callVi (pc := 29) (As := [.int a1, .int a2]) (S := []) (c_X8_walkTold n a1 a2 p2.2) hp3 zw_X8_walkTold zv_X8_walkTold zm_X8_259 (n := 2) (by decide) rfl (z_recv gc_0 (T := TX8) (N := 11) rfl) rfl (Nat.le_of_ble_eq_true rfl) (by decide) (by decide) dX8_judge_29 ?_
    exact z_iret (pc := 32) rfl dX8_judge_32
  · refine z_aload_n (pc := 13) dX8_judge_13 rfl ?_
    refine z_iload_n (pc := 14) dX8_judge_14 rfl ?_
    refine z_letPO (fun p4 hp4 => ?_)
    refine z_callVi (pc := 15) (As := [.int x1]) (S := []) (c_X8_refuse x1 μ) (z_pT hp4) zw_X8_refuse zv_X8_refuse zm_X8_88 (n := 1) (by decide) rfl (z_recv gc_0 (T := TX8) (N := 11) rfl) rfl (Nat.le_of_ble_eq_true rfl) (by decide) (by decide) dX8_judge_15 ?_
    exact z_iret (pc := 18) rfl dX8_judge_18

set_option maxRecDepth 20000 in
theorem c_X8_judge {D : va_G} {cI cL : ClassId} {b : Nat} {Z : State → Heap → Prop}  (n : Nat) (a1 : Int32) (a2 : Int32) (μ : z_M) : z_S (zEc D cI cL b Z) 6 yX8_judge cX8_judge 4 (some .int) z_ei [.ref (b + 0), .int a1, .int a2] μ ((f_X8_judge n a1 a2 μ)) :=
  z_entry (yn := yX8_judge) (by decide) (Nat.le_of_ble_eq_true rfl) rfl (w_X8_judge_0 n a1 a2 μ)

def f_X8_minutes (n : Nat) (a1 : Int32) (a2 : Int32) (μ : z_M) : Option (Int32 × z_M) :=
  z_let ((f_X8_troubleWithRoute a1 a2 40 μ) : Int32) (fun x1 => if x1 = 0 then (z_bind (f_X7_begin n μ) (fun p2 => z_bind (f_X8_walkTold n a1 a2 p2.2) (fun p3 => if p3.1 = (-1) then (some ((f_X7_minutesTaken p3.2), p3.2)) else (z_let (f_X8_refuse (-6) p3.2) (fun p4 => some (p4.1, p4.2)))))) else (z_let (f_X8_refuse x1 μ) (fun p5 => some (p5.1, p5.2))))
set_option maxRecDepth 20000 in
theorem w_X8_minutes_0 {D : va_G} {cI cL : ClassId} {b : Nat} {Z : State → Heap → Prop}  (n : Nat) (a1 : Int32) (a2 : Int32) (μ : z_M) : z_w (zEc D cI cL b Z) (RX8, cX8_minutes, 4, (some .int), 6) z_ei 0 [(0, .ref (b + 0)), (1, .int a1), (2, .int a2)] [] μ ((f_X8_minutes n a1 a2 μ)) := by
  unfold f_X8_minutes
  refine z_aload_n (pc := 0) dX8_minutes_0 rfl ?_
  refine z_iload_n (pc := 1) dX8_minutes_1 rfl ?_
  refine z_iload_n (pc := 2) dX8_minutes_2 rfl ?_
  refine z_bipush (pc := 3) dX8_minutes_3 zcb_40 ?_
  refine z_callVi (pc := 5) (As := [.int a1, .int a2, .int 40]) (S := []) (c_X8_troubleWithRoute a1 a2 40 μ) rfl zw_X8_troubleWithRoute zv_X8_troubleWithRoute zm_X8_256 (n := 3) (by decide) rfl (z_recv gc_0 (T := TX8) (N := 11) rfl) rfl (Nat.le_of_ble_eq_true rfl) (by decide) (by decide) dX8_minutes_5 ?_
  refine z_letIO (fun x1 => ?_)
  refine z_istore_n (pc := 8) (L' := [(0, .ref (b + 0)), (1, .int a1), (2, .int a2), (3, .int x1)]) dX8_minutes_8 (by decide) rfl ?_
  refine z_iload_n (pc := 9) dX8_minutes_9 rfl ?_
  refine z_if_eq (pc := 10) (tgt := 19) dX8_minutes_10 (by decide) (fun _ => ?_) (fun _ => ?_)
  · refine z_aload_n (pc := 19) dX8_minutes_19 rfl ?_
    refine zgR_X8_41 (pc := 20) gc_0 rfl dX8_minutes_20 ?_
    refine z_bindP (fun p2 hp2 => ?_)
    refine z_callVv (pc := 23) (As := []) (S := []) (c_X7_begin n μ) hp2 zw_X7_begin zv_X7_begin zm_X8_247 (n := 0) (by decide) rfl (z_recv gc_31 (T := TX7) (N := 8) rfl) rfl (Nat.le_of_ble_eq_true rfl) (by decide) (by decide) dX8_minutes_23 ?_
    refine z_aload_n (pc := 26) dX8_minutes_26 rfl ?_
    refine z_iload_n (pc := 27) dX8_minutes_27 rfl ?_
    refine z_iload_n (pc := 28) dX8_minutes_28 rfl ?_
    refine z_bindP (fun p3 hp3 => ?_)
    refine z_callVi (pc := 29) (As := [.int a1, .int a2]) (S := []) (c_X8_walkTold n a1 a2 p2.2) hp3 zw_X8_walkTold zv_X8_walkTold zm_X8_259 (n := 2) (by decide) rfl (z_recv gc_0 (T := TX8) (N := 11) rfl) rfl (Nat.le_of_ble_eq_true rfl) (by decide) (by decide) dX8_minutes_29 ?_
    refine z_iconst (pc := 32) dX8_minutes_32 zci_m1 ?_
    refine z_icmp_ne (pc := 33) (tgt := 46) dX8_minutes_33 (by decide) (fun _ => ?_) (fun _ => ?_)
    · refine z_aload_n (pc := 36) dX8_minutes_36 rfl ?_
      refine zgR_X8_41 (pc := 37) gc_0 rfl dX8_minutes_37 ?_
      refine z_callVi (pc := 40) (As := []) (S := []) (c_X7_minutesTaken p3.2) rfl zw_X7_minutesTaken zv_X7_minutesTaken zm_X8_262 (n := 0) (by decide) rfl (z_recv gc_31 (T := TX7) (N := 8) rfl) rfl (Nat.le_of_ble_eq_true rfl) (by decide) (by decide) dX8_minutes_40 ?_
      refine z_goto (pc := 43) (tgt := 52) dX8_minutes_43 (by decide) ?_
      exact z_iret (pc := 52) rfl dX8_minutes_52
    · refine z_aload_n (pc := 46) dX8_minutes_46 rfl ?_
      refine z_bipush (pc := 47) dX8_minutes_47 zcb_m6 ?_
      refine z_letPO (fun p4 hp4 => ?_)
      refine z_callVi (pc := 49) (As := [.int (-6)]) (S := []) (c_X8_refuse (-6) p3.2) (z_pT hp4) zw_X8_refuse zv_X8_refuse zm_X8_88 (n := 1) (by decide) rfl (z_recv gc_0 (T := TX8) (N := 11) rfl) rfl (Nat.le_of_ble_eq_true rfl) (by decide) (by decide) dX8_minutes_49 ?_
      exact z_iret (pc := 52) rfl dX8_minutes_52
  · refine z_aload_n (pc := 13) dX8_minutes_13 rfl ?_
    refine z_iload_n (pc := 14) dX8_minutes_14 rfl ?_
    refine z_letPO (fun p5 hp5 => ?_)
    refine z_callVi (pc := 15) (As := [.int x1]) (S := []) (c_X8_refuse x1 μ) (z_pT hp5) zw_X8_refuse zv_X8_refuse zm_X8_88 (n := 1) (by decide) rfl (z_recv gc_0 (T := TX8) (N := 11) rfl) rfl (Nat.le_of_ble_eq_true rfl) (by decide) (by decide) dX8_minutes_15 ?_
    exact z_iret (pc := 18) rfl dX8_minutes_18

set_option maxRecDepth 20000 in
theorem c_X8_minutes {D : va_G} {cI cL : ClassId} {b : Nat} {Z : State → Heap → Prop}  (n : Nat) (a1 : Int32) (a2 : Int32) (μ : z_M) : z_S (zEc D cI cL b Z) 6 yX8_minutes cX8_minutes 4 (some .int) z_ei [.ref (b + 0), .int a1, .int a2] μ ((f_X8_minutes n a1 a2 μ)) :=
  z_entry (yn := yX8_minutes) (by decide) (Nat.le_of_ble_eq_true rfl) rfl (w_X8_minutes_0 n a1 a2 μ)

def f_X8_hears_b23 (n : Nat) (l1 : Int32) (l2 : Int32) (l3 : Int32) (s0 : Int32) (μ : z_M) : Option (Int32 × z_M) :=
  if s0 = 0 then (z_bind (f_X7_begin n μ) (fun p1 => z_bind (f_X8_walkTold n l1 l2 p1.2) (fun p2 => if p2.1 = (-1) then (z_bind (f_X7_heardBy n l3 p2.2) (fun p3 => some (p3.1, p3.2))) else (z_let (f_X8_refuse (-6) p2.2) (fun p4 => some (p4.1, p4.2)))))) else (z_let (f_X8_refuse s0 μ) (fun p5 => some (p5.1, p5.2)))
def f_X8_hears (n : Nat) (a1 : Int32) (a2 : Int32) (a3 : Int32) (μ : z_M) : Option (Int32 × z_M) :=
  if (f_X6_isHouse 1 a3 μ) = 0 then (f_X8_hears_b23 n a1 a2 a3 (-1) μ) else (f_X8_hears_b23 n a1 a2 a3 (f_X8_troubleWithRoute a1 a2 40 μ) μ)
set_option maxRecDepth 20000 in
theorem w_X8_hears_23 {D : va_G} {cI cL : ClassId} {b : Nat} {Z : State → Heap → Prop}  (n : Nat) (l1 : Int32) (l2 : Int32) (l3 : Int32) (s0 : Int32) (μ : z_M) : z_w (zEc D cI cL b Z) (RX8, cX8_hears, 5, (some .int), 6) z_ei 23 [(0, .ref (b + 0)), (1, .int l1), (2, .int l2), (3, .int l3)] [.int s0] μ ((f_X8_hears_b23 n l1 l2 l3 s0 μ)) := by
  unfold f_X8_hears_b23
  refine z_istore (pc := 23) (L' := [(0, .ref (b + 0)), (1, .int l1), (2, .int l2), (3, .int l3), (4, .int s0)]) dX8_hears_23 (by decide) rfl ?_
  refine z_iload (pc := 25) dX8_hears_25 rfl ?_
  refine z_if_eq (pc := 27) (tgt := 37) dX8_hears_27 (by decide) (fun _ => ?_) (fun _ => ?_)
  · refine z_aload_n (pc := 37) dX8_hears_37 rfl ?_
    refine zgR_X8_41 (pc := 38) gc_0 rfl dX8_hears_38 ?_
    refine z_bindP (fun p1 hp1 => ?_)
    refine z_callVv (pc := 41) (As := []) (S := []) (c_X7_begin n μ) hp1 zw_X7_begin zv_X7_begin zm_X8_247 (n := 0) (by decide) rfl (z_recv gc_31 (T := TX7) (N := 8) rfl) rfl (Nat.le_of_ble_eq_true rfl) (by decide) (by decide) dX8_hears_41 ?_
    refine z_aload_n (pc := 44) dX8_hears_44 rfl ?_
    refine z_iload_n (pc := 45) dX8_hears_45 rfl ?_
    refine z_iload_n (pc := 46) dX8_hears_46 rfl ?_
    refine z_bindP (fun p2 hp2 => ?_)
    refine z_callVi (pc := 47) (As := [.int l1, .int l2]) (S := []) (c_X8_walkTold n l1 l2 p1.2) hp2 zw_X8_walkTold zv_X8_walkTold zm_X8_259 (n := 2) (by decide) rfl (z_recv gc_0 (T := TX8) (N := 11) rfl) rfl (Nat.le_of_ble_eq_true rfl) (by decide) (by decide) dX8_hears_47 ?_
    refine z_iconst (pc := 50) dX8_hears_50 zci_m1 ?_
    refine z_icmp_ne (pc := 51) (tgt := 65) dX8_hears_51 (by decide) (fun _ => ?_) (fun _ => ?_)
    · refine z_aload_n (pc := 54) dX8_hears_54 rfl ?_
      refine zgR_X8_41 (pc := 55) gc_0 rfl dX8_hears_55 ?_
      refine z_iload_n (pc := 58) dX8_hears_58 rfl ?_
      refine z_bindP (fun p3 hp3 => ?_)
      refine z_callVi (pc := 59) (As := [.int l3]) (S := []) (c_X7_heardBy n l3 p2.2) hp3 zw_X7_heardBy zv_X7_heardBy zm_X8_265 (n := 1) (by decide) rfl (z_recv gc_31 (T := TX7) (N := 8) rfl) rfl (Nat.le_of_ble_eq_true rfl) (by decide) (by decide) dX8_hears_59 ?_
      refine z_goto (pc := 62) (tgt := 71) dX8_hears_62 (by decide) ?_
      exact z_iret (pc := 71) rfl dX8_hears_71
    · refine z_aload_n (pc := 65) dX8_hears_65 rfl ?_
      refine z_bipush (pc := 66) dX8_hears_66 zcb_m6 ?_
      refine z_letPO (fun p4 hp4 => ?_)
      refine z_callVi (pc := 68) (As := [.int (-6)]) (S := []) (c_X8_refuse (-6) p2.2) (z_pT hp4) zw_X8_refuse zv_X8_refuse zm_X8_88 (n := 1) (by decide) rfl (z_recv gc_0 (T := TX8) (N := 11) rfl) rfl (Nat.le_of_ble_eq_true rfl) (by decide) (by decide) dX8_hears_68 ?_
      exact z_iret (pc := 71) rfl dX8_hears_71
  · refine z_aload_n (pc := 30) dX8_hears_30 rfl ?_
    refine z_iload (pc := 31) dX8_hears_31 rfl ?_
    refine z_letPO (fun p5 hp5 => ?_)
    refine z_callVi (pc := 33) (As := [.int s0]) (S := []) (c_X8_refuse s0 μ) (z_pT hp5) zw_X8_refuse zv_X8_refuse zm_X8_88 (n := 1) (by decide) rfl (z_recv gc_0 (T := TX8) (N := 11) rfl) rfl (Nat.le_of_ble_eq_true rfl) (by decide) (by decide) dX8_hears_33 ?_
    exact z_iret (pc := 36) rfl dX8_hears_36

set_option maxRecDepth 20000 in
theorem w_X8_hears_0 {D : va_G} {cI cL : ClassId} {b : Nat} {Z : State → Heap → Prop}  (n : Nat) (a1 : Int32) (a2 : Int32) (a3 : Int32) (μ : z_M) : z_w (zEc D cI cL b Z) (RX8, cX8_hears, 5, (some .int), 6) z_ei 0 [(0, .ref (b + 0)), (1, .int a1), (2, .int a2), (3, .int a3)] [] μ ((f_X8_hears n a1 a2 a3 μ)) := by
  unfold f_X8_hears
  refine z_aload_n (pc := 0) dX8_hears_0 rfl ?_
  refine zgR_X8_10 (pc := 1) gc_0 rfl dX8_hears_1 ?_
  refine z_iload_n (pc := 4) dX8_hears_4 rfl ?_
  refine z_callVi (pc := 5) (As := [.int a3]) (S := []) (c_X6_isHouse zstr_1 a3 μ) rfl zw_X6_isHouse zv_X6_isHouse zm_X8_103 (n := 1) (by decide) rfl (z_recv gc_1 (T := TX6) (N := 10) rfl) rfl (Nat.le_of_ble_eq_true rfl) (by decide) (by decide) dX8_hears_5 ?_
  refine z_if_eq (pc := 8) (tgt := 22) dX8_hears_8 (by decide) (fun _ => ?_) (fun _ => ?_)
  · refine z_iconst (pc := 22) dX8_hears_22 zci_m1 ?_
    exact w_X8_hears_23 n a1 a2 a3 (-1) μ
  · refine z_aload_n (pc := 11) dX8_hears_11 rfl ?_
    refine z_iload_n (pc := 12) dX8_hears_12 rfl ?_
    refine z_iload_n (pc := 13) dX8_hears_13 rfl ?_
    refine z_bipush (pc := 14) dX8_hears_14 zcb_40 ?_
    refine z_callVi (pc := 16) (As := [.int a1, .int a2, .int 40]) (S := []) (c_X8_troubleWithRoute a1 a2 40 μ) rfl zw_X8_troubleWithRoute zv_X8_troubleWithRoute zm_X8_256 (n := 3) (by decide) rfl (z_recv gc_0 (T := TX8) (N := 11) rfl) rfl (Nat.le_of_ble_eq_true rfl) (by decide) (by decide) dX8_hears_16 ?_
    refine z_goto (pc := 19) (tgt := 23) dX8_hears_19 (by decide) ?_
    exact w_X8_hears_23 n a1 a2 a3 (f_X8_troubleWithRoute a1 a2 40 μ) μ

set_option maxRecDepth 20000 in
theorem c_X8_hears {D : va_G} {cI cL : ClassId} {b : Nat} {Z : State → Heap → Prop}  (n : Nat) (a1 : Int32) (a2 : Int32) (a3 : Int32) (μ : z_M) : z_S (zEc D cI cL b Z) 6 yX8_hears cX8_hears 5 (some .int) z_ei [.ref (b + 0), .int a1, .int a2, .int a3] μ ((f_X8_hears n a1 a2 a3 μ)) :=
  z_entry (yn := yX8_hears) (by decide) (Nat.le_of_ble_eq_true rfl) rfl (w_X8_hears_0 n a1 a2 a3 μ)

def f_X8_troubleInSeeking (a1 : Int32) (a2 : Int32) (a3 : Int32) (μ : z_M) : Int32 :=
  if a3 < 0 then ((-5)) else (if (f_X8_isSet a1 μ) = 0 then ((-6)) else (if (f_X8_isCount a2 1 6 μ) = 0 then ((-6)) else (if (f_X6_hasBird 1 μ) = 0 then ((-6)) else (0))))
set_option maxRecDepth 20000 in
theorem w_X8_troubleInSeeking_0 {D : va_G} {cI cL : ClassId} {b : Nat} {Z : State → Heap → Prop}  (a1 : Int32) (a2 : Int32) (a3 : Int32) (μ : z_M) : z_w (zEc D cI cL b Z) (RX8, cX8_troubleInSeeking, 4, (some .int), 1) z_ei 0 [(0, .ref (b + 0)), (1, .int a1), (2, .int a2), (3, .int a3)] [] μ (z_oP μ (f_X8_troubleInSeeking a1 a2 a3 μ)) := by
  unfold f_X8_troubleInSeeking
  refine z_iload_n (pc := 0) dX8_troubleInSeeking_0 rfl ?_
  refine z_outIf ?_
  refine z_if_ge (pc := 1) (tgt := 7) dX8_troubleInSeeking_1 (by decide) (fun _ => ?_) (fun _ => ?_)
  · refine z_bipush (pc := 4) dX8_troubleInSeeking_4 zcb_m5 ?_
    exact z_iret (pc := 6) rfl dX8_troubleInSeeking_6
  · refine z_iload_n (pc := 7) dX8_troubleInSeeking_7 rfl ?_
    refine z_callSi (pc := 8) (As := [.int a1]) (S := []) (c_X8_isSet a1 μ) rfl zw_X8_isSet zs_X8_isSet zm_X8_107 (n := 1) (by decide) rfl rfl (Nat.le_of_ble_eq_true rfl) (by decide) (by decide) dX8_troubleInSeeking_8 ?_
    refine z_outIf ?_
    refine z_if_eq (pc := 11) (tgt := 38) dX8_troubleInSeeking_11 (by decide) (fun _ => ?_) (fun _ => ?_)
    · refine z_bipush (pc := 38) dX8_troubleInSeeking_38 zcb_m6 ?_
      exact z_iret (pc := 40) rfl dX8_troubleInSeeking_40
    · refine z_iload_n (pc := 14) dX8_troubleInSeeking_14 rfl ?_
      refine z_iconst (pc := 15) dX8_troubleInSeeking_15 zci_1 ?_
      refine z_bipush (pc := 16) dX8_troubleInSeeking_16 zcb_6 ?_
      refine z_callSi (pc := 18) (As := [.int a2, .int 1, .int 6]) (S := []) (c_X8_isCount a2 1 6 μ) rfl zw_X8_isCount zs_X8_isCount zm_X8_91 (n := 3) (by decide) rfl rfl (Nat.le_of_ble_eq_true rfl) (by decide) (by decide) dX8_troubleInSeeking_18 ?_
      refine z_outIf ?_
      refine z_if_eq (pc := 21) (tgt := 38) dX8_troubleInSeeking_21 (by decide) (fun _ => ?_) (fun _ => ?_)
      · refine z_bipush (pc := 38) dX8_troubleInSeeking_38 zcb_m6 ?_
        exact z_iret (pc := 40) rfl dX8_troubleInSeeking_40
      · refine z_aload_n (pc := 24) dX8_troubleInSeeking_24 rfl ?_
        refine zgR_X8_10 (pc := 25) gc_0 rfl dX8_troubleInSeeking_25 ?_
        refine z_callVi (pc := 28) (As := []) (S := []) (c_X6_hasBird zstr_1 μ) rfl zw_X6_hasBird zv_X6_hasBird zm_X8_99 (n := 0) (by decide) rfl (z_recv gc_1 (T := TX6) (N := 10) rfl) rfl (Nat.le_of_ble_eq_true rfl) (by decide) (by decide) dX8_troubleInSeeking_28 ?_
        refine z_outIf ?_
        refine z_if_eq (pc := 31) (tgt := 38) dX8_troubleInSeeking_31 (by decide) (fun _ => ?_) (fun _ => ?_)
        · refine z_bipush (pc := 38) dX8_troubleInSeeking_38 zcb_m6 ?_
          exact z_iret (pc := 40) rfl dX8_troubleInSeeking_40
        · refine z_iconst (pc := 34) dX8_troubleInSeeking_34 zci_0 ?_
          refine z_goto (pc := 35) (tgt := 40) dX8_troubleInSeeking_35 (by decide) ?_
          exact z_iret (pc := 40) rfl dX8_troubleInSeeking_40

set_option maxRecDepth 20000 in
theorem c_X8_troubleInSeeking {D : va_G} {cI cL : ClassId} {b : Nat} {Z : State → Heap → Prop}  (a1 : Int32) (a2 : Int32) (a3 : Int32) (μ : z_M) : z_S (zEc D cI cL b Z) 1 yX8_troubleInSeeking cX8_troubleInSeeking 4 (some .int) z_ei [.ref (b + 0), .int a1, .int a2, .int a3] μ (z_oP μ (f_X8_troubleInSeeking a1 a2 a3 μ)) :=
  z_entry (yn := yX8_troubleInSeeking) (by decide) (Nat.le_of_ble_eq_true rfl) rfl (w_X8_troubleInSeeking_0 a1 a2 a3 μ)

def f_X8_odds (n : Nat) (a1 : Int32) (a2 : Int32) (a3 : Int32) (μ : z_M) : Option (Int64 × z_M) :=
  z_let ((f_X8_troubleInThought a1 a2 (f_X8_isCount a3 1 4 μ) μ) : Int32) (fun x1 => if x1 = 0 then (z_bind (f_X4_oddsToHear n a1 a2 a3 μ) (fun p2 => some (p2.1, p2.2))) else (z_let (f_X8_refuse x1 μ) (fun p3 => some ((Int32.toInt64 p3.1), p3.2))))
set_option maxRecDepth 20000 in
theorem w_X8_odds_0 {D : va_G} {cI cL : ClassId} {b : Nat} {Z : State → Heap → Prop}  (n : Nat) (a1 : Int32) (a2 : Int32) (a3 : Int32) (μ : z_M) : z_w (zEc D cI cL b Z) (RX8, cX8_odds, 5, (some .long), 6) z_el 0 [(0, .ref (b + 0)), (1, .int a1), (2, .int a2), (3, .int a3)] [] μ ((f_X8_odds n a1 a2 a3 μ)) := by
  unfold f_X8_odds
  refine z_aload_n (pc := 0) dX8_odds_0 rfl ?_
  refine z_iload_n (pc := 1) dX8_odds_1 rfl ?_
  refine z_iload_n (pc := 2) dX8_odds_2 rfl ?_
  refine z_iload_n (pc := 3) dX8_odds_3 rfl ?_
  refine z_iconst (pc := 4) dX8_odds_4 zci_1 ?_
  refine z_iconst (pc := 5) dX8_odds_5 zci_4 ?_
  refine z_callSi (pc := 6) (As := [.int a3, .int 1, .int 4]) (S := [.int a2, .int a1, .ref (b + 0)]) (c_X8_isCount a3 1 4 μ) rfl zw_X8_isCount zs_X8_isCount zm_X8_91 (n := 3) (by decide) rfl rfl (Nat.le_of_ble_eq_true rfl) (by decide) (by decide) dX8_odds_6 ?_
  refine z_callVi (pc := 9) (As := [.int a1, .int a2, .int (f_X8_isCount a3 1 4 μ)]) (S := []) (c_X8_troubleInThought a1 a2 (f_X8_isCount a3 1 4 μ) μ) rfl zw_X8_troubleInThought zv_X8_troubleInThought zm_X8_300 (n := 3) (by decide) rfl (z_recv gc_0 (T := TX8) (N := 11) rfl) rfl (Nat.le_of_ble_eq_true rfl) (by decide) (by decide) dX8_odds_9 ?_
  refine z_letIO (fun x1 => ?_)
  refine z_istore (pc := 12) (L' := [(0, .ref (b + 0)), (1, .int a1), (2, .int a2), (3, .int a3), (4, .int x1)]) dX8_odds_12 (by decide) rfl ?_
  refine z_iload (pc := 14) dX8_odds_14 rfl ?_
  refine z_if_ne (pc := 16) (tgt := 32) dX8_odds_16 (by decide) (fun _ => ?_) (fun _ => ?_)
  · refine z_aload_n (pc := 19) dX8_odds_19 rfl ?_
    refine zgR_X8_50 (pc := 20) gc_0 rfl dX8_odds_20 ?_
    refine z_iload_n (pc := 23) dX8_odds_23 rfl ?_
    refine z_iload_n (pc := 24) dX8_odds_24 rfl ?_
    refine z_iload_n (pc := 25) dX8_odds_25 rfl ?_
    refine z_bindP (fun p2 hp2 => ?_)
    refine z_callVl (pc := 26) (As := [.int a1, .int a2, .int a3]) (S := []) (c_X4_oddsToHear n a1 a2 a3 μ) hp2 zw_X4_oddsToHear zv_X4_oddsToHear zm_X8_304 (n := 3) (by decide) rfl (z_recv gc_42 (T := TX4) (N := 7) rfl) rfl (Nat.le_of_ble_eq_true rfl) (by decide) (by decide) dX8_odds_26 ?_
    refine z_goto (pc := 29) (tgt := 39) dX8_odds_29 (by decide) ?_
    exact z_lret (pc := 39) rfl dX8_odds_39
  · refine z_aload_n (pc := 32) dX8_odds_32 rfl ?_
    refine z_iload (pc := 33) dX8_odds_33 rfl ?_
    refine z_letPO (fun p3 hp3 => ?_)
    refine z_callVi (pc := 35) (As := [.int x1]) (S := []) (c_X8_refuse x1 μ) (z_pT hp3) zw_X8_refuse zv_X8_refuse zm_X8_88 (n := 1) (by decide) rfl (z_recv gc_0 (T := TX8) (N := 11) rfl) rfl (Nat.le_of_ble_eq_true rfl) (by decide) (by decide) dX8_odds_35 ?_
    refine z_i2l (pc := 38) dX8_odds_38 ?_
    exact z_lret (pc := 39) rfl dX8_odds_39

set_option maxRecDepth 20000 in
theorem c_X8_odds {D : va_G} {cI cL : ClassId} {b : Nat} {Z : State → Heap → Prop}  (n : Nat) (a1 : Int32) (a2 : Int32) (a3 : Int32) (μ : z_M) : z_S (zEc D cI cL b Z) 6 yX8_odds cX8_odds 5 (some .long) z_el [.ref (b + 0), .int a1, .int a2, .int a3] μ ((f_X8_odds n a1 a2 a3 μ)) :=
  z_entry (yn := yX8_odds) (by decide) (Nat.le_of_ble_eq_true rfl) rfl (w_X8_odds_0 n a1 a2 a3 μ)

def f_X8_shuts (n : Nat) (a1 : Int32) (a2 : Int32) (a3 : Int32) (μ : z_M) : Option (Int32 × z_M) :=
  z_let ((f_X8_troubleInThought a1 a2 (f_X8_isCount a3 1 4 μ) μ) : Int32) (fun x1 => if x1 = 0 then (z_bind (f_X4_fewestToShut n a1 a2 a3 μ) (fun p2 => some (p2.1, p2.2))) else (z_let (f_X8_refuse x1 μ) (fun p3 => some (p3.1, p3.2))))
set_option maxRecDepth 20000 in
theorem w_X8_shuts_0 {D : va_G} {cI cL : ClassId} {b : Nat} {Z : State → Heap → Prop}  (n : Nat) (a1 : Int32) (a2 : Int32) (a3 : Int32) (μ : z_M) : z_w (zEc D cI cL b Z) (RX8, cX8_shuts, 5, (some .int), 6) z_ei 0 [(0, .ref (b + 0)), (1, .int a1), (2, .int a2), (3, .int a3)] [] μ ((f_X8_shuts n a1 a2 a3 μ)) := by
  unfold f_X8_shuts
  refine z_aload_n (pc := 0) dX8_shuts_0 rfl ?_
  refine z_iload_n (pc := 1) dX8_shuts_1 rfl ?_
  refine z_iload_n (pc := 2) dX8_shuts_2 rfl ?_
  refine z_iload_n (pc := 3) dX8_shuts_3 rfl ?_
  refine z_iconst (pc := 4) dX8_shuts_4 zci_1 ?_
  refine z_iconst (pc := 5) dX8_shuts_5 zci_4 ?_
  refine z_callSi (pc := 6) (As := [.int a3, .int 1, .int 4]) (S := [.int a2, .int a1, .ref (b + 0)]) (c_X8_isCount a3 1 4 μ) rfl zw_X8_isCount zs_X8_isCount zm_X8_91 (n := 3) (by decide) rfl rfl (Nat.le_of_ble_eq_true rfl) (by decide) (by decide) dX8_shuts_6 ?_
  refine z_callVi (pc := 9) (As := [.int a1, .int a2, .int (f_X8_isCount a3 1 4 μ)]) (S := []) (c_X8_troubleInThought a1 a2 (f_X8_isCount a3 1 4 μ) μ) rfl zw_X8_troubleInThought zv_X8_troubleInThought zm_X8_300 (n := 3) (by decide) rfl (z_recv gc_0 (T := TX8) (N := 11) rfl) rfl (Nat.le_of_ble_eq_true rfl) (by decide) (by decide) dX8_shuts_9 ?_
  refine z_letIO (fun x1 => ?_)
  refine z_istore (pc := 12) (L' := [(0, .ref (b + 0)), (1, .int a1), (2, .int a2), (3, .int a3), (4, .int x1)]) dX8_shuts_12 (by decide) rfl ?_
  refine z_iload (pc := 14) dX8_shuts_14 rfl ?_
  refine z_if_ne (pc := 16) (tgt := 32) dX8_shuts_16 (by decide) (fun _ => ?_) (fun _ => ?_)
  · refine z_aload_n (pc := 19) dX8_shuts_19 rfl ?_
    refine zgR_X8_50 (pc := 20) gc_0 rfl dX8_shuts_20 ?_
    refine z_iload_n (pc := 23) dX8_shuts_23 rfl ?_
    refine z_iload_n (pc := 24) dX8_shuts_24 rfl ?_
    refine z_iload_n (pc := 25) dX8_shuts_25 rfl ?_
    refine z_bindP (fun p2 hp2 => ?_)
    refine z_callVi (pc := 26) (As := [.int a1, .int a2, .int a3]) (S := []) (c_X4_fewestToShut n a1 a2 a3 μ) hp2 zw_X4_fewestToShut zv_X4_fewestToShut zm_X8_308 (n := 3) (by decide) rfl (z_recv gc_42 (T := TX4) (N := 7) rfl) rfl (Nat.le_of_ble_eq_true rfl) (by decide) (by decide) dX8_shuts_26 ?_
    refine z_goto (pc := 29) (tgt := 38) dX8_shuts_29 (by decide) ?_
    exact z_iret (pc := 38) rfl dX8_shuts_38
  · refine z_aload_n (pc := 32) dX8_shuts_32 rfl ?_
    refine z_iload (pc := 33) dX8_shuts_33 rfl ?_
    refine z_letPO (fun p3 hp3 => ?_)
    refine z_callVi (pc := 35) (As := [.int x1]) (S := []) (c_X8_refuse x1 μ) (z_pT hp3) zw_X8_refuse zv_X8_refuse zm_X8_88 (n := 1) (by decide) rfl (z_recv gc_0 (T := TX8) (N := 11) rfl) rfl (Nat.le_of_ble_eq_true rfl) (by decide) (by decide) dX8_shuts_35 ?_
    exact z_iret (pc := 38) rfl dX8_shuts_38

set_option maxRecDepth 20000 in
theorem c_X8_shuts {D : va_G} {cI cL : ClassId} {b : Nat} {Z : State → Heap → Prop}  (n : Nat) (a1 : Int32) (a2 : Int32) (a3 : Int32) (μ : z_M) : z_S (zEc D cI cL b Z) 6 yX8_shuts cX8_shuts 5 (some .int) z_ei [.ref (b + 0), .int a1, .int a2, .int a3] μ ((f_X8_shuts n a1 a2 a3 μ)) :=
  z_entry (yn := yX8_shuts) (by decide) (Nat.le_of_ble_eq_true rfl) rfl (w_X8_shuts_0 n a1 a2 a3 μ)

def f_X8_reach (n : Nat) (a1 : Int32) (a2 : Int32) (μ : z_M) : Option (Int32 × z_M) :=
  z_let ((f_X8_troubleInThought a1 0 (f_X8_isCount a2 0 6 μ) μ) : Int32) (fun x1 => if x1 = 0 then (z_bind (f_X4_wordsInReach n a1 a2 μ) (fun p2 => some (p2.1, p2.2))) else (z_let (f_X8_refuse x1 μ) (fun p3 => some (p3.1, p3.2))))
set_option maxRecDepth 20000 in
theorem w_X8_reach_0 {D : va_G} {cI cL : ClassId} {b : Nat} {Z : State → Heap → Prop}  (n : Nat) (a1 : Int32) (a2 : Int32) (μ : z_M) : z_w (zEc D cI cL b Z) (RX8, cX8_reach, 4, (some .int), 6) z_ei 0 [(0, .ref (b + 0)), (1, .int a1), (2, .int a2)] [] μ ((f_X8_reach n a1 a2 μ)) := by
  unfold f_X8_reach
  refine z_aload_n (pc := 0) dX8_reach_0 rfl ?_
  refine z_iload_n (pc := 1) dX8_reach_1 rfl ?_
  refine z_iconst (pc := 2) dX8_reach_2 zci_0 ?_
  refine z_iload_n (pc := 3) dX8_reach_3 rfl ?_
  refine z_iconst (pc := 4) dX8_reach_4 zci_0 ?_
  refine z_bipush (pc := 5) dX8_reach_5 zcb_6 ?_
  refine z_callSi (pc := 7) (As := [.int a2, .int 0, .int 6]) (S := [.int 0, .int a1, .ref (b + 0)]) (c_X8_isCount a2 0 6 μ) rfl zw_X8_isCount zs_X8_isCount zm_X8_91 (n := 3) (by decide) rfl rfl (Nat.le_of_ble_eq_true rfl) (by decide) (by decide) dX8_reach_7 ?_
  refine z_callVi (pc := 10) (As := [.int a1, .int 0, .int (f_X8_isCount a2 0 6 μ)]) (S := []) (c_X8_troubleInThought a1 0 (f_X8_isCount a2 0 6 μ) μ) rfl zw_X8_troubleInThought zv_X8_troubleInThought zm_X8_300 (n := 3) (by decide) rfl (z_recv gc_0 (T := TX8) (N := 11) rfl) rfl (Nat.le_of_ble_eq_true rfl) (by decide) (by decide) dX8_reach_10 ?_
  refine z_letIO (fun x1 => ?_)
  refine z_istore_n (pc := 13) (L' := [(0, .ref (b + 0)), (1, .int a1), (2, .int a2), (3, .int x1)]) dX8_reach_13 (by decide) rfl ?_
  refine z_iload_n (pc := 14) dX8_reach_14 rfl ?_
  refine z_if_ne (pc := 15) (tgt := 30) dX8_reach_15 (by decide) (fun _ => ?_) (fun _ => ?_)
  · refine z_aload_n (pc := 18) dX8_reach_18 rfl ?_
    refine zgR_X8_50 (pc := 19) gc_0 rfl dX8_reach_19 ?_
    refine z_iload_n (pc := 22) dX8_reach_22 rfl ?_
    refine z_iload_n (pc := 23) dX8_reach_23 rfl ?_
    refine z_bindP (fun p2 hp2 => ?_)
    refine z_callVi (pc := 24) (As := [.int a1, .int a2]) (S := []) (c_X4_wordsInReach n a1 a2 μ) hp2 zw_X4_wordsInReach zv_X4_wordsInReach zm_X8_311 (n := 2) (by decide) rfl (z_recv gc_42 (T := TX4) (N := 7) rfl) rfl (Nat.le_of_ble_eq_true rfl) (by decide) (by decide) dX8_reach_24 ?_
    refine z_goto (pc := 27) (tgt := 35) dX8_reach_27 (by decide) ?_
    exact z_iret (pc := 35) rfl dX8_reach_35
  · refine z_aload_n (pc := 30) dX8_reach_30 rfl ?_
    refine z_iload_n (pc := 31) dX8_reach_31 rfl ?_
    refine z_letPO (fun p3 hp3 => ?_)
    refine z_callVi (pc := 32) (As := [.int x1]) (S := []) (c_X8_refuse x1 μ) (z_pT hp3) zw_X8_refuse zv_X8_refuse zm_X8_88 (n := 1) (by decide) rfl (z_recv gc_0 (T := TX8) (N := 11) rfl) rfl (Nat.le_of_ble_eq_true rfl) (by decide) (by decide) dX8_reach_32 ?_
    exact z_iret (pc := 35) rfl dX8_reach_35

set_option maxRecDepth 20000 in
theorem c_X8_reach {D : va_G} {cI cL : ClassId} {b : Nat} {Z : State → Heap → Prop}  (n : Nat) (a1 : Int32) (a2 : Int32) (μ : z_M) : z_S (zEc D cI cL b Z) 6 yX8_reach cX8_reach 4 (some .int) z_ei [.ref (b + 0), .int a1, .int a2] μ ((f_X8_reach n a1 a2 μ)) :=
  z_entry (yn := yX8_reach) (by decide) (Nat.le_of_ble_eq_true rfl) rfl (w_X8_reach_0 n a1 a2 μ)

def f_X8_first (n : Nat) (a1 : Int32) (a2 : Int32) (μ : z_M) : Option (Int32 × z_M) :=
  z_let ((f_X8_troubleInThought a1 a2 1 μ) : Int32) (fun x1 => if x1 = 0 then (z_bind (f_X4_fewestVisits n a1 a2 6 μ) (fun p2 => some (p2.1, p2.2))) else (z_let (f_X8_refuseApart x1 μ) (fun p3 => some (p3.1, p3.2))))
set_option maxRecDepth 20000 in
theorem w_X8_first_0 {D : va_G} {cI cL : ClassId} {b : Nat} {Z : State → Heap → Prop}  (n : Nat) (a1 : Int32) (a2 : Int32) (μ : z_M) : z_w (zEc D cI cL b Z) (RX8, cX8_first, 4, (some .int), 6) z_ei 0 [(0, .ref (b + 0)), (1, .int a1), (2, .int a2)] [] μ ((f_X8_first n a1 a2 μ)) := by
  unfold f_X8_first
  refine z_aload_n (pc := 0) dX8_first_0 rfl ?_
  refine z_iload_n (pc := 1) dX8_first_1 rfl ?_
  refine z_iload_n (pc := 2) dX8_first_2 rfl ?_
  refine z_iconst (pc := 3) dX8_first_3 zci_1 ?_
  refine z_callVi (pc := 4) (As := [.int a1, .int a2, .int 1]) (S := []) (c_X8_troubleInThought a1 a2 1 μ) rfl zw_X8_troubleInThought zv_X8_troubleInThought zm_X8_300 (n := 3) (by decide) rfl (z_recv gc_0 (T := TX8) (N := 11) rfl) rfl (Nat.le_of_ble_eq_true rfl) (by decide) (by decide) dX8_first_4 ?_
  refine z_letIO (fun x1 => ?_)
  refine z_istore_n (pc := 7) (L' := [(0, .ref (b + 0)), (1, .int a1), (2, .int a2), (3, .int x1)]) dX8_first_7 (by decide) rfl ?_
  refine z_iload_n (pc := 8) dX8_first_8 rfl ?_
  refine z_if_ne (pc := 9) (tgt := 26) dX8_first_9 (by decide) (fun _ => ?_) (fun _ => ?_)
  · refine z_aload_n (pc := 12) dX8_first_12 rfl ?_
    refine zgR_X8_50 (pc := 13) gc_0 rfl dX8_first_13 ?_
    refine z_iload_n (pc := 16) dX8_first_16 rfl ?_
    refine z_iload_n (pc := 17) dX8_first_17 rfl ?_
    refine z_bipush (pc := 18) dX8_first_18 zcb_6 ?_
    refine z_bindP (fun p2 hp2 => ?_)
    refine z_callVi (pc := 20) (As := [.int a1, .int a2, .int 6]) (S := []) (c_X4_fewestVisits n a1 a2 6 μ) hp2 zw_X4_fewestVisits zv_X4_fewestVisits zm_X8_314 (n := 3) (by decide) rfl (z_recv gc_42 (T := TX4) (N := 7) rfl) rfl (Nat.le_of_ble_eq_true rfl) (by decide) (by decide) dX8_first_20 ?_
    refine z_goto (pc := 23) (tgt := 31) dX8_first_23 (by decide) ?_
    exact z_iret (pc := 31) rfl dX8_first_31
  · refine z_aload_n (pc := 26) dX8_first_26 rfl ?_
    refine z_iload_n (pc := 27) dX8_first_27 rfl ?_
    refine z_letPO (fun p3 hp3 => ?_)
    refine z_callVi (pc := 28) (As := [.int x1]) (S := []) (c_X8_refuseApart x1 μ) (z_pT hp3) zw_X8_refuseApart zv_X8_refuseApart zm_X8_244 (n := 1) (by decide) rfl (z_recv gc_0 (T := TX8) (N := 11) rfl) rfl (Nat.le_of_ble_eq_true rfl) (by decide) (by decide) dX8_first_28 ?_
    exact z_iret (pc := 31) rfl dX8_first_31

set_option maxRecDepth 20000 in
theorem c_X8_first {D : va_G} {cI cL : ClassId} {b : Nat} {Z : State → Heap → Prop}  (n : Nat) (a1 : Int32) (a2 : Int32) (μ : z_M) : z_S (zEc D cI cL b Z) 6 yX8_first cX8_first 4 (some .int) z_ei [.ref (b + 0), .int a1, .int a2] μ ((f_X8_first n a1 a2 μ)) :=
  z_entry (yn := yX8_first) (by decide) (Nat.le_of_ble_eq_true rfl) rfl (w_X8_first_0 n a1 a2 μ)

def f_X8_status_b24 (n : Nat) (l1 : Int32) (μ : z_M) : Option (Int32 × z_M) :=
  if l1 = 7 then (some ((f_X0_howManyRan μ), μ)) else (z_bind (f_X6_count 1 n l1 μ) (fun p1 => some (p1.1, p1.2)))
def f_X8_status (n : Nat) (a1 : Int32) (μ : z_M) : Option (Int32 × z_M) :=
  if (10 : Int32) < a1 then (if (17 : Int32) < a1 then (f_X8_status_b24 n a1 μ) else (some ((g_get 49 8 (a1 - 10) μ), μ))) else (f_X8_status_b24 n a1 μ)
set_option maxRecDepth 20000 in
theorem w_X8_status_24 {D : va_G} {cI cL : ClassId} {b : Nat} {Z : State → Heap → Prop}  (n : Nat) (l1 : Int32) (μ : z_M) : z_w (zEc D cI cL b Z) (RX8, cX8_status, 2, (some .int), 5) z_ei 24 [(0, .ref (b + 0)), (1, .int l1)] [] μ ((f_X8_status_b24 n l1 μ)) := by
  unfold f_X8_status_b24
  refine z_iload_n (pc := 24) dX8_status_24 rfl ?_
  refine z_bipush (pc := 25) dX8_status_25 zcb_7 ?_
  refine z_icmp_ne (pc := 27) (tgt := 40) dX8_status_27 (by decide) (fun _ => ?_) (fun _ => ?_)
  · refine z_aload_n (pc := 30) dX8_status_30 rfl ?_
    refine zgR_X8_32 (pc := 31) gc_0 rfl dX8_status_31 ?_
    refine z_callVi (pc := 34) (As := []) (S := []) (c_X0_howManyRan μ) rfl zw_X0_howManyRan zv_X0_howManyRan zm_X8_348 (n := 0) (by decide) rfl (z_recv gc_28 (T := TX0) (N := 5) rfl) rfl (Nat.le_of_ble_eq_true rfl) (by decide) (by decide) dX8_status_34 ?_
    refine z_goto (pc := 37) (tgt := 48) dX8_status_37 (by decide) ?_
    exact z_iret (pc := 48) rfl dX8_status_48
  · refine z_aload_n (pc := 40) dX8_status_40 rfl ?_
    refine zgR_X8_10 (pc := 41) gc_0 rfl dX8_status_41 ?_
    refine z_iload_n (pc := 44) dX8_status_44 rfl ?_
    refine z_bindP (fun p1 hp1 => ?_)
    refine z_callVi (pc := 45) (As := [.int l1]) (S := []) (c_X6_count zstr_1 n l1 μ) hp1 zw_X6_count zv_X6_count zm_X8_351 (n := 1) (by decide) rfl (z_recv gc_1 (T := TX6) (N := 10) rfl) rfl (Nat.le_of_ble_eq_true rfl) (by decide) (by decide) dX8_status_45 ?_
    exact z_iret (pc := 48) rfl dX8_status_48

set_option maxRecDepth 20000 in
theorem w_X8_status_0 {D : va_G} {cI cL : ClassId} {b : Nat} {Z : State → Heap → Prop}  (n : Nat) (a1 : Int32) (μ : z_M) : z_w (zEc D cI cL b Z) (RX8, cX8_status, 2, (some .int), 5) z_ei 0 [(0, .ref (b + 0)), (1, .int a1)] [] μ ((f_X8_status n a1 μ)) := by
  unfold f_X8_status
  refine z_iload_n (pc := 0) dX8_status_0 rfl ?_
  refine z_bipush (pc := 1) dX8_status_1 zcb_10 ?_
  refine z_icmp_le (pc := 3) (tgt := 24) dX8_status_3 (by decide) (fun _ => ?_) (fun _ => ?_)
  · refine z_iload_n (pc := 6) dX8_status_6 rfl ?_
    refine z_bipush (pc := 7) dX8_status_7 zcb_17 ?_
    refine z_icmp_gt (pc := 9) (tgt := 24) dX8_status_9 (by decide) (fun _ => ?_) (fun _ => ?_)
    · exact w_X8_status_24 n a1 μ
    · refine z_aload_n (pc := 12) dX8_status_12 rfl ?_
      refine zgR_X8_68 (pc := 13) gc_0 rfl dX8_status_13 ?_
      refine z_iload_n (pc := 16) dX8_status_16 rfl ?_
      refine z_bipush (pc := 17) dX8_status_17 zcb_10 ?_
      refine z_isub (pc := 19) dX8_status_19 ?_
      refine z_callVi (pc := 20) (As := [.int (a1 - 10)]) (S := []) (g_X1_get gc_48 gc_49 (Nat.le_of_ble_eq_true rfl) (a1 - 10) μ) rfl zw_X1_get zv_X1_get zm_X8_80 (n := 1) (by decide) rfl (z_recv gc_48 (T := TX1) (N := 1) rfl) rfl (Nat.le_of_ble_eq_true rfl) (by decide) (by decide) dX8_status_20 ?_
      exact z_iret (pc := 23) rfl dX8_status_23
  · exact w_X8_status_24 n a1 μ

set_option maxRecDepth 20000 in
theorem c_X8_status {D : va_G} {cI cL : ClassId} {b : Nat} {Z : State → Heap → Prop}  (n : Nat) (a1 : Int32) (μ : z_M) : z_S (zEc D cI cL b Z) 5 yX8_status cX8_status 2 (some .int) z_ei [.ref (b + 0), .int a1] μ ((f_X8_status n a1 μ)) :=
  z_entry (yn := yX8_status) (by decide) (Nat.le_of_ble_eq_true rfl) rfl (w_X8_status_0 n a1 μ)

def f_X8_aim_b22 (n : Nat)  (μ : z_M) : Option (Int32 × z_M) :=
  z_let (f_X8_refuseApart (-1) μ) (fun p1 => some (p1.1, p1.2))
def f_X8_aim (n : Nat) (a1 : Int32) (a2 : Int32) (a3 : Int32) (a4 : Int32) (a5 : Int32) (μ : z_M) : Option (Int32 × z_M) :=
  if (f_X6_isHouse 1 a1 μ) = 0 then (f_X8_aim_b22 n μ) else (if (f_X6_isHouse 1 a2 μ) = 0 then (f_X8_aim_b22 n μ) else (z_let ((f_X8_troubleInSeeking a3 a4 a5 μ) : Int32) (fun x2 => if x2 = 0 then (z_bind (f_X4_quickest n (1 <<< (a1 &&& 31)) (1 <<< (a2 &&& 31)) a3 a4 0 μ) (fun p3 => some ((f_X4_told a5 p3.2), p3.2))) else (z_let (f_X8_refuseApart x2 μ) (fun p4 => some (p4.1, p4.2))))))
set_option maxRecDepth 20000 in
theorem w_X8_aim_22 {D : va_G} {cI cL : ClassId} {b : Nat} {Z : State → Heap → Prop}  (n : Nat)  (μ : z_M) : z_w (zEc D cI cL b Z) (RX8, cX8_aim, 7, (some .int), 6) z_ei 22 [(0, .ref (b + 0))] [] μ ((f_X8_aim_b22 n μ)) := by
  unfold f_X8_aim_b22
  refine z_aload_n (pc := 22) dX8_aim_22 rfl ?_
  refine z_iconst (pc := 23) dX8_aim_23 zci_m1 ?_
  refine z_letPO (fun p1 hp1 => ?_)
  refine z_callVi (pc := 24) (As := [.int (-1)]) (S := []) (c_X8_refuseApart (-1) μ) (z_pT hp1) zw_X8_refuseApart zv_X8_refuseApart zm_X8_244 (n := 1) (by decide) rfl (z_recv gc_0 (T := TX8) (N := 11) rfl) rfl (Nat.le_of_ble_eq_true rfl) (by decide) (by decide) dX8_aim_24 ?_
  exact z_iret (pc := 27) rfl dX8_aim_27

set_option maxRecDepth 20000 in
theorem w_X8_aim_0 {D : va_G} {cI cL : ClassId} {b : Nat} {Z : State → Heap → Prop}  (n : Nat) (a1 : Int32) (a2 : Int32) (a3 : Int32) (a4 : Int32) (a5 : Int32) (μ : z_M) : z_w (zEc D cI cL b Z) (RX8, cX8_aim, 7, (some .int), 6) z_ei 0 [(0, .ref (b + 0)), (1, .int a1), (2, .int a2), (3, .int a3), (4, .int a4), (5, .int a5)] [] μ ((f_X8_aim n a1 a2 a3 a4 a5 μ)) := by
  unfold f_X8_aim
  refine z_aload_n (pc := 0) dX8_aim_0 rfl ?_
  refine zgR_X8_10 (pc := 1) gc_0 rfl dX8_aim_1 ?_
  refine z_iload_n (pc := 4) dX8_aim_4 rfl ?_
  refine z_callVi (pc := 5) (As := [.int a1]) (S := []) (c_X6_isHouse zstr_1 a1 μ) rfl zw_X6_isHouse zv_X6_isHouse zm_X8_103 (n := 1) (by decide) rfl (z_recv gc_1 (T := TX6) (N := 10) rfl) rfl (Nat.le_of_ble_eq_true rfl) (by decide) (by decide) dX8_aim_5 ?_
  refine z_if_eq (pc := 8) (tgt := 22) dX8_aim_8 (by decide) (fun _ => ?_) (fun _ => ?_)
  · refine z_drop (L' := [(0, .ref (b + 0))]) [0] rfl ?_
    exact w_X8_aim_22 n μ
  · refine z_aload_n (pc := 11) dX8_aim_11 rfl ?_
    refine zgR_X8_10 (pc := 12) gc_0 rfl dX8_aim_12 ?_
    refine z_iload_n (pc := 15) dX8_aim_15 rfl ?_
    refine z_callVi (pc := 16) (As := [.int a2]) (S := []) (c_X6_isHouse zstr_1 a2 μ) rfl zw_X6_isHouse zv_X6_isHouse zm_X8_103 (n := 1) (by decide) rfl (z_recv gc_1 (T := TX6) (N := 10) rfl) rfl (Nat.le_of_ble_eq_true rfl) (by decide) (by decide) dX8_aim_16 ?_
    refine z_if_ne (pc := 19) (tgt := 28) dX8_aim_19 (by decide) (fun _ => ?_) (fun _ => ?_)
    · refine z_drop (L' := [(0, .ref (b + 0))]) [0] rfl ?_
      exact w_X8_aim_22 n μ
    · refine z_aload_n (pc := 28) dX8_aim_28 rfl ?_
      refine z_iload_n (pc := 29) dX8_aim_29 rfl ?_
      refine z_iload (pc := 30) dX8_aim_30 rfl ?_
      refine z_iload (pc := 32) dX8_aim_32 rfl ?_
      refine z_callVi (pc := 34) (As := [.int a3, .int a4, .int a5]) (S := []) (c_X8_troubleInSeeking a3 a4 a5 μ) rfl zw_X8_troubleInSeeking zv_X8_troubleInSeeking zm_X8_274 (n := 3) (by decide) rfl (z_recv gc_0 (T := TX8) (N := 11) rfl) rfl (Nat.le_of_ble_eq_true rfl) (by decide) (by decide) dX8_aim_34 ?_
      refine z_letIO (fun x2 => ?_)
      refine z_istore (pc := 37) (L' := [(0, .ref (b + 0)), (1, .int a1), (2, .int a2), (3, .int a3), (4, .int a4), (5, .int a5), (6, .int x2)]) dX8_aim_37 (by decide) rfl ?_
      refine z_iload (pc := 39) dX8_aim_39 rfl ?_
      refine z_if_ne (pc := 41) (tgt := 69) dX8_aim_41 (by decide) (fun _ => ?_) (fun _ => ?_)
      · refine z_aload_n (pc := 44) dX8_aim_44 rfl ?_
        refine zgR_X8_50 (pc := 45) gc_0 rfl dX8_aim_45 ?_
        refine z_iconst (pc := 48) dX8_aim_48 zci_1 ?_
        refine z_iload_n (pc := 49) dX8_aim_49 rfl ?_
        refine z_ishl (pc := 50) dX8_aim_50 ?_
        refine z_iconst (pc := 51) dX8_aim_51 zci_1 ?_
        refine z_iload_n (pc := 52) dX8_aim_52 rfl ?_
        refine z_ishl (pc := 53) dX8_aim_53 ?_
        refine z_iload_n (pc := 54) dX8_aim_54 rfl ?_
        refine z_iload (pc := 55) dX8_aim_55 rfl ?_
        refine z_iconst (pc := 57) dX8_aim_57 zci_0 ?_
        refine z_bindP (fun p3 hp3 => ?_)
        refine z_callVo (pc := 58) (As := [.int (1 <<< (a1 &&& 31)), .int (1 <<< (a2 &&& 31)), .int a3, .int a4, .int 0]) (S := []) (c_X4_quickest n (1 <<< (a1 &&& 31)) (1 <<< (a2 &&& 31)) a3 a4 0 μ) hp3 zw_X4_quickest zv_X4_quickest zm_X8_277 (n := 5) (by decide) rfl (z_recv gc_42 (T := TX4) (N := 7) rfl) rfl (Nat.le_of_ble_eq_true rfl) (by decide) (by decide) dX8_aim_58 ?_
        refine z_iload (pc := 61) dX8_aim_61 rfl ?_
        refine z_callVi (pc := 63) (As := [.int a5]) (S := []) (c_X4_told a5 p3.2) rfl zw_X4_told zv_X4_told zm_X8_281 (n := 1) (by decide) rfl (z_recv gc_42 (T := TX4) (N := 7) rfl) rfl (Nat.le_of_ble_eq_true rfl) (by decide) (by decide) dX8_aim_63 ?_
        refine z_goto (pc := 66) (tgt := 75) dX8_aim_66 (by decide) ?_
        exact z_iret (pc := 75) rfl dX8_aim_75
      · refine z_aload_n (pc := 69) dX8_aim_69 rfl ?_
        refine z_iload (pc := 70) dX8_aim_70 rfl ?_
        refine z_letPO (fun p4 hp4 => ?_)
        refine z_callVi (pc := 72) (As := [.int x2]) (S := []) (c_X8_refuseApart x2 μ) (z_pT hp4) zw_X8_refuseApart zv_X8_refuseApart zm_X8_244 (n := 1) (by decide) rfl (z_recv gc_0 (T := TX8) (N := 11) rfl) rfl (Nat.le_of_ble_eq_true rfl) (by decide) (by decide) dX8_aim_72 ?_
        exact z_iret (pc := 75) rfl dX8_aim_75

set_option maxRecDepth 20000 in
theorem c_X8_aim {D : va_G} {cI cL : ClassId} {b : Nat} {Z : State → Heap → Prop}  (n : Nat) (a1 : Int32) (a2 : Int32) (a3 : Int32) (a4 : Int32) (a5 : Int32) (μ : z_M) : z_S (zEc D cI cL b Z) 6 yX8_aim cX8_aim 7 (some .int) z_ei [.ref (b + 0), .int a1, .int a2, .int a3, .int a4, .int a5] μ ((f_X8_aim n a1 a2 a3 a4 a5 μ)) :=
  z_entry (yn := yX8_aim) (by decide) (Nat.le_of_ble_eq_true rfl) rfl (w_X8_aim_0 n a1 a2 a3 a4 a5 μ)
