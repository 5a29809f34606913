def f_X5_isShelf (a1 : Int32) (μ : z_M) : Int32 :=
  if a1 < 0 then (0) else (if a1 < 8 then (1) else (0))
set_option maxRecDepth 20000 in
theorem w_X5_isShelf_0 {D : va_G} {cI cL : ClassId} {b : Nat} {Z : State → Heap → Prop}  (a1 : Int32) (μ : z_M) : z_w (zEc D cI cL b Z) (RX5, cX5_isShelf, 2, (some .boolean), 0) z_ei 0 [(0, .ref (b + 22)), (1, .int a1)] [] μ (z_oP μ (f_X5_isShelf a1 μ)) := by
  unfold f_X5_isShelf
  refine z_iload_n (pc := 0) dX5_isShelf_0 rfl ?_
  refine z_outIf ?_
  refine z_if_lt (pc := 1) (tgt := 14) dX5_isShelf_1 (by decide) (fun _ => ?_) (fun _ => ?_)
  · refine z_iconst (pc := 14) dX5_isShelf_14 zci_0 ?_
    exact z_zret (pc := 15) rfl dX5_isShelf_15 (by decide)
  · refine z_iload_n (pc := 4) dX5_isShelf_4 rfl ?_
    refine z_bipush (pc := 5) dX5_isShelf_5 zcb_8 ?_
    refine z_outIf ?_
    refine z_icmp_ge (pc := 7) (tgt := 14) dX5_isShelf_7 (by decide) (fun _ => ?_) (fun _ => ?_)
    · refine z_iconst (pc := 10) dX5_isShelf_10 zci_1 ?_
      refine z_goto (pc := 11) (tgt := 15) dX5_isShelf_11 (by decide) ?_
      exact z_zret (pc := 15) rfl dX5_isShelf_15 (by decide)
    · refine z_iconst (pc := 14) dX5_isShelf_14 zci_0 ?_
      exact z_zret (pc := 15) rfl dX5_isShelf_15 (by decide)

set_option maxRecDepth 20000 in
theorem c_X5_isShelf {D : va_G} {cI cL : ClassId} {b : Nat} {Z : State → Heap → Prop}  (a1 : Int32) (μ : z_M) : z_S (zEc D cI cL b Z) 0 yX5_isShelf cX5_isShelf 2 (some .boolean) z_ei [.ref (b + 22), .int a1] μ (z_oP μ (f_X5_isShelf a1 μ)) :=
  z_entry (yn := yX5_isShelf) (by decide) (Nat.le_of_ble_eq_true rfl) rfl (w_X5_isShelf_0 a1 μ)
set_option maxRecDepth 20000 in
theorem bl_X5_isShelf (a1 : Int32) (μ : z_M) : f_X5_isShelf a1 μ = 0 ∨ f_X5_isShelf a1 μ = 1 := by
  unfold f_X5_isShelf
  repeat' (first | with_reducible exact z_bl0 | with_reducible exact z_bl1 | with_reducible refine z_blI ?_ ?_ | with_reducible refine z_blL (fun _ => ?_))

def f_X5_isSort (a1 : Int32) (μ : z_M) : Int32 :=
  if a1 < 0 then (0) else (if a1 < 4 then (1) else (0))
set_option maxRecDepth 20000 in
theorem w_X5_isSort_0 {D : va_G} {cI cL : ClassId} {b : Nat} {Z : State → Heap → Prop}  (a1 : Int32) (μ : z_M) : z_w (zEc D cI cL b Z) (RX5, cX5_isSort, 2, (some .boolean), 0) z_ei 0 [(0, .ref (b + 22)), (1, .int a1)] [] μ (z_oP μ (f_X5_isSort a1 μ)) := by
  unfold f_X5_isSort
  refine z_iload_n (pc := 0) dX5_isSort_0 rfl ?_
  refine z_outIf ?_
  refine z_if_lt (pc := 1) (tgt := 13) dX5_isSort_1 (by decide) (fun _ => ?_) (fun _ => ?_)
  · refine z_iconst (pc := 13) dX5_isSort_13 zci_0 ?_
    exact z_zret (pc := 14) rfl dX5_isSort_14 (by decide)
  · refine z_iload_n (pc := 4) dX5_isSort_4 rfl ?_
    refine z_iconst (pc := 5) dX5_isSort_5 zci_4 ?_
    refine z_outIf ?_
    refine z_icmp_ge (pc := 6) (tgt := 13) dX5_isSort_6 (by decide) (fun _ => ?_) (fun _ => ?_)
    · refine z_iconst (pc := 9) dX5_isSort_9 zci_1 ?_
      refine z_goto (pc := 10) (tgt := 14) dX5_isSort_10 (by decide) ?_
      exact z_zret (pc := 14) rfl dX5_isSort_14 (by decide)
    · refine z_iconst (pc := 13) dX5_isSort_13 zci_0 ?_
      exact z_zret (pc := 14) rfl dX5_isSort_14 (by decide)

set_option maxRecDepth 20000 in
theorem c_X5_isSort {D : va_G} {cI cL : ClassId} {b : Nat} {Z : State → Heap → Prop}  (a1 : Int32) (μ : z_M) : z_S (zEc D cI cL b Z) 0 yX5_isSort cX5_isSort 2 (some .boolean) z_ei [.ref (b + 22), .int a1] μ (z_oP μ (f_X5_isSort a1 μ)) :=
  z_entry (yn := yX5_isSort) (by decide) (Nat.le_of_ble_eq_true rfl) rfl (w_X5_isSort_0 a1 μ)
set_option maxRecDepth 20000 in
theorem bl_X5_isSort (a1 : Int32) (μ : z_M) : f_X5_isSort a1 μ = 0 ∨ f_X5_isSort a1 μ = 1 := by
  unfold f_X5_isSort
  repeat' (first | with_reducible exact z_bl0 | with_reducible exact z_bl1 | with_reducible refine z_blI ?_ ?_ | with_reducible refine z_blL (fun _ => ?_))

def f_X5_isRow (a0 : Int32) (μ : z_M) : Int32 :=
  if a0 < 100 then (0) else (1)
set_option maxRecDepth 20000 in
theorem w_X5_isRow_0 {D : va_G} {cI cL : ClassId} {b : Nat} {Z : State → Heap → Prop}  (a0 : Int32) (μ : z_M) : z_w (zEc D cI cL b Z) (RX5, cX5_isRow, 1, (some .boolean), 0) z_ei 0 [(0, .int a0)] [] μ (z_oP μ (f_X5_isRow a0 μ)) := by
  unfold f_X5_isRow
  refine z_iload_n (pc := 0) dX5_isRow_0 rfl ?_
  refine z_bipush (pc := 1) dX5_isRow_1 zcb_100 ?_
  refine z_outIf ?_
  refine z_icmp_lt (pc := 3) (tgt := 10) dX5_isRow_3 (by decide) (fun _ => ?_) (fun _ => ?_)
  · refine z_iconst (pc := 10) dX5_isRow_10 zci_0 ?_
    exact z_zret (pc := 11) rfl dX5_isRow_11 (by decide)
  · refine z_iconst (pc := 6) dX5_isRow_6 zci_1 ?_
    refine z_goto (pc := 7) (tgt := 11) dX5_isRow_7 (by decide) ?_
    exact z_zret (pc := 11) rfl dX5_isRow_11 (by decide)

set_option maxRecDepth 20000 in
theorem c_X5_isRow {D : va_G} {cI cL : ClassId} {b : Nat} {Z : State → Heap → Prop}  (a0 : Int32) (μ : z_M) : z_S (zEc D cI cL b Z) 0 yX5_isRow cX5_isRow 1 (some .boolean) z_ei [.int a0] μ (z_oP μ (f_X5_isRow a0 μ)) :=
  z_entry (yn := yX5_isRow) (by decide) (Nat.le_of_ble_eq_true rfl) rfl (w_X5_isRow_0 a0 μ)
set_option maxRecDepth 20000 in
theorem bl_X5_isRow (a0 : Int32) (μ : z_M) : f_X5_isRow a0 μ = 0 ∨ f_X5_isRow a0 μ = 1 := by
  unfold f_X5_isRow
  repeat' (first | with_reducible exact z_bl0 | with_reducible exact z_bl1 | with_reducible refine z_blI ?_ ?_ | with_reducible refine z_blL (fun _ => ?_))

def f_X5_isHouse (a0 : Int32) (μ : z_M) : Int32 :=
  if a0 = (-1) then (0) else (if (f_X5_isRow a0 μ) = 0 then (1) else (0))
set_option maxRecDepth 20000 in
theorem w_X5_isHouse_0 {D : va_G} {cI cL : ClassId} {b : Nat} {Z : State → Heap → Prop}  (a0 : Int32) (μ : z_M) : z_w (zEc D cI cL b Z) (RX5, cX5_isHouse, 1, (some .boolean), 1) z_ei 0 [(0, .int a0)] [] μ (z_oP μ (f_X5_isHouse a0 μ)) := by
  unfold f_X5_isHouse
  refine z_iload_n (pc := 0) dX5_isHouse_0 rfl ?_
  refine z_iconst (pc := 1) dX5_isHouse_1 zci_m1 ?_
  refine z_outIf ?_
  refine z_icmp_eq (pc := 2) (tgt := 16) dX5_isHouse_2 (by decide) (fun _ => ?_) (fun _ => ?_)
  · refine z_iconst (pc := 16) dX5_isHouse_16 zci_0 ?_
    exact z_zret (pc := 17) rfl dX5_isHouse_17 (by decide)
  · refine z_iload_n (pc := 5) dX5_isHouse_5 rfl ?_
    refine z_callSi (pc := 6) (As := [.int a0]) (S := []) (c_X5_isRow a0 μ) rfl zw_X5_isRow zs_X5_isRow zm_X5_39 (n := 1) (by decide) rfl rfl (Nat.le_of_ble_eq_true rfl) (by decide) (by decide) dX5_isHouse_6 ?_
    refine z_outIf ?_
    refine z_if_ne (pc := 9) (tgt := 16) dX5_isHouse_9 (by decide) (fun _ => ?_) (fun _ => ?_)
    · refine z_iconst (pc := 12) dX5_isHouse_12 zci_1 ?_
      refine z_goto (pc := 13) (tgt := 17) dX5_isHouse_13 (by decide) ?_
      exact z_zret (pc := 17) rfl dX5_isHouse_17 (by decide)
    · refine z_iconst (pc := 16) dX5_isHouse_16 zci_0 ?_
      exact z_zret (pc := 17) rfl dX5_isHouse_17 (by decide)

set_option maxRecDepth 20000 in
theorem c_X5_isHouse {D : va_G} {cI cL : ClassId} {b : Nat} {Z : State → Heap → Prop}  (a0 : Int32) (μ : z_M) : z_S (zEc D cI cL b Z) 1 yX5_isHouse cX5_isHouse 1 (some .boolean) z_ei [.int a0] μ (z_oP μ (f_X5_isHouse a0 μ)) :=
  z_entry (yn := yX5_isHouse) (by decide) (Nat.le_of_ble_eq_true rfl) rfl (w_X5_isHouse_0 a0 μ)
set_option maxRecDepth 20000 in
theorem bl_X5_isHouse (a0 : Int32) (μ : z_M) : f_X5_isHouse a0 μ = 0 ∨ f_X5_isHouse a0 μ = 1 := by
  unfold f_X5_isHouse
  repeat' (first | with_reducible exact z_bl0 | with_reducible exact z_bl1 | with_reducible apply bl_X5_isRow | with_reducible refine z_blI ?_ ?_ | with_reducible refine z_blL (fun _ => ?_))

def f_X5_troubleWithTwoRows (a1 : Int32) (a2 : Int32) (μ : z_M) : Int32 :=
  if (f_X5_isShelf a1 μ) = 0 then ((-1)) else (if (f_X5_isShelf a2 μ) = 0 then ((-1)) else (z_let ((g_get 25 8 a1 μ) : Int32) (fun x1 => z_let ((g_get 25 8 a2 μ) : Int32) (fun x2 => if (f_X5_isHouse x1 μ) = 0 then (if (f_X5_isHouse x2 μ) = 0 then (if x1 = (-1) then ((-3)) else (if x2 = (-1) then ((-3)) else (if x1 = x2 then (0) else ((-2))))) else ((-2))) else ((-2))))))
set_option maxRecDepth 20000 in
theorem w_X5_troubleWithTwoRows_0 {D : va_G} {cI cL : ClassId} {b : Nat} {Z : State → Heap → Prop}  (a1 : Int32) (a2 : Int32) (μ : z_M) : z_w (zEc D cI cL b Z) (RX5, cX5_troubleWithTwoRows, 5, (some .int), 2) z_ei 0 [(0, .ref (b + 22)), (1, .int a1), (2, .int a2)] [] μ (z_oP μ (f_X5_troubleWithTwoRows a1 a2 μ)) := by
  unfold f_X5_troubleWithTwoRows
  refine z_aload_n (pc := 0) dX5_troubleWithTwoRows_0 rfl ?_
  refine z_iload_n (pc := 1) dX5_troubleWithTwoRows_1 rfl ?_
  refine z_callVi (pc := 2) (As := [.int a1]) (S := []) (c_X5_isShelf a1 μ) rfl zw_X5_isShelf zv_X5_isShelf zm_X5_31 (n := 1) (by decide) rfl (z_recv gc_22 (T := TX5) (N := 3) rfl) rfl (Nat.le_of_ble_eq_true rfl) (by decide) (by decide) dX5_troubleWithTwoRows_2 ?_
  refine z_outIf ?_
  refine z_if_eq (pc := 5) (tgt := 16) dX5_troubleWithTwoRows_5 (by decide) (fun _ => ?_) (fun _ => ?_)
  · refine z_iconst (pc := 16) dX5_troubleWithTwoRows_16 zci_m1 ?_
    exact z_iret (pc := 17) rfl dX5_troubleWithTwoRows_17
  · refine z_aload_n (pc := 8) dX5_troubleWithTwoRows_8 rfl ?_
    refine z_iload_n (pc := 9) dX5_troubleWithTwoRows_9 rfl ?_
    refine z_callVi (pc := 10) (As := [.int a2]) (S := []) (c_X5_isShelf a2 μ) rfl zw_X5_isShelf zv_X5_isShelf zm_X5_31 (n := 1) (by decide) rfl (z_recv gc_22 (T := TX5) (N := 3) rfl) rfl (Nat.le_of_ble_eq_true rfl) (by decide) (by decide) dX5_troubleWithTwoRows_10 ?_
    refine z_outIf ?_
    refine z_if_ne (pc := 13) (tgt := 18) dX5_troubleWithTwoRows_13 (by decide) (fun _ => ?_) (fun _ => ?_)
    · refine z_iconst (pc := 16) dX5_troubleWithTwoRows_16 zci_m1 ?_
      exact z_iret (pc := 17) rfl dX5_troubleWithTwoRows_17
    · refine z_aload_n (pc := 18) dX5_troubleWithTwoRows_18 rfl ?_
      refine zgR_X5_20 (pc := 19) gc_22 rfl dX5_troubleWithTwoRows_19 ?_
      refine z_iload_n (pc := 22) dX5_troubleWithTwoRows_22 rfl ?_
      refine z_callVi (pc := 23) (As := [.int a1]) (S := []) (g_X1_get gc_24 gc_25 (Nat.le_of_ble_eq_true rfl) a1 μ) rfl zw_X1_get zv_X1_get zm_X5_35 (n := 1) (by decide) rfl (z_recv gc_24 (T := TX1) (N := 1) rfl) rfl (Nat.le_of_ble_eq_true rfl) (by decide) (by decide) dX5_troubleWithTwoRows_23 ?_
      refine z_letI (fun x1 => ?_)
      refine z_istore_n (pc := 26) (L' := [(0, .ref (b + 22)), (1, .int a1), (2, .int a2), (3, .int x1)]) dX5_troubleWithTwoRows_26 (by decide) rfl ?_
      refine z_aload_n (pc := 27) dX5_troubleWithTwoRows_27 rfl ?_
      refine zgR_X5_20 (pc := 28) gc_22 rfl dX5_troubleWithTwoRows_28 ?_
      refine z_iload_n (pc := 31) dX5_troubleWithTwoRows_31 rfl ?_
      refine z_callVi (pc := 32) (As := [.int a2]) (S := []) (g_X1_get gc_24 gc_25 (Nat.le_of_ble_eq_true rfl) a2 μ) rfl zw_X1_get zv_X1_get zm_X5_35 (n := 1) (by decide) rfl (z_recv gc_24 (T := TX1) (N := 1) rfl) rfl (Nat.le_of_ble_eq_true rfl) (by decide) (by decide) dX5_troubleWithTwoRows_32 ?_
      refine z_letI (fun x2 => ?_)
      refine z_istore (pc := 35) (L' := [(0, .ref (b + 22)), (1, .int a1), (2, .int a2), (3, .int x1), (4, .int x2)]) dX5_troubleWithTwoRows_35 (by decide) rfl ?_
      refine z_iload_n (pc := 37) dX5_troubleWithTwoRows_37 rfl ?_
      refine z_callSi (pc := 38) (As := [.int x1]) (S := []) (c_X5_isHouse x1 μ) rfl zw_X5_isHouse zs_X5_isHouse zm_X5_46 (n := 1) (by decide) rfl rfl (Nat.le_of_ble_eq_true rfl) (by decide) (by decide) dX5_troubleWithTwoRows_38 ?_
      refine z_outIf ?_
      refine z_if_ne (pc := 41) (tgt := 52) dX5_troubleWithTwoRows_41 (by decide) (fun _ => ?_) (fun _ => ?_)
      · refine z_iload (pc := 44) dX5_troubleWithTwoRows_44 rfl ?_
        refine z_callSi (pc := 46) (As := [.int x2]) (S := []) (c_X5_isHouse x2 μ) rfl zw_X5_isHouse zs_X5_isHouse zm_X5_46 (n := 1) (by decide) rfl rfl (Nat.le_of_ble_eq_true rfl) (by decide) (by decide) dX5_troubleWithTwoRows_46 ?_
        refine z_outIf ?_
        refine z_if_eq (pc := 49) (tgt := 55) dX5_troubleWithTwoRows_49 (by decide) (fun _ => ?_) (fun _ => ?_)
        · refine z_iload_n (pc := 55) dX5_troubleWithTwoRows_55 rfl ?_
          refine z_iconst (pc := 56) dX5_troubleWithTwoRows_56 zci_m1 ?_
          refine z_outIf ?_
          refine z_icmp_eq (pc := 57) (tgt := 66) dX5_troubleWithTwoRows_57 (by decide) (fun _ => ?_) (fun _ => ?_)
          · refine z_bipush (pc := 66) dX5_troubleWithTwoRows_66 zcb_m3 ?_
            exact z_iret (pc := 68) rfl dX5_troubleWithTwoRows_68
          · refine z_iload (pc := 60) dX5_troubleWithTwoRows_60 rfl ?_
            refine z_iconst (pc := 62) dX5_troubleWithTwoRows_62 zci_m1 ?_
            refine z_outIf ?_
            refine z_icmp_ne (pc := 63) (tgt := 69) dX5_troubleWithTwoRows_63 (by decide) (fun _ => ?_) (fun _ => ?_)
            · refine z_bipush (pc := 66) dX5_troubleWithTwoRows_66 zcb_m3 ?_
              exact z_iret (pc := 68) rfl dX5_troubleWithTwoRows_68
            · refine z_iload_n (pc := 69) dX5_troubleWithTwoRows_69 rfl ?_
              refine z_iload (pc := 70) dX5_troubleWithTwoRows_70 rfl ?_
              refine z_outIf ?_
              refine z_icmp_ne (pc := 72) (tgt := 79) dX5_troubleWithTwoRows_72 (by decide) (fun _ => ?_) (fun _ => ?_)
              · refine z_iconst (pc := 75) dX5_troubleWithTwoRows_75 zci_0 ?_
                refine z_goto (pc := 76) (tgt := 81) dX5_troubleWithTwoRows_76 (by decide) ?_
                exact z_iret (pc := 81) rfl dX5_troubleWithTwoRows_81
              · refine z_bipush (pc := 79) dX5_troubleWithTwoRows_79 zcb_m2 ?_
                exact z_iret (pc := 81) rfl dX5_troubleWithTwoRows_81
        · refine z_bipush (pc := 52) dX5_troubleWithTwoRows_52 zcb_m2 ?_
          exact z_iret (pc := 54) rfl dX5_troubleWithTwoRows_54
      · refine z_bipush (pc := 52) dX5_troubleWithTwoRows_52 zcb_m2 ?_
        exact z_iret (pc := 54) rfl dX5_troubleWithTwoRows_54

set_option maxRecDepth 20000 in
theorem c_X5_troubleWithTwoRows {D : va_G} {cI cL : ClassId} {b : Nat} {Z : State → Heap → Prop}  (a1 : Int32) (a2 : Int32) (μ : z_M) : z_S (zEc D cI cL b Z) 2 yX5_troubleWithTwoRows cX5_troubleWithTwoRows 5 (some .int) z_ei [.ref (b + 22), .int a1, .int a2] μ (z_oP μ (f_X5_troubleWithTwoRows a1 a2 μ)) :=
  z_entry (yn := yX5_troubleWithTwoRows) (by decide) (Nat.le_of_ble_eq_true rfl) rfl (w_X5_troubleWithTwoRows_0 a1 a2 μ)

def f_X5_hasElement (a1 : Int32) (a2 : Int32) (μ : z_M) : Int32 :=
  if a2 < 0 then (0) else (if a2 < (g_get 27 8 a1 μ) then (1) else (0))
set_option maxRecDepth 20000 in
theorem w_X5_hasElement_0 {D : va_G} {cI cL : ClassId} {b : Nat} {Z : State → Heap → Prop}  (a1 : Int32) (a2 : Int32) (μ : z_M) : z_w (zEc D cI cL b Z) (RX5, cX5_hasElement, 3, (some .boolean), 1) z_ei 0 [(0, .ref (b + 22)), (1, .int a1), (2, .int a2)] [] μ (z_oP μ (f_X5_hasElement a1 a2 μ)) := by
  unfold f_X5_hasElement
  refine z_iload_n (pc := 0) dX5_hasElement_0 rfl ?_
  refine z_outIf ?_
  refine z_if_lt (pc := 1) (tgt := 20) dX5_hasElement_1 (by decide) (fun _ => ?_) (fun _ => ?_)
  · refine z_iconst (pc := 20) dX5_hasElement_20 zci_0 ?_
    exact z_zret (pc := 21) rfl dX5_hasElement_21 (by decide)
  · refine z_iload_n (pc := 4) dX5_hasElement_4 rfl ?_
    refine z_aload_n (pc := 5) dX5_hasElement_5 rfl ?_
    refine zgR_X5_24 (pc := 6) gc_22 rfl dX5_hasElement_6 ?_
    refine z_iload_n (pc := 9) dX5_hasElement_9 rfl ?_
    refine z_callVi (pc := 10) (As := [.int a1]) (S := [.int a2]) (g_X1_get gc_26 gc_27 (Nat.le_of_ble_eq_true rfl) a1 μ) rfl zw_X1_get zv_X1_get zm_X5_35 (n := 1) (by decide) rfl (z_recv gc_26 (T := TX1) (N := 1) rfl) rfl (Nat.le_of_ble_eq_true rfl) (by decide) (by decide) dX5_hasElement_10 ?_
    refine z_outIf ?_
    refine z_icmp_ge (pc := 13) (tgt := 20) dX5_hasElement_13 (by decide) (fun _ => ?_) (fun _ => ?_)
    · refine z_iconst (pc := 16) dX5_hasElement_16 zci_1 ?_
      refine z_goto (pc := 17) (tgt := 21) dX5_hasElement_17 (by decide) ?_
      exact z_zret (pc := 21) rfl dX5_hasElement_21 (by decide)
    · refine z_iconst (pc := 20) dX5_hasElement_20 zci_0 ?_
      exact z_zret (pc := 21) rfl dX5_hasElement_21 (by decide)

set_option maxRecDepth 20000 in
theorem c_X5_hasElement {D : va_G} {cI cL : ClassId} {b : Nat} {Z : State → Heap → Prop}  (a1 : Int32) (a2 : Int32) (μ : z_M) : z_S (zEc D cI cL b Z) 1 yX5_hasElement cX5_hasElement 3 (some .boolean) z_ei [.ref (b + 22), .int a1, .int a2] μ (z_oP μ (f_X5_hasElement a1 a2 μ)) :=
  z_entry (yn := yX5_hasElement) (by decide) (Nat.le_of_ble_eq_true rfl) rfl (w_X5_hasElement_0 a1 a2 μ)
set_option maxRecDepth 20000 in
theorem bl_X5_hasElement (a1 : Int32) (a2 : Int32) (μ : z_M) : f_X5_hasElement a1 a2 μ = 0 ∨ f_X5_hasElement a1 a2 μ = 1 := by
  unfold f_X5_hasElement
  repeat' (first | with_reducible exact z_bl0 | with_reducible exact z_bl1 | with_reducible refine z_blI ?_ ?_ | with_reducible refine z_blL (fun _ => ?_))

def f_X5_elementAt_b35 (l3 : Int32) (s0 : Int32) (μ : z_M) : Option (Int64 × z_M) :=
  if s0 = 0 then (some (0, μ)) else (z_chk l3 1280 (some ((μ.2 23 (z_ix l3)), μ)))
def f_X5_elementAt_b34 (l3 : Int32) (μ : z_M) : Option (Int64 × z_M) :=
  f_X5_elementAt_b35 l3 0 μ
def f_X5_elementAt (a1 : Int32) (a2 : Int32) (μ : z_M) : Option (Int64 × z_M) :=
  z_let (((a1 * 160) + a2) : Int32) (fun x1 => if (f_X5_hasElement a1 a2 μ) = 0 then (f_X5_elementAt_b34 x1 μ) else (if x1 < 0 then (f_X5_elementAt_b34 x1 μ) else (if x1 < 1280 then (f_X5_elementAt_b35 x1 1 μ) else (f_X5_elementAt_b34 x1 μ))))
set_option maxRecDepth 20000 in
theorem w_X5_elementAt_35 {D : va_G} {cI cL : ClassId} {b : Nat} {Z : State → Heap → Prop}  (l3 : Int32) (s0 : Int32) (μ : z_M) : z_w (zEc D cI cL b Z) (RX5, cX5_elementAt, 5, (some .long), 2) z_el 35 [(0, .ref (b + 22)), (3, .int l3)] [.int s0] μ ((f_X5_elementAt_b35 l3 s0 μ)) := by
  unfold f_X5_elementAt_b35
  refine z_istore (pc := 35) (L' := [(0, .ref (b + 22)), (3, .int l3), (4, .int s0)]) dX5_elementAt_35 (by decide) rfl ?_
  refine z_iload (pc := 37) dX5_elementAt_37 rfl ?_
  refine z_if_eq (pc := 39) (tgt := 51) dX5_elementAt_39 (by decide) (fun _ => ?_) (fun _ => ?_)
  · refine z_lconst (pc := 51) dX5_elementAt_51 zcl_0 ?_
    exact z_lret (pc := 52) rfl dX5_elementAt_52
  · refine z_aload_n (pc := 42) dX5_elementAt_42 rfl ?_
    refine zgR_X5_11 (pc := 43) gc_22 rfl dX5_elementAt_43 ?_
    refine z_iload_n (pc := 46) dX5_elementAt_46 rfl ?_
    refine z_lald (pc := 47) gc_23 dX5_elementAt_47 ?_
    refine z_goto (pc := 48) (tgt := 52) dX5_elementAt_48 (by decide) ?_
    exact z_lret (pc := 52) rfl dX5_elementAt_52

set_option maxRecDepth 20000 in
theorem w_X5_elementAt_34 {D : va_G} {cI cL : ClassId} {b : Nat} {Z : State → Heap → Prop}  (l3 : Int32) (μ : z_M) : z_w (zEc D cI cL b Z) (RX5, cX5_elementAt, 5, (some .long), 2) z_el 34 [(0, .ref (b + 22)), (3, .int l3)] [] μ ((f_X5_elementAt_b34 l3 μ)) := by
  unfold f_X5_elementAt_b34
  refine z_iconst (pc := 34) dX5_elementAt_34 zci_0 ?_
  exact w_X5_elementAt_35 l3 0 μ

set_option maxRecDepth 20000 in
theorem w_X5_elementAt_0 {D : va_G} {cI cL : ClassId} {b : Nat} {Z : State → Heap → Prop}  (a1 : Int32) (a2 : Int32) (μ : z_M) : z_w (zEc D cI cL b Z) (RX5, cX5_elementAt, 5, (some .long), 2) z_el 0 [(0, .ref (b + 22)), (1, .int a1), (2, .int a2)] [] μ ((f_X5_elementAt a1 a2 μ)) := by
  unfold f_X5_elementAt
  refine z_iload_n (pc := 0) dX5_elementAt_0 rfl ?_
  refine z_sipush (pc := 1) dX5_elementAt_1 zcs_160 ?_
  refine z_imul (pc := 4) dX5_elementAt_4 ?_
  refine z_iload_n (pc := 5) dX5_elementAt_5 rfl ?_
  refine z_iadd (pc := 6) dX5_elementAt_6 ?_
  refine z_letIO (fun x1 => ?_)
  refine z_istore_n (pc := 7) (L' := [(0, .ref (b + 22)), (1, .int a1), (2, .int a2), (3, .int x1)]) dX5_elementAt_7 (by decide) rfl ?_
  refine z_aload_n (pc := 8) dX5_elementAt_8 rfl ?_
  refine z_iload_n (pc := 9) dX5_elementAt_9 rfl ?_
  refine z_iload_n (pc := 10) dX5_elementAt_10 rfl ?_
  refine z_callVi (pc := 11) (As := [.int a1, .int a2]) (S := []) (c_X5_hasElement a1 a2 μ) rfl zw_X5_hasElement zv_X5_hasElement zm_X5_56 (n := 2) (by decide) rfl (z_recv gc_22 (T := TX5) (N := 3) rfl) rfl (Nat.le_of_ble_eq_true rfl) (by decide) (by decide) dX5_elementAt_11 ?_
  refine z_if_eq (pc := 14) (tgt := 34) dX5_elementAt_14 (by decide) (fun _ => ?_) (fun _ => ?_)
  · refine z_drop (L' := [(0, .ref (b + 22)), (3, .int x1)]) [0, 3] rfl ?_
    exact w_X5_elementAt_34 x1 μ
  · refine z_iload_n (pc := 17) dX5_elementAt_17 rfl ?_
    refine z_if_lt (pc := 18) (tgt := 34) dX5_elementAt_18 (by decide) (fun _ => ?_) (fun _ => ?_)
    · refine z_drop (L' := [(0, .ref (b + 22)), (3, .int x1)]) [0, 3] rfl ?_
      exact w_X5_elementAt_34 x1 μ
    · refine z_iload_n (pc := 21) dX5_elementAt_21 rfl ?_
      refine z_aload_n (pc := 22) dX5_elementAt_22 rfl ?_
      refine zgR_X5_11 (pc := 23) gc_22 rfl dX5_elementAt_23 ?_
      refine z_alen (pc := 26) gc_23 (v := 1280) (by decide) dX5_elementAt_26 ?_
      refine z_icmp_ge (pc := 27) (tgt := 34) dX5_elementAt_27 (by decide) (fun _ => ?_) (fun _ => ?_)
      · refine z_iconst (pc := 30) dX5_elementAt_30 zci_1 ?_
        refine z_goto (pc := 31) (tgt := 35) dX5_elementAt_31 (by decide) ?_
        refine z_drop (L' := [(0, .ref (b + 22)), (3, .int x1)]) [0, 3] rfl ?_
        exact w_X5_elementAt_35 x1 1 μ
      · refine z_drop (L' := [(0, .ref (b + 22)), (3, .int x1)]) [0, 3] rfl ?_
        exact w_X5_elementAt_34 x1 μ

set_option maxRecDepth 20000 in
theorem c_X5_elementAt {D : va_G} {cI cL : ClassId} {b : Nat} {Z : State → Heap → Prop}  (a1 : Int32) (a2 : Int32) (μ : z_M) : z_S (zEc D cI cL b Z) 2 yX5_elementAt cX5_elementAt 5 (some .long) z_el [.ref (b + 22), .int a1, .int a2] μ ((f_X5_elementAt a1 a2 μ)) :=
  z_entry (yn := yX5_elementAt) (by decide) (Nat.le_of_ble_eq_true rfl) rfl (w_X5_elementAt_0 a1 a2 μ)

def f_X5_intAt (a1 : Int32) (a2 : Int32) (μ : z_M) : Option (Int32 × z_M) :=
  z_bind (f_X5_elementAt a1 a2 μ) (fun p1 => some ((Int64.toInt32 p1.1), p1.2))
set_option maxRecDepth 20000 in
theorem w_X5_intAt_0 {D : va_G} {cI cL : ClassId} {b : Nat} {Z : State → Heap → Prop}  (a1 : Int32) (a2 : Int32) (μ : z_M) : z_w (zEc D cI cL b Z) (RX5, cX5_intAt, 3, (some .int), 3) z_ei 0 [(0, .ref (b + 22)), (1, .int a1), (2, .int a2)] [] μ ((f_X5_intAt a1 a2 μ)) := by
  unfold f_X5_intAt
  refine z_aload_n (pc := 0) dX5_intAt_0 rfl ?_
  refine z_iload_n (pc := 1) dX5_intAt_1 rfl ?_
  refine z_iload_n (pc := 2) dX5_intAt_2 rfl ?_
  refine z_bindP (fun p1 hp1 => ?_)
  refine z_callVl (pc := 3) (As := [.int a1, .int a2]) (S := []) (c_X5_elementAt a1 a2 μ) hp1 zw_X5_elementAt zv_X5_elementAt zm_X5_60 (n := 2) (by decide) rfl (z_recv gc_22 (T := TX5) (N := 3) rfl) rfl (Nat.le_of_ble_eq_true rfl) (by decide) (by decide) dX5_intAt_3 ?_
  refine z_l2i (pc := 6) dX5_intAt_6 ?_
  exact z_iret (pc := 7) rfl dX5_intAt_7

set_option maxRecDepth 20000 in
theorem c_X5_intAt {D : va_G} {cI cL : ClassId} {b : Nat} {Z : State → Heap → Prop}  (a1 : Int32) (a2 : Int32) (μ : z_M) : z_S (zEc D cI cL b Z) 3 yX5_intAt cX5_intAt 3 (some .int) z_ei [.ref (b + 22), .int a1, .int a2] μ ((f_X5_intAt a1 a2 μ)) :=
  z_entry (yn := yX5_intAt) (by decide) (Nat.le_of_ble_eq_true rfl) rfl (w_X5_intAt_0 a1 a2 μ)

def f_X5_lowestBits (a0 : Int32) (a1 : Int64) (μ : z_M) : Int64 :=
  if a0 = 0 then ((Int32.toInt64 ((Int32.toInt8 (Int64.toInt32 a1)).toInt32))) else (if a0 = 1 then ((Int32.toInt64 ((Int32.toInt16 (Int64.toInt32 a1)).toInt32))) else (if a0 = 2 then ((Int32.toInt64 (Int64.toInt32 a1))) else (a1)))
set_option maxRecDepth 20000 in
theorem w_X5_lowestBits_0 {D : va_G} {cI cL : ClassId} {b : Nat} {Z : State → Heap → Prop}  (a0 : Int32) (a1 : Int64) (μ : z_M) : z_w (zEc D cI cL b Z) (RX5, cX5_lowestBits, 3, (some .long), 0) z_el 0 [(0, .int a0), (1, .long a1)] [] μ (z_oP μ (f_X5_lowestBits a0 a1 μ)) := by
  unfold f_X5_lowestBits
  refine z_iload_n (pc := 0) dX5_lowestBits_0 rfl ?_
  refine z_outIf ?_
  refine z_split (fun hx => ?_) (fun hs1_0 => ?_)
  · refine z_tableIn (pc := 1) (x0 := 0) (off := 27) (tgt := 28) dX5_lowestBits_1 hx (by decide) (by decide) (by decide) (by decide) ?_
    refine z_lload_n (pc := 28) dX5_lowestBits_28 rfl ?_
    refine z_l2i (pc := 29) dX5_lowestBits_29 ?_
    refine z_i2b (pc := 30) dX5_lowestBits_30 ?_
    refine z_i2l (pc := 31) dX5_lowestBits_31 ?_
    exact z_lret (pc := 32) rfl dX5_lowestBits_32
  · refine z_outIf ?_
    refine z_split (fun hx => ?_) (fun hs1_1 => ?_)
    · refine z_tableIn (pc := 1) (x0 := 1) (off := 32) (tgt := 33) dX5_lowestBits_1 hx (by decide) (by decide) (by decide) (by decide) ?_
      refine z_lload_n (pc := 33) dX5_lowestBits_33 rfl ?_
      refine z_l2i (pc := 34) dX5_lowestBits_34 ?_
      refine z_i2s (pc := 35) dX5_lowestBits_35 ?_
      refine z_i2l (pc := 36) dX5_lowestBits_36 ?_
      exact z_lret (pc := 37) rfl dX5_lowestBits_37
    · refine z_outIf ?_
      refine z_split (fun hx => ?_) (fun hs1_2 => ?_)
      · refine z_tableIn (pc := 1) (x0 := 2) (off := 37) (tgt := 38) dX5_lowestBits_1 hx (by decide) (by decide) (by decide) (by decide) ?_
        refine z_lload_n (pc := 38) dX5_lowestBits_38 rfl ?_
        refine z_l2i (pc := 39) dX5_lowestBits_39 ?_
        refine z_i2l (pc := 40) dX5_lowestBits_40 ?_
        exact z_lret (pc := 41) rfl dX5_lowestBits_41
      · have hk0 := lv_neT hs1_0 (show Int32.toInt 0 = 0 by decide)
        have hk1 := lv_neT hs1_1 (show Int32.toInt 1 = 1 by decide)
        have hk2 := lv_neT hs1_2 (show Int32.toInt 2 = 2 by decide)
        refine z_tableOut (pc := 1) (tgt := 42) dX5_lowestBits_1 (by omega) (by decide) ?_
        refine z_lload_n (pc := 42) dX5_lowestBits_42 rfl ?_
        exact z_lret (pc := 43) rfl dX5_lowestBits_43

set_option maxRecDepth 20000 in
theorem c_X5_lowestBits {D : va_G} {cI cL : ClassId} {b : Nat} {Z : State → Heap → Prop}  (a0 : Int32) (a1 : Int64) (μ : z_M) : z_S (zEc D cI cL b Z) 0 yX5_lowestBits cX5_lowestBits 3 (some .long) z_el [.int a0, .long a1] μ (z_oP μ (f_X5_lowestBits a0 a1 μ)) :=
  z_entry (yn := yX5_lowestBits) (by decide) (Nat.le_of_ble_eq_true rfl) rfl (w_X5_lowestBits_0 a0 a1 μ)

def f_X5_troubleWithRow (a1 : Int32) (μ : z_M) : Int32 :=
  (f_X5_troubleWithTwoRows a1 a1 μ)
set_option maxRecDepth 20000 in
theorem w_X5_troubleWithRow_0 {D : va_G} {cI cL : ClassId} {b : Nat} {Z : State → Heap → Prop}  (a1 : Int32) (μ : z_M) : z_w (zEc D cI cL b Z) (RX5, cX5_troubleWithRow, 2, (some .int), 3) z_ei 0 [(0, .ref (b + 22)), (1, .int a1)] [] μ (z_oP μ (f_X5_troubleWithRow a1 μ)) := by
  unfold f_X5_troubleWithRow
  refine z_aload_n (pc := 0) dX5_troubleWithRow_0 rfl ?_
  refine z_iload_n (pc := 1) dX5_troubleWithRow_1 rfl ?_
  refine z_iload_n (pc := 2) dX5_troubleWithRow_2 rfl ?_
  refine z_callVi (pc := 3) (As := [.int a1, .int a1]) (S := []) (c_X5_troubleWithTwoRows a1 a1 μ) rfl zw_X5_troubleWithTwoRows zv_X5_troubleWithTwoRows zm_X5_42 (n := 2) (by decide) rfl (z_recv gc_22 (T := TX5) (N := 3) rfl) rfl (Nat.le_of_ble_eq_true rfl) (by decide) (by decide) dX5_troubleWithRow_3 ?_
  exact z_iret (pc := 6) rfl dX5_troubleWithRow_6

set_option maxRecDepth 20000 in
theorem c_X5_troubleWithRow {D : va_G} {cI cL : ClassId} {b : Nat} {Z : State → Heap → Prop}  (a1 : Int32) (μ : z_M) : z_S (zEc D cI cL b Z) 3 yX5_troubleWithRow cX5_troubleWithRow 2 (some .int) z_ei [.ref (b + 22), .int a1] μ (z_oP μ (f_X5_troubleWithRow a1 μ)) :=
  z_entry (yn := yX5_troubleWithRow) (by decide) (Nat.le_of_ble_eq_true rfl) rfl (w_X5_troubleWithRow_0 a1 μ)

def f_X5_troubleWithStart (a1 : Int32) (a2 : Int32) (μ : z_M) : Int32 :=
  z_let ((f_X5_troubleWithRow a1 μ) : Int32) (fun x1 => if x1 = 0 then (if a2 < 0 then ((-4)) else (if (g_get 27 8 a1 μ) < a2 then ((-5)) else (0))) else (x1))
set_option maxRecDepth 20000 in
theorem w_X5_troubleWithStart_0 {D : va_G} {cI cL : ClassId} {b : Nat} {Z : State → Heap → Prop}  (a1 : Int32) (a2 : Int32) (μ : z_M) : z_w (zEc D cI cL b Z) (RX5, cX5_troubleWithStart, 4, (some .int), 4) z_ei 0 [(0, .ref (b + 22)), (1, .int a1), (2, .int a2)] [] μ (z_oP μ (f_X5_troubleWithStart a1 a2 μ)) := by
  unfold f_X5_troubleWithStart
  refine z_aload_n (pc := 0) dX5_troubleWithStart_0 rfl ?_
  refine z_iload_n (pc := 1) dX5_troubleWithStart_1 rfl ?_
  refine z_callVi (pc := 2) (As := [.int a1]) (S := []) (c_X5_troubleWithRow a1 μ) rfl zw_X5_troubleWithRow zv_X5_troubleWithRow zm_X5_49 (n := 1) (by decide) rfl (z_recv gc_22 (T := TX5) (N := 3) rfl) rfl (Nat.le_of_ble_eq_true rfl) (by decide) (by decide) dX5_troubleWithStart_2 ?_
  refine z_letI (fun x1 => ?_)
  refine z_istore_n (pc := 5) (L' := [(0, .ref (b + 22)), (1, .int a1), (2, .int a2), (3, .int x1)]) dX5_troubleWithStart_5 (by decide) rfl ?_
  refine z_iload_n (pc := 6) dX5_troubleWithStart_6 rfl ?_
  refine z_outIf ?_
  refine z_if_eq (pc := 7) (tgt := 12) dX5_troubleWithStart_7 (by decide) (fun _ => ?_) (fun _ => ?_)
  · refine z_iload_n (pc := 12) dX5_troubleWithStart_12 rfl ?_
    refine z_outIf ?_
    refine z_if_ge (pc := 13) (tgt := 19) dX5_troubleWithStart_13 (by decide) (fun _ => ?_) (fun _ => ?_)
    · refine z_bipush (pc := 16) dX5_troubleWithStart_16 zcb_m4 ?_
      exact z_iret (pc := 18) rfl dX5_troubleWithStart_18
    · refine z_iload_n (pc := 19) dX5_troubleWithStart_19 rfl ?_
      refine z_aload_n (pc := 20) dX5_troubleWithStart_20 rfl ?_
      refine zgR_X5_24 (pc := 21) gc_22 rfl dX5_troubleWithStart_21 ?_
      refine z_iload_n (pc := 24) dX5_troubleWithStart_24 rfl ?_
      refine z_callVi (pc := 25) (As := [.int a1]) (S := [.int a2]) (g_X1_get gc_26 gc_27 (Nat.le_of_ble_eq_true rfl) a1 μ) rfl zw_X1_get zv_X1_get zm_X5_35 (n := 1) (by decide) rfl (z_recv gc_26 (T := TX1) (N := 1) rfl) rfl (Nat.le_of_ble_eq_true rfl) (by decide) (by decide) dX5_troubleWithStart_25 ?_
      refine z_outIf ?_
      refine z_icmp_le (pc := 28) (tgt := 36) dX5_troubleWithStart_28 (by decide) (fun _ => ?_) (fun _ => ?_)
      · refine z_bipush (pc := 31) dX5_troubleWithStart_31 zcb_m5 ?_
        refine z_goto (pc := 33) (tgt := 37) dX5_troubleWithStart_33 (by decide) ?_
        exact z_iret (pc := 37) rfl dX5_troubleWithStart_37
      · refine z_iconst (pc := 36) dX5_troubleWithStart_36 zci_0 ?_
        exact z_iret (pc := 37) rfl dX5_troubleWithStart_37
  · refine z_iload_n (pc := 10) dX5_troubleWithStart_10 rfl ?_
    exact z_iret (pc := 11) rfl dX5_troubleWithStart_11

set_option maxRecDepth 20000 in
theorem c_X5_troubleWithStart {D : va_G} {cI cL : ClassId} {b : Nat} {Z : State → Heap → Prop}  (a1 : Int32) (a2 : Int32) (μ : z_M) : z_S (zEc D cI cL b Z) 4 yX5_troubleWithStart cX5_troubleWithStart 4 (some .int) z_ei [.ref (b + 22), .int a1, .int a2] μ (z_oP μ (f_X5_troubleWithStart a1 a2 μ)) :=
  z_entry (yn := yX5_troubleWithStart) (by decide) (Nat.le_of_ble_eq_true rfl) rfl (w_X5_troubleWithStart_0 a1 a2 μ)

def f_X5_keepElement (a1 : Int32) (a2 : Int32) (a3 : Int64) (μ : z_M) : Option (Unit × z_M) :=
  z_let (((a1 * 160) + a2) : Int32) (fun x1 => if (f_X5_hasElement a1 a2 μ) = 0 then (some ((), μ)) else (if x1 < 0 then (some ((), μ)) else (if x1 < 1280 then (z_chk x1 1280 (z_let (z_sL μ 23 (z_ix x1) (f_X5_lowestBits ((g_get 25 8 a1 μ) - 100) a3 μ)) (fun m2 => some ((), m2)))) else (some ((), μ)))))
set_option maxRecDepth 20000 in
theorem w_X5_keepElement_0 {D : va_G} {cI cL : ClassId} {b : Nat} {Z : State → Heap → Prop}  (a1 : Int32) (a2 : Int32) (a3 : Int64) (μ : z_M) : z_w (zEc D cI cL b Z) (RX5, cX5_keepElement, 6, none, 2) z_ev 0 [(0, .ref (b + 22)), (1, .int a1), (2, .int a2), (3, .long a3)] [] μ ((f_X5_keepElement a1 a2 a3 μ)) := by
  unfold f_X5_keepElement
  refine z_iload_n (pc := 0) dX5_keepElement_0 rfl ?_
  refine z_sipush (pc := 1) dX5_keepElement_1 zcs_160 ?_
  refine z_imul (pc := 4) dX5_keepElement_4 ?_
  refine z_iload_n (pc := 5) dX5_keepElement_5 rfl ?_
  refine z_iadd (pc := 6) dX5_keepElement_6 ?_
  refine z_letIO (fun x1 => ?_)
  refine z_istore (pc := 7) (L' := [(0, .ref (b + 22)), (1, .int a1), (2, .int a2), (3, .long a3), (5, .int x1)]) dX5_keepElement_7 (by decide) rfl ?_
  refine z_aload_n (pc := 9) dX5_keepElement_9 rfl ?_
  refine z_iload_n (pc := 10) dX5_keepElement_10 rfl ?_
  refine z_iload_n (pc := 11) dX5_keepElement_11 rfl ?_
  refine z_callVi (pc := 12) (As := [.int a1, .int a2]) (S := []) (c_X5_hasElement a1 a2 μ) rfl zw_X5_hasElement zv_X5_hasElement zm_X5_56 (n := 2) (by decide) rfl (z_recv gc_22 (T := TX5) (N := 3) rfl) rfl (Nat.le_of_ble_eq_true rfl) (by decide) (by decide) dX5_keepElement_12 ?_
  refine z_if_eq (pc := 15) (tgt := 55) dX5_keepElement_15 (by decide) (fun _ => ?_) (fun _ => ?_)
  · exact z_vret (pc := 55) rfl dX5_keepElement_55
  · refine z_iload (pc := 18) dX5_keepElement_18 rfl ?_
    refine z_if_lt (pc := 20) (tgt := 55) dX5_keepElement_20 (by decide) (fun _ => ?_) (fun _ => ?_)
    · exact z_vret (pc := 55) rfl dX5_keepElement_55
    · refine z_iload (pc := 23) dX5_keepElement_23 rfl ?_
      refine z_aload_n (pc := 25) dX5_keepElement_25 rfl ?_
      refine zgR_X5_11 (pc := 26) gc_22 rfl dX5_keepElement_26 ?_
      refine z_alen (pc := 29) gc_23 (v := 1280) (by decide) dX5_keepElement_29 ?_
      refine z_icmp_ge (pc := 30) (tgt := 55) dX5_keepElement_30 (by decide) (fun _ => ?_) (fun _ => ?_)
      · refine z_aload_n (pc := 33) dX5_keepElement_33 rfl ?_
        refine zgR_X5_11 (pc := 34) gc_22 rfl dX5_keepElement_34 ?_
        refine z_iload (pc := 37) dX5_keepElement_37 rfl ?_
        refine z_aload_n (pc := 39) dX5_keepElement_39 rfl ?_
        refine zgR_X5_20 (pc := 40) gc_22 rfl dX5_keepElement_40 ?_
        refine z_iload_n (pc := 43) dX5_keepElement_43 rfl ?_
        refine z_callVi (pc := 44) (As := [.int a1]) (S := [.int x1, .ref (b + 23)]) (g_X1_get gc_24 gc_25 (Nat.le_of_ble_eq_true rfl) a1 μ) rfl zw_X1_get zv_X1_get zm_X5_35 (n := 1) (by decide) rfl (z_recv gc_24 (T := TX1) (N := 1) rfl) rfl (Nat.le_of_ble_eq_true rfl) (by decide) (by decide) dX5_keepElement_44 ?_
        refine z_bipush (pc := 47) dX5_keepElement_47 zcb_100 ?_
        refine z_isub (pc := 49) dX5_keepElement_49 ?_
        refine z_lload_n (pc := 50) dX5_keepElement_50 rfl ?_
        refine z_callSl (pc := 51) (As := [.int ((g_get 25 8 a1 μ) - 100), .long a3]) (S := [.int x1, .ref (b + 23)]) (c_X5_lowestBits ((g_get 25 8 a1 μ) - 100) a3 μ) rfl zw_X5_lowestBits zs_X5_lowestBits zm_X5_64 (n := 2) (by decide) rfl rfl (Nat.le_of_ble_eq_true rfl) (by decide) (by decide) dX5_keepElement_51 ?_
        refine z_last (pc := 54) gc_23 dX5_keepElement_54 ?_
        refine z_letMO (fun m2 => ?_)
        exact z_vret (pc := 55) rfl dX5_keepElement_55
      · exact z_vret (pc := 55) rfl dX5_keepElement_55

set_option maxRecDepth 20000 in
theorem c_X5_keepElement {D : va_G} {cI cL : ClassId} {b : Nat} {Z : State → Heap → Prop}  (a1 : Int32) (a2 : Int32) (a3 : Int64) (μ : z_M) : z_S (zEc D cI cL b Z) 2 yX5_keepElement cX5_keepElement 6 none z_ev [.ref (b + 22), .int a1, .int a2, .long a3] μ ((f_X5_keepElement a1 a2 a3 μ)) :=
  z_entry (yn := yX5_keepElement) (by decide) (Nat.le_of_ble_eq_true rfl) rfl (w_X5_keepElement_0 a1 a2 a3 μ)

def f_X5_holdRow_h24 : Nat → Int32 → Int32 → Int32 → z_M → Option (Unit × z_M)
  | 0, _, _, _, _ => none
  | n + 1, l1, l3, l4, μ =>
    if l4 < l3 then (z_bind (f_X5_keepElement l1 l4 0 μ) (fun p3 => f_X5_holdRow_h24 n l1 l3 (l4 + 1) p3.2)) else (some ((), μ))
def f_X5_holdRow (n : Nat) (a1 : Int32) (a2 : Int32) (a3 : Int32) (μ : z_M) : Option (Unit × z_M) :=
  z_let (g_put 25 8 a1 (100 + a2) μ) (fun m1 => z_let (g_put 27 8 a1 a3 m1) (fun m2 => f_X5_holdRow_h24 n a1 a3 0 m2))
set_option maxRecDepth 20000 in
theorem w_X5_holdRow_24 {D : va_G} {cI cL : ClassId} {b : Nat} {Z : State → Heap → Prop}  : ∀ (n : Nat) (l1 : Int32) (l3 : Int32) (l4 : Int32) (μ : z_M), z_w (zEc D cI cL b Z) (RX5, cX5_holdRow, 5, none, 3) z_ev 24 [(0, .ref (b + 22)), (1, .int l1), (3, .int l3), (4, .int l4)] [] μ (f_X5_holdRow_h24 n l1 l3 l4 μ) := by
  intro n
  induction n with
  | zero =>
    intro l1 l3 l4 μ
    exact z_none
  | succ n ih =>
    intro l1 l3 l4 μ
    unfold f_X5_holdRow_h24
    refine z_iload (pc := 24) dX5_holdRow_24 rfl ?_
    refine z_iload_n (pc := 26) dX5_holdRow_26 rfl ?_
    refine z_icmp_ge (pc := 27) (tgt := 44) dX5_holdRow_27 (by decide) (fun _ => ?_) (fun _ => ?_)
    · refine z_aload_n (pc := 30) dX5_holdRow_30 rfl ?_
      refine z_iload_n (pc := 31) dX5_holdRow_31 rfl ?_
      refine z_iload (pc := 32) dX5_holdRow_32 rfl ?_
      refine z_lconst (pc := 34) dX5_holdRow_34 zcl_0 ?_
      refine z_bindP (fun p3 hp3 => ?_)
      refine z_callVv (pc := 35) (As := [.int l1, .int l4, .long 0]) (S := []) (c_X5_keepElement l1 l4 0 μ) hp3 zw_X5_keepElement zv_X5_keepElement zm_X5_52 (n := 3) (by decide) rfl (z_recv gc_22 (T := TX5) (N := 3) rfl) rfl (Nat.le_of_ble_eq_true rfl) (by decide) (by decide) dX5_holdRow_35 ?_
      refine z_iinc (pc := 38) (v := (l4 + 1)) (L' := [(0, .ref (b + 22)), (1, .int l1), (3, .int l3), (4, .int (l4 + 1))]) dX5_holdRow_38 rfl (by decide) rfl rfl ?_
      refine z_goto (pc := 41) (tgt := 24) dX5_holdRow_41 (by decide) ?_
      exact ih l1 l3 (l4 + 1) p3.2
    · exact z_vret (pc := 44) rfl dX5_holdRow_44

set_option maxRecDepth 20000 in
theorem w_X5_holdRow_0 {D : va_G} {cI cL : ClassId} {b : Nat} {Z : State → Heap → Prop}  (n : Nat) (a1 : Int32) (a2 : Int32) (a3 : Int32) (μ : z_M) : z_w (zEc D cI cL b Z) (RX5, cX5_holdRow, 5, none, 3) z_ev 0 [(0, .ref (b + 22)), (1, .int a1), (2, .int a2), (3, .int a3)] [] μ ((f_X5_holdRow n a1 a2 a3 μ)) := by
  unfold f_X5_holdRow
  refine z_aload_n (pc := 0) dX5_holdRow_0 rfl ?_
  refine zgR_X5_20 (pc := 1) gc_22 rfl dX5_holdRow_1 ?_
  refine z_iload_n (pc := 4) dX5_holdRow_4 rfl ?_
  refine z_bipush (pc := 5) dX5_holdRow_5 zcb_100 ?_
  refine z_iload_n (pc := 7) dX5_holdRow_7 rfl ?_
  refine z_iadd (pc := 8) dX5_holdRow_8 ?_
  refine z_letPO (fun m1 hm1 => ?_)
  refine z_callVv (pc := 9) (As := [.int a1, .int (100 + a2)]) (S := []) (g_X1_keep gc_24 gc_25 (Nat.le_of_ble_eq_true rfl) a1 (100 + a2) μ) (z_pV hm1) zw_X1_keep zv_X1_keep zm_X5_27 (n := 2) (by decide) rfl (z_recv gc_24 (T := TX1) (N := 1) rfl) rfl (Nat.le_of_ble_eq_true rfl) (by decide) (by decide) dX5_holdRow_9 ?_
  refine z_aload_n (pc := 12) dX5_holdRow_12 rfl ?_
  refine zgR_X5_24 (pc := 13) gc_22 rfl dX5_holdRow_13 ?_
  refine z_iload_n (pc := 16) dX5_holdRow_16 rfl ?_
  refine z_iload_n (pc := 17) dX5_holdRow_17 rfl ?_
  refine z_letPO (fun m2 hm2 => ?_)
  refine z_callVv (pc := 18) (As := [.int a1, .int a3]) (S := []) (g_X1_keep gc_26 gc_27 (Nat.le_of_ble_eq_true rfl) a1 a3 m1) (z_pV hm2) zw_X1_keep zv_X1_keep zm_X5_27 (n := 2) (by decide) rfl (z_recv gc_26 (T := TX1) (N := 1) rfl) rfl (Nat.le_of_ble_eq_true rfl) (by decide) (by decide) dX5_holdRow_18 ?_
  refine z_iconst (pc := 21) dX5_holdRow_21 zci_0 ?_
  refine z_istore (pc := 22) (L' := [(0, .ref (b + 22)), (1, .int a1), (2, .int a2), (3, .int a3), (4, .int 0)]) dX5_holdRow_22 (by decide) rfl ?_
  refine z_drop (L' := [(0, .ref (b + 22)), (1, .int a1), (3, .int a3), (4, .int 0)]) [0, 1, 3, 4] rfl ?_
  exact w_X5_holdRow_24 n a1 a3 0 m2

set_option maxRecDepth 20000 in
theorem c_X5_holdRow {D : va_G} {cI cL : ClassId} {b : Nat} {Z : State → Heap → Prop}  (n : Nat) (a1 : Int32) (a2 : Int32) (a3 : Int32) (μ : z_M) : z_S (zEc D cI cL b Z) 3 yX5_holdRow cX5_holdRow 5 none z_ev [.ref (b + 22), .int a1, .int a2, .int a3] μ ((f_X5_holdRow n a1 a2 a3 μ)) :=
  z_entry (yn := yX5_holdRow) (by decide) (Nat.le_of_ble_eq_true rfl) rfl (w_X5_holdRow_0 n a1 a2 a3 μ)

def f_X0_howManyRan  (μ : z_M) : Int32 :=
  (μ.1 28 1)
set_option maxRecDepth 20000 in
theorem w_X0_howManyRan_0 {D : va_G} {cI cL : ClassId} {b : Nat} {Z : State → Heap → Prop}   (μ : z_M) : z_w (zEc D cI cL b Z) (RX0, cX0_howManyRan, 1, (some .int), 0) z_ei 0 [(0, .ref (b + 28))] [] μ (z_oP μ (f_X0_howManyRan μ)) := by
  unfold f_X0_howManyRan
  refine z_aload_n (pc := 0) dX0_howManyRan_0 rfl ?_
  refine zgI_X0_20 (pc := 1) gc_28 rfl dX0_howManyRan_1 ?_
  exact z_iret (pc := 4) rfl dX0_howManyRan_4

set_option maxRecDepth 20000 in
theorem c_X0_howManyRan {D : va_G} {cI cL : ClassId} {b : Nat} {Z : State → Heap → Prop}   (μ : z_M) : z_S (zEc D cI cL b Z) 0 yX0_howManyRan cX0_howManyRan 1 (some .int) z_ei [.ref (b + 28)] μ (z_oP μ (f_X0_howManyRan μ)) :=
  z_entry (yn := yX0_howManyRan) (by decide) (Nat.le_of_ble_eq_true rfl) rfl (w_X0_howManyRan_0  μ)

def f_X7_wayTaken_b27 (l1 : Int32) (l2 : Int32) (s0 : Int32) (μ : z_M) : Int32 :=
  if s0 = 0 then ((-1)) else (((g_get 33 64 ((l1 * 8) + l2) μ) - 1))
def f_X7_wayTaken_b26 (l1 : Int32) (l2 : Int32) (μ : z_M) : Int32 :=
  f_X7_wayTaken_b27 l1 l2 0 μ
def f_X7_wayTaken (a1 : Int32) (a2 : Int32) (μ : z_M) : Int32 :=
  if (f_X6_isHouse 1 a1 μ) = 0 then (f_X7_wayTaken_b26 a1 a2 μ) else (if (f_X6_isHouse 1 a2 μ) = 0 then (f_X7_wayTaken_b26 a1 a2 μ) else (f_X7_wayTaken_b27 a1 a2 1 μ))
set_option maxRecDepth 20000 in
theorem w_X7_wayTaken_27 {D : va_G} {cI cL : ClassId} {b : Nat} {Z : State → Heap → Prop}  (l1 : Int32) (l2 : Int32) (s0 : Int32) (μ : z_M) : z_w (zEc D cI cL b Z) (RX7, cX7_wayTaken, 4, (some .int), 1) z_ei 27 [(0, .ref (b + 31)), (1, .int l1), (2, .int l2)] [.int s0] μ (z_oP μ (f_X7_wayTaken_b27 l1 l2 s0 μ)) := by
  unfold f_X7_wayTaken_b27
  refine z_istore_n (pc := 27) (L' := [(0, .ref (b + 31)), (1, .int l1), (2, .int l2), (3, .int s0)]) dX7_wayTaken_27 (by decide) rfl ?_
  refine z_iload_n (pc := 28) dX7_wayTaken_28 rfl ?_
  refine z_outIf ?_
  refine z_if_eq (pc := 29) (tgt := 50) dX7_wayTaken_29 (by decide) (fun _ => ?_) (fun _ => ?_)
  · refine z_iconst (pc := 50) dX7_wayTaken_50 zci_m1 ?_
    exact z_iret (pc := 51) rfl dX7_wayTaken_51
  · refine z_aload_n (pc := 32) dX7_wayTaken_32 rfl ?_
    refine zgR_X7_22 (pc := 33) gc_31 rfl dX7_wayTaken_33 ?_
    refine z_iload_n (pc := 36) dX7_wayTaken_36 rfl ?_
    refine z_bipush (pc := 37) dX7_wayTaken_37 zcb_8 ?_
    refine z_imul (pc := 39) dX7_wayTaken_39 ?_
    refine z_iload_n (pc := 40) dX7_wayTaken_40 rfl ?_
    refine z_iadd (pc := 41) dX7_wayTaken_41 ?_
    refine z_callVi (pc := 42) (As := [.int ((l1 * 8) + l2)]) (S := []) (g_X1_get gc_32 gc_33 (Nat.le_of_ble_eq_true rfl) ((l1 * 8) + l2) μ) rfl zw_X1_get zv_X1_get zm_X7_84 (n := 1) (by decide) rfl (z_recv gc_32 (T := TX1) (N := 1) rfl) rfl (Nat.le_of_ble_eq_true rfl) (by decide) (by decide) dX7_wayTaken_42 ?_
    refine z_iconst (pc := 45) dX7_wayTaken_45 zci_1 ?_
    refine z_isub (pc := 46) dX7_wayTaken_46 ?_
    refine z_goto (pc := 47) (tgt := 51) dX7_wayTaken_47 (by decide) ?_
    exact z_iret (pc := 51) rfl dX7_wayTaken_51

set_option maxRecDepth 20000 in
theorem w_X7_wayTaken_26 {D : va_G} {cI cL : ClassId} {b : Nat} {Z : State → Heap → Prop}  (l1 : Int32) (l2 : Int32) (μ : z_M) : z_w (zEc D cI cL b Z) (RX7, cX7_wayTaken, 4, (some .int), 1) z_ei 26 [(0, .ref (b + 31)), (1, .int l1), (2, .int l2)] [] μ (z_oP μ (f_X7_wayTaken_b26 l1 l2 μ)) := by
  unfold f_X7_wayTaken_b26
  refine z_iconst (pc := 26) dX7_wayTaken_26 zci_0 ?_
  exact w_X7_wayTaken_27 l1 l2 0 μ

set_option maxRecDepth 20000 in
theorem w_X7_wayTaken_0 {D : va_G} {cI cL : ClassId} {b : Nat} {Z : State → Heap → Prop}  (a1 : Int32) (a2 : Int32) (μ : z_M) : z_w (zEc D cI cL b Z) (RX7, cX7_wayTaken, 4, (some .int), 1) z_ei 0 [(0, .ref (b + 31)), (1, .int a1), (2, .int a2)] [] μ (z_oP μ (f_X7_wayTaken a1 a2 μ)) := by
  unfold f_X7_wayTaken
  refine z_aload_n (pc := 0) dX7_wayTaken_0 rfl ?_
  refine zgR_X7_11 (pc := 1) gc_31 rfl dX7_wayTaken_1 ?_
  refine z_iload_n (pc := 4) dX7_wayTaken_4 rfl ?_
  refine z_callVi (pc := 5) (As := [.int a1]) (S := []) (c_X6_isHouse zstr_1 a1 μ) rfl zw_X6_isHouse zv_X6_isHouse zm_X7_81 (n := 1) (by decide) rfl (z_recv gc_1 (T := TX6) (N := 10) rfl) rfl (Nat.le_of_ble_eq_true rfl) (by decide) (by decide) dX7_wayTaken_5 ?_
  refine z_outIf ?_
  refine z_if_eq (pc := 8) (tgt := 26) dX7_wayTaken_8 (by decide) (fun _ => ?_) (fun _ => ?_)
  · exact w_X7_wayTaken_26 a1 a2 μ
  · refine z_aload_n (pc := 11) dX7_wayTaken_11 rfl ?_
    refine zgR_X7_11 (pc := 12) gc_31 rfl dX7_wayTaken_12 ?_
    refine z_iload_n (pc := 15) dX7_wayTaken_15 rfl ?_
    refine z_callVi (pc := 16) (As := [.int a2]) (S := []) (c_X6_isHouse zstr_1 a2 μ) rfl zw_X6_isHouse zv_X6_isHouse zm_X7_81 (n := 1) (by decide) rfl (z_recv gc_1 (T := TX6) (N := 10) rfl) rfl (Nat.le_of_ble_eq_true rfl) (by decide) (by decide) dX7_wayTaken_16 ?_
    refine z_outIf ?_
    refine z_if_eq (pc := 19) (tgt := 26) dX7_wayTaken_19 (by decide) (fun _ => ?_) (fun _ => ?_)
    · exact w_X7_wayTaken_26 a1 a2 μ
    · refine z_iconst (pc := 22) dX7_wayTaken_22 zci_1 ?_
      refine z_goto (pc := 23) (tgt := 27) dX7_wayTaken_23 (by decide) ?_
      exact w_X7_wayTaken_27 a1 a2 1 μ

set_option maxRecDepth 20000 in
theorem c_X7_wayTaken {D : va_G} {cI cL : ClassId} {b : Nat} {Z : State → Heap → Prop}  (a1 : Int32) (a2 : Int32) (μ : z_M) : z_S (zEc D cI cL b Z) 1 yX7_wayTaken cX7_wayTaken 4 (some .int) z_ei [.ref (b + 31), .int a1, .int a2] μ (z_oP μ (f_X7_wayTaken a1 a2 μ)) :=
  z_entry (yn := yX7_wayTaken) (by decide) (Nat.le_of_ble_eq_true rfl) rfl (w_X7_wayTaken_0 a1 a2 μ)

def f_X7_visitsMade  (μ : z_M) : Int32 :=
  (μ.1 31 6)
set_option maxRecDepth 20000 in
theorem w_X7_visitsMade_0 {D : va_G} {cI cL : ClassId} {b : Nat} {Z : State → Heap → Prop}   (μ : z_M) : z_w (zEc D cI cL b Z) (RX7, cX7_visitsMade, 1, (some .int), 0) z_ei 0 [(0, .ref (b + 31))] [] μ (z_oP μ (f_X7_visitsMade μ)) := by
  unfold f_X7_visitsMade
  refine z_aload_n (pc := 0) dX7_visitsMade_0 rfl ?_
  refine zgI_X7_41 (pc := 1) gc_31 rfl dX7_visitsMade_1 ?_
  exact z_iret (pc := 4) rfl dX7_visitsMade_4

set_option maxRecDepth 20000 in
theorem c_X7_visitsMade {D : va_G} {cI cL : ClassId} {b : Nat} {Z : State → Heap → Prop}   (μ : z_M) : z_S (zEc D cI cL b Z) 0 yX7_visitsMade cX7_visitsMade 1 (some .int) z_ei [.ref (b + 31)] μ (z_oP μ (f_X7_visitsMade μ)) :=
  z_entry (yn := yX7_visitsMade) (by decide) (Nat.le_of_ble_eq_true rfl) rfl (w_X7_visitsMade_0  μ)

def f_X7_placeAt (a1 : Int32) (μ : z_M) : Int32 :=
  if a1 < 0 then ((f_X6_birdAt 1 μ)) else ((g_get 35 40 a1 μ))
set_option maxRecDepth 20000 in
theorem w_X7_placeAt_0 {D : va_G} {cI cL : ClassId} {b : Nat} {Z : State → Heap → Prop}  (a1 : Int32) (μ : z_M) : z_w (zEc D cI cL b Z) (RX7, cX7_placeAt, 2, (some .int), 1) z_ei 0 [(0, .ref (b + 31)), (1, .int a1)] [] μ (z_oP μ (f_X7_placeAt a1 μ)) := by
  unfold f_X7_placeAt
  refine z_iload_n (pc := 0) dX7_placeAt_0 rfl ?_
  refine z_outIf ?_
  refine z_if_ge (pc := 1) (tgt := 14) dX7_placeAt_1 (by decide) (fun _ => ?_) (fun _ => ?_)
  · refine z_aload_n (pc := 4) dX7_placeAt_4 rfl ?_
    refine zgR_X7_11 (pc := 5) gc_31 rfl dX7_placeAt_5 ?_
    refine z_callVi (pc := 8) (As := []) (S := []) (c_X6_birdAt zstr_1 μ) rfl zw_X6_birdAt zv_X6_birdAt zm_X7_87 (n := 0) (by decide) rfl (z_recv gc_1 (T := TX6) (N := 10) rfl) rfl (Nat.le_of_ble_eq_true rfl) (by decide) (by decide) dX7_placeAt_8 ?_
    refine z_goto (pc := 11) (tgt := 22) dX7_placeAt_11 (by decide) ?_
    exact z_iret (pc := 22) rfl dX7_placeAt_22
  · refine z_aload_n (pc := 14) dX7_placeAt_14 rfl ?_
    refine zgR_X7_26 (pc := 15) gc_31 rfl dX7_placeAt_15 ?_
    refine z_iload_n (pc := 18) dX7_placeAt_18 rfl ?_
    refine z_callVi (pc := 19) (As := [.int a1]) (S := []) (g_X1_get gc_34 gc_35 (Nat.le_of_ble_eq_true rfl) a1 μ) rfl zw_X1_get zv_X1_get zm_X7_84 (n := 1) (by decide) rfl (z_recv gc_34 (T := TX1) (N := 1) rfl) rfl (Nat.le_of_ble_eq_true rfl) (by decide) (by decide) dX7_placeAt_19 ?_
    exact z_iret (pc := 22) rfl dX7_placeAt_22

set_option maxRecDepth 20000 in
theorem c_X7_placeAt {D : va_G} {cI cL : ClassId} {b : Nat} {Z : State → Heap → Prop}  (a1 : Int32) (μ : z_M) : z_S (zEc D cI cL b Z) 1 yX7_placeAt cX7_placeAt 2 (some .int) z_ei [.ref (b + 31), .int a1] μ (z_oP μ (f_X7_placeAt a1 μ)) :=
  z_entry (yn := yX7_placeAt) (by decide) (Nat.le_of_ble_eq_true rfl) rfl (w_X7_placeAt_0 a1 μ)

def f_X7_place  (μ : z_M) : Int32 :=
  if (0 : Int32) < (μ.1 31 6) then ((g_get 35 40 ((μ.1 31 6) - 1) μ)) else ((f_X6_birdAt 1 μ))
set_option maxRecDepth 20000 in
theorem w_X7_place_0 {D : va_G} {cI cL : ClassId} {b : Nat} {Z : State → Heap → Prop}   (μ : z_M) : z_w (zEc D cI cL b Z) (RX7, cX7_place, 1, (some .int), 1) z_ei 0 [(0, .ref (b + 31))] [] μ (z_oP μ (f_X7_place μ)) := by
  unfold f_X7_place
  refine z_aload_n (pc := 0) dX7_place_0 rfl ?_
  refine zgI_X7_41 (pc := 1) gc_31 rfl dX7_place_1 ?_
  refine z_outIf ?_
  refine z_if_le (pc := 4) (tgt := 23) dX7_place_4 (by decide) (fun _ => ?_) (fun _ => ?_)
  · refine z_aload_n (pc := 7) dX7_place_7 rfl ?_
    refine zgR_X7_26 (pc := 8) gc_31 rfl dX7_place_8 ?_
    refine z_aload_n (pc := 11) dX7_place_11 rfl ?_
    refine zgI_X7_41 (pc := 12) gc_31 rfl dX7_place_12 ?_
    refine z_iconst (pc := 15) dX7_place_15 zci_1 ?_
    refine z_isub (pc := 16) dX7_place_16 ?_
    refine z_callVi (pc := 17) (As := [.int ((μ.1 31 6) - 1)]) (S := []) (g_X1_get gc_34 gc_35 (Nat.le_of_ble_eq_true rfl) ((μ.1 31 6) - 1) μ) rfl zw_X1_get zv_X1_get zm_X7_84 (n := 1) (by decide) rfl (z_recv gc_34 (T := TX1) (N := 1) rfl) rfl (Nat.le_of_ble_eq_true rfl) (by decide) (by decide) dX7_place_17 ?_
    refine z_goto (pc := 20) (tgt := 30) dX7_place_20 (by decide) ?_
    exact z_iret (pc := 30) rfl dX7_place_30
  · refine z_aload_n (pc := 23) dX7_place_23 rfl ?_
    refine zgR_X7_11 (pc := 24) gc_31 rfl dX7_place_24 ?_
    refine z_callVi (pc := 27) (As := []) (S := []) (c_X6_birdAt zstr_1 μ) rfl zw_X6_birdAt zv_X6_birdAt zm_X7_87 (n := 0) (by decide) rfl (z_recv gc_1 (T := TX6) (N := 10) rfl) rfl (Nat.le_of_ble_eq_true rfl) (by decide) (by decide) dX7_place_27 ?_
    exact z_iret (pc := 30) rfl dX7_place_30

set_option maxRecDepth 20000 in
theorem c_X7_place {D : va_G} {cI cL : ClassId} {b : Nat} {Z : State → Heap → Prop}   (μ : z_M) : z_S (zEc D cI cL b Z) 1 yX7_place cX7_place 1 (some .int) z_ei [.ref (b + 31)] μ (z_oP μ (f_X7_place μ)) :=
  z_entry (yn := yX7_place) (by decide) (Nat.le_of_ble_eq_true rfl) rfl (w_X7_place_0  μ)

def f_X7_minutesTaken  (μ : z_M) : Int32 :=
  (g_get 41 41 (μ.1 31 6) μ)
set_option maxRecDepth 20000 in
theorem w_X7_minutesTaken_0 {D : va_G} {cI cL : ClassId} {b : Nat} {Z : State → Heap → Prop}   (μ : z_M) : z_w (zEc D cI cL b Z) (RX7, cX7_minutesTaken, 1, (some .int), 1) z_ei 0 [(0, .ref (b + 31))] [] μ (z_oP μ (f_X7_minutesTaken μ)) := by
  unfold f_X7_minutesTaken
  refine z_aload_n (pc := 0) dX7_minutesTaken_0 rfl ?_
  refine zgR_X7_35 (pc := 1) gc_31 rfl dX7_minutesTaken_1 ?_
  refine z_aload_n (pc := 4) dX7_minutesTaken_4 rfl ?_
  refine zgI_X7_41 (pc := 5) gc_31 rfl dX7_minutesTaken_5 ?_
  refine z_callVi (pc := 8) (As := [.int (μ.1 31 6)]) (S := []) (g_X1_get gc_40 gc_41 (Nat.le_of_ble_eq_true rfl) (μ.1 31 6) μ) rfl zw_X1_get zv_X1_get zm_X7_84 (n := 1) (by decide) rfl (z_recv gc_40 (T := TX1) (N := 1) rfl) rfl (Nat.le_of_ble_eq_true rfl) (by decide) (by decide) dX7_minutesTaken_8 ?_
  exact z_iret (pc := 11) rfl dX7_minutesTaken_11

set_option maxRecDepth 20000 in
theorem c_X7_minutesTaken {D : va_G} {cI cL : ClassId} {b : Nat} {Z : State → Heap → Prop}   (μ : z_M) : z_S (zEc D cI cL b Z) 1 yX7_minutesTaken cX7_minutesTaken 1 (some .int) z_ei [.ref (b + 31)] μ (z_oP μ (f_X7_minutesTaken μ)) :=
  z_entry (yn := yX7_minutesTaken) (by decide) (Nat.le_of_ble_eq_true rfl) rfl (w_X7_minutesTaken_0  μ)

def f_X7_heardBy_b35 (r4 : Int32 → Int32 → Int32 → z_M → Option (Int32 × z_M)) (n : Nat) (l1 : Int32) (l2 : Int32) (l3 : Int32) (μ : z_M) : Option (Int32 × z_M) :=
  r4 l1 l2 (l3 + 1) μ
def f_X7_heardBy_h4 : Nat → Int32 → Int32 → Int32 → z_M → Option (Int32 × z_M)
  | 0, _, _, _, _ => none
  | n + 1, l1, l2, l3, μ =>
    if l3 < (μ.1 31 6) then (if (g_get 35 40 l3 μ) = l1 then (z_let ((l2 ||| (g_get 37 40 l3 μ)) : Int32) (fun x1 => f_X7_heardBy_b35 (f_X7_heardBy_h4 n) n l1 x1 l3 μ)) else (f_X7_heardBy_b35 (f_X7_heardBy_h4 n) n l1 l2 l3 μ)) else (some (l2, μ))
def f_X7_heardBy (n : Nat) (a1 : Int32) (μ : z_M) : Option (Int32 × z_M) :=
  f_X7_heardBy_h4 n a1 0 0 μ
set_option maxRecDepth 20000 in
theorem w_X7_heardBy_35 {D : va_G} {cI cL : ClassId} {b : Nat} {Z : State → Heap → Prop}  (r4 : Int32 → Int32 → Int32 → z_M → Option (Int32 × z_M)) (hr4 : ∀ (l1 : Int32) (l2 : Int32) (l3 : Int32) (μ : z_M), z_w (zEc D cI cL b Z) (RX7, cX7_heardBy, 4, (some .int), 1) z_ei 4 [(0, .ref (b + 31)), (1, .int l1), (2, .int l2), (3, .int l3)] [] μ ((r4 l1 l2 l3 μ))) (n : Nat) (l1 : Int32) (l2 : Int32) (l3 : Int32) (μ : z_M) : z_w (zEc D cI cL b Z) (RX7, cX7_heardBy, 4, (some .int), 1) z_ei 35 [(0, .ref (b + 31)), (1, .int l1), (2, .int l2), (3, .int l3)] [] μ ((f_X7_heardBy_b35 r4 n l1 l2 l3 μ)) := by
  unfold f_X7_heardBy_b35
  refine z_iinc (pc := 35) (v := (l3 + 1)) (L' := [(0, .ref (b + 31)), (1, .int l1), (2, .int l2), (3, .int (l3 + 1))]) dX7_heardBy_35 rfl (by decide) rfl rfl ?_
  refine z_goto (pc := 38) (tgt := 4) dX7_heardBy_38 (by decide) ?_
  exact hr4 l1 l2 (l3 + 1) μ

set_option maxRecDepth 20000 in
theorem w_X7_heardBy_4 {D : va_G} {cI cL : ClassId} {b : Nat} {Z : State → Heap → Prop}  : ∀ (n : Nat) (l1 : Int32) (l2 : Int32) (l3 : Int32) (μ : z_M), z_w (zEc D cI cL b Z) (RX7, cX7_heardBy, 4, (some .int), 1) z_ei 4 [(0, .ref (b + 31)), (1, .int l1), (2, .int l2), (3, .int l3)] [] μ (f_X7_heardBy_h4 n l1 l2 l3 μ) := by
  intro n
  induction n with
  | zero =>
    intro l1 l2 l3 μ
    exact z_none
  | succ n ih =>
    intro l1 l2 l3 μ
    unfold f_X7_heardBy_h4
    refine z_iload_n (pc := 4) dX7_heardBy_4 rfl ?_
    refine z_aload_n (pc := 5) dX7_heardBy_5 rfl ?_
    refine zgI_X7_41 (pc := 6) gc_31 rfl dX7_heardBy_6 ?_
    refine z_icmp_ge (pc := 9) (tgt := 41) dX7_heardBy_9 (by decide) (fun _ => ?_) (fun _ => ?_)
    · refine z_aload_n (pc := 12) dX7_heardBy_12 rfl ?_
      refine zgR_X7_26 (pc := 13) gc_31 rfl dX7_heardBy_13 ?_
      refine z_iload_n (pc := 16) dX7_heardBy_16 rfl ?_
      refine z_callVi (pc := 17) (As := [.int l3]) (S := []) (g_X1_get gc_34 gc_35 (Nat.le_of_ble_eq_true rfl) l3 μ) rfl zw_X1_get zv_X1_get zm_X7_84 (n := 1) (by decide) rfl (z_recv gc_34 (T := TX1) (N := 1) rfl) rfl (Nat.le_of_ble_eq_true rfl) (by decide) (by decide) dX7_heardBy_17 ?_
      refine z_iload_n (pc := 20) dX7_heardBy_20 rfl ?_
      refine z_icmp_ne (pc := 21) (tgt := 35) dX7_heardBy_21 (by decide) (fun _ => ?_) (fun _ => ?_)
      · refine z_iload_n (pc := 24) dX7_heardBy_24 rfl ?_
        refine z_aload_n (pc := 25) dX7_heardBy_25 rfl ?_
        refine zgR_X7_29 (pc := 26) gc_31 rfl dX7_heardBy_26 ?_
        refine z_iload_n (pc := 29) dX7_heardBy_29 rfl ?_
        refine z_callVi (pc := 30) (As := [.int l3]) (S := [.int l2]) (g_X1_get gc_36 gc_37 (Nat.le_of_ble_eq_true rfl) l3 μ) rfl zw_X1_get zv_X1_get zm_X7_84 (n := 1) (by decide) rfl (z_recv gc_36 (T := TX1) (N := 1) rfl) rfl (Nat.le_of_ble_eq_true rfl) (by decide) (by decide) dX7_heardBy_30 ?_
        refine z_ior (pc := 33) dX7_heardBy_33 ?_
        refine z_letIO (fun x1 => ?_)
        refine z_istore_n (pc := 34) (L' := [(0, .ref (b + 31)), (1, .int l1), (2, .int x1), (3, .int l3)]) dX7_heardBy_34 (by decide) rfl ?_
        exact w_X7_heardBy_35 _ ih n l1 x1 l3 μ
      · exact w_X7_heardBy_35 _ ih n l1 l2 l3 μ
    · refine z_iload_n (pc := 41) dX7_heardBy_41 rfl ?_
      exact z_iret (pc := 42) rfl dX7_heardBy_42

set_option maxRecDepth 20000 in
theorem w_X7_heardBy_0 {D : va_G} {cI cL : ClassId} {b : Nat} {Z : State → Heap → Prop}  (n : Nat) (a1 : Int32) (μ : z_M) : z_w (zEc D cI cL b Z) (RX7, cX7_heardBy, 4, (some .int), 1) z_ei 0 [(0, .ref (b + 31)), (1, .int a1)] [] μ ((f_X7_heardBy n a1 μ)) := by
  unfold f_X7_heardBy
  refine z_iconst (pc := 0) dX7_heardBy_0 zci_0 ?_
  refine z_istore_n (pc := 1) (L' := [(0, .ref (b + 31)), (1, .int a1), (2, .int 0)]) dX7_heardBy_1 (by decide) rfl ?_
  refine z_iconst (pc := 2) dX7_heardBy_2 zci_0 ?_
  refine z_istore_n (pc := 3) (L' := [(0, .ref (b + 31)), (1, .int a1), (2, .int 0), (3, .int 0)]) dX7_heardBy_3 (by decide) rfl ?_
  exact w_X7_heardBy_4 n a1 0 0 μ

set_option maxRecDepth 20000 in
theorem c_X7_heardBy {D : va_G} {cI cL : ClassId} {b : Nat} {Z : State → Heap → Prop}  (n : Nat) (a1 : Int32) (μ : z_M) : z_S (zEc D cI cL b Z) 1 yX7_heardBy cX7_heardBy 4 (some .int) z_ei [.ref (b + 31), .int a1] μ ((f_X7_heardBy n a1 μ)) :=
  z_entry (yn := yX7_heardBy) (by decide) (Nat.le_of_ble_eq_true rfl) rfl (w_X7_heardBy_0 n a1 μ)

def f_X7_visitsOf_b27 (r4 : Int32 → Int32 → Int32 → z_M → Option (Int32 × z_M)) (n : Nat) (l1 : Int32) (l2 : Int32) (l3 : Int32) (μ : z_M) : Option (Int32 × z_M) :=
  r4 l1 l2 (l3 + 1) μ
def f_X7_visitsOf_h4 : Nat → Int32 → Int32 → Int32 → z_M → Option (Int32 × z_M)
  | 0, _, _, _, _ => none
  | n + 1, l1, l2, l3, μ =>
    if l3 < (μ.1 31 6) then (if (g_get 35 40 l3 μ) = l1 then (f_X7_visitsOf_b27 (f_X7_visitsOf_h4 n) n l1 (l2 + 1) l3 μ) else (f_X7_visitsOf_b27 (f_X7_visitsOf_h4 n) n l1 l2 l3 μ)) else (some (l2, μ))
def f_X7_visitsOf (n : Nat) (a1 : Int32) (μ : z_M) : Option (Int32 × z_M) :=
  f_X7_visitsOf_h4 n a1 0 0 μ
set_option maxRecDepth 20000 in
theorem w_X7_visitsOf_27 {D : va_G} {cI cL : ClassId} {b : Nat} {Z : State → Heap → Prop}  (r4 : Int32 → Int32 → Int32 → z_M → Option (Int32 × z_M)) (hr4 : ∀ (l1 : Int32) (l2 : Int32) (l3 : Int32) (μ : z_M), z_w (zEc D cI cL b Z) (RX7, cX7_visitsOf, 4, (some .int), 1) z_ei 4 [(0, .ref (b + 31)), (1, .int l1), (2, .int l2), (3, .int l3)] [] μ ((r4 l1 l2 l3 μ))) (n : Nat) (l1 : Int32) (l2 : Int32) (l3 : Int32) (μ : z_M) : z_w (zEc D cI cL b Z) (RX7, cX7_visitsOf, 4, (some .int), 1) z_ei 27 [(0, .ref (b + 31)), (1, .int l1), (2, .int l2), (3, .int l3)] [] μ ((f_X7_visitsOf_b27 r4 n l1 l2 l3 μ)) := by
  unfold f_X7_visitsOf_b27
  refine z_iinc (pc := 27) (v := (l3 + 1)) (L' := [(0, .ref (b + 31)), (1, .int l1), (2, .int l2), (3, .int (l3 + 1))]) dX7_visitsOf_27 rfl (by decide) rfl rfl ?_
  refine z_goto (pc := 30) (tgt := 4) dX7_visitsOf_30 (by decide) ?_
  exact hr4 l1 l2 (l3 + 1) μ

set_option maxRecDepth 20000 in
theorem w_X7_visitsOf_4 {D : va_G} {cI cL : ClassId} {b : Nat} {Z : State → Heap → Prop}  : ∀ (n : Nat) (l1 : Int32) (l2 : Int32) (l3 : Int32) (μ : z_M), z_w (zEc D cI cL b Z) (RX7, cX7_visitsOf, 4, (some .int), 1) z_ei 4 [(0, .ref (b + 31)), (1, .int l1), (2, .int l2), (3, .int l3)] [] μ (f_X7_visitsOf_h4 n l1 l2 l3 μ) := by
  intro n
  induction n with
  | zero =>
    intro l1 l2 l3 μ
    exact z_none
  | succ n ih =>
    intro l1 l2 l3 μ
    unfold f_X7_visitsOf_h4
    refine z_iload_n (pc := 4) dX7_visitsOf_4 rfl ?_
    refine z_aload_n (pc := 5) dX7_visitsOf_5 rfl ?_
    refine zgI_X7_41 (pc := 6) gc_31 rfl dX7_visitsOf_6 ?_
    refine z_icmp_ge (pc := 9) (tgt := 33) dX7_visitsOf_9 (by decide) (fun _ => ?_) (fun _ => ?_)
    · refine z_aload_n (pc := 12) dX7_visitsOf_12 rfl ?_
      refine zgR_X7_26 (pc := 13) gc_31 rfl dX7_visitsOf_13 ?_
      refine z_iload_n (pc := 16) dX7_visitsOf_16 rfl ?_
      refine z_callVi (pc := 17) (As := [.int l3]) (S := []) (g_X1_get gc_34 gc_35 (Nat.le_of_ble_eq_true rfl) l3 μ) rfl zw_X1_get zv_X1_get zm_X7_84 (n := 1) (by decide) rfl (z_recv gc_34 (T := TX1) (N := 1) rfl) rfl (Nat.le_of_ble_eq_true rfl) (by decide) (by decide) dX7_visitsOf_17 ?_
      refine z_iload_n (pc := 20) dX7_visitsOf_20 rfl ?_
      refine z_icmp_ne (pc := 21) (tgt := 27) dX7_visitsOf_21 (by decide) (fun _ => ?_) (fun _ => ?_)
      · refine z_iinc (pc := 24) (v := (l2 + 1)) (L' := [(0, .ref (b + 31)), (1, .int l1), (2, .int (l2 + 1)), (3, .int l3)]) dX7_visitsOf_24 rfl (by decide) rfl rfl ?_
        exact w_X7_visitsOf_27 _ ih n l1 (l2 + 1) l3 μ
      · exact w_X7_visitsOf_27 _ ih n l1 l2 l3 μ
    · refine z_iload_n (pc := 33) dX7_visitsOf_33 rfl ?_
      exact z_iret (pc := 34) rfl dX7_visitsOf_34

set_option maxRecDepth 20000 in
theorem w_X7_visitsOf_0 {D : va_G} {cI cL : ClassId} {b : Nat} {Z : State → Heap → Prop}  (n : Nat) (a1 : Int32) (μ : z_M) : z_w (zEc D cI cL b Z) (RX7, cX7_visitsOf, 4, (some .int), 1) z_ei 0 [(0, .ref (b + 31)), (1, .int a1)] [] μ ((f_X7_visitsOf n a1 μ)) := by
  unfold f_X7_visitsOf
  refine z_iconst (pc := 0) dX7_visitsOf_0 zci_0 ?_
  refine z_istore_n (pc := 1) (L' := [(0, .ref (b + 31)), (1, .int a1), (2, .int 0)]) dX7_visitsOf_1 (by decide) rfl ?_
  refine z_iconst (pc := 2) dX7_visitsOf_2 zci_0 ?_
  refine z_istore_n (pc := 3) (L' := [(0, .ref (b + 31)), (1, .int a1), (2, .int 0), (3, .int 0)]) dX7_visitsOf_3 (by decide) rfl ?_
  exact w_X7_visitsOf_4 n a1 0 0 μ

set_option maxRecDepth 20000 in
theorem c_X7_visitsOf {D : va_G} {cI cL : ClassId} {b : Nat} {Z : State → Heap → Prop}  (n : Nat) (a1 : Int32) (μ : z_M) : z_S (zEc D cI cL b Z) 1 yX7_visitsOf cX7_visitsOf 4 (some .int) z_ei [.ref (b + 31), .int a1] μ ((f_X7_visitsOf n a1 μ)) :=
  z_entry (yn := yX7_visitsOf) (by decide) (Nat.le_of_ble_eq_true rfl) rfl (w_X7_visitsOf_0 n a1 μ)

def f_X7_stepTo (n : Nat) (a1 : Int32) (μ : z_M) : Option (Int32 × z_M) :=
  z_let ((f_X7_wayTaken (f_X7_place μ) a1 μ) : Int32) (fun x1 => if x1 = (-1) then (some (0, μ)) else (if (μ.1 31 6) < 40 then (z_let ((g_get 39 43 ((3 + (μ.1 31 6)) - (μ.1 31 7)) μ) : Int32) (fun x2 => z_let (g_put 37 40 (μ.1 31 6) x2 μ) (fun m3 => z_bind (f_X7_heardBy n a1 m3) (fun p4 => z_bind (f_X7_visitsOf n a1 p4.2) (fun p5 => z_let (g_put 39 43 (3 + (m3.1 31 6)) (f_X6_answerAfter 1 a1 x2 p4.1 p5.1 p5.2) p5.2) (fun m6 => z_let (g_put 41 41 ((m6.1 31 6) + 1) ((g_get 41 41 (m6.1 31 6) m6) + (f_X6_ofWay 1 x1 2 m6)) m6) (fun m7 => z_let (g_put 35 40 (m7.1 31 6) a1 m7) (fun m8 => z_let (z_sI m8 31 6 ((m8.1 31 6) + 1)) (fun m9 => some (1, m9)))))))))) else (some (0, μ))))
set_option maxRecDepth 20000 in
theorem w_X7_stepTo_0 {D : va_G} {cI cL : ClassId} {b : Nat} {Z : State → Heap → Prop}  (n : Nat) (a1 : Int32) (μ : z_M) : z_w (zEc D cI cL b Z) (RX7, cX7_stepTo, 4, (some .boolean), 2) z_ei 0 [(0, .ref (b + 31)), (1, .int a1)] [] μ ((f_X7_stepTo n a1 μ)) := by
  unfold f_X7_stepTo
  refine z_aload_n (pc := 0) dX7_stepTo_0 rfl ?_
  refine z_aload_n (pc := 1) dX7_stepTo_1 rfl ?_
  refine z_callVi (pc := 2) (As := []) (S := [.ref (b + 31)]) (c_X7_place μ) rfl zw_X7_place zv_X7_place zm_X7_90 (n := 0) (by decide) rfl (z_recv gc_31 (T := TX7) (N := 8) rfl) rfl (Nat.le_of_ble_eq_true rfl) (by decide) (by decide) dX7_stepTo_2 ?_
  refine z_iload_n (pc := 5) dX7_stepTo_5 rfl ?_
  refine z_callVi (pc := 6) (As := [.int (f_X7_place μ), .int a1]) (S := []) (c_X7_wayTaken (f_X7_place μ) a1 μ) rfl zw_X7_wayTaken zv_X7_wayTaken zm_X7_78 (n := 2) (by decide) rfl (z_recv gc_31 (T := TX7) (N := 8) rfl) rfl (Nat.le_of_ble_eq_true rfl) (by decide) (by decide) dX7_stepTo_6 ?_
  refine z_letIO (fun x1 => ?_)
  refine z_istore_n (pc := 9) (L' := [(0, .ref (b + 31)), (1, .int a1), (2, .int x1)]) dX7_stepTo_9 (by decide) rfl ?_
  refine z_iload_n (pc := 10) dX7_stepTo_10 rfl ?_
  refine z_iconst (pc := 11) dX7_stepTo_11 zci_m1 ?_
  refine z_icmp_eq (pc := 12) (tgt := 24) dX7_stepTo_12 (by decide) (fun _ => ?_) (fun _ => ?_)
  · refine z_iconst (pc := 24) dX7_stepTo_24 zci_0 ?_
    exact z_zret (pc := 25) rfl dX7_stepTo_25 (by decide)
  · refine z_aload_n (pc := 15) dX7_stepTo_15 rfl ?_
    refine zgI_X7_41 (pc := 16) gc_31 rfl dX7_stepTo_16 ?_
    refine z_bipush (pc := 19) dX7_stepTo_19 zcb_40 ?_
    refine z_icmp_lt (pc := 21) (tgt := 26) dX7_stepTo_21 (by decide) (fun _ => ?_) (fun _ => ?_)
    · refine z_aload_n (pc := 26) dX7_stepTo_26 rfl ?_
      refine zgR_X7_32 (pc := 27) gc_31 rfl dX7_stepTo_27 ?_
      refine z_iconst (pc := 30) dX7_stepTo_30 zci_3 ?_
      refine z_aload_n (pc := 31) dX7_stepTo_31 rfl ?_
      refine zgI_X7_41 (pc := 32) gc_31 rfl dX7_stepTo_32 ?_
      refine z_iadd (pc := 35) dX7_stepTo_35 ?_
      refine z_aload_n (pc := 36) dX7_stepTo_36 rfl ?_
      refine zgI_X7_49 (pc := 37) gc_31 rfl dX7_stepTo_37 ?_
      refine z_isub (pc := 40) dX7_stepTo_40 ?_
      refine z_callVi (pc := 41) (As := [.int ((3 + (μ.1 31 6)) - (μ.1 31 7))]) (S := []) (g_X1_get gc_38 gc_39 (Nat.le_of_ble_eq_true rfl) ((3 + (μ.1 31 6)) - (μ.1 31 7)) μ) rfl zw_X1_get zv_X1_get zm_X7_84 (n := 1) (by decide) rfl (z_recv gc_38 (T := TX1) (N := 1) rfl) rfl (Nat.le_of_ble_eq_true rfl) (by decide) (by decide) dX7_stepTo_41 ?_
      refine z_letIO (fun x2 => ?_)
      refine z_istore_n (pc := 44) (L' := [(0, .ref (b + 31)), (1, .int a1), (2, .int x1), (3, .int x2)]) dX7_stepTo_44 (by decide) rfl ?_
      refine z_aload_n (pc := 45) dX7_stepTo_45 rfl ?_
      refine zgR_X7_29 (pc := 46) gc_31 rfl dX7_stepTo_46 ?_
      refine z_aload_n (pc := 49) dX7_stepTo_49 rfl ?_
      refine zgI_X7_41 (pc := 50) gc_31 rfl dX7_stepTo_50 ?_
      refine z_iload_n (pc := 53) dX7_stepTo_53 rfl ?_
      refine z_letPO (fun m3 hm3 => ?_)
      refine z_callVv (pc := 54) (As := [.int (μ.1 31 6), .int x2]) (S := []) (g_X1_keep gc_36 gc_37 (Nat.le_of_ble_eq_true rfl) (μ.1 31 6) x2 μ) (z_pV hm3) zw_X1_keep zv_X1_keep zm_X7_56 (n := 2) (by decide) rfl (z_recv gc_36 (T := TX1) (N := 1) rfl) rfl (Nat.le_of_ble_eq_true rfl) (by decide) (by decide) dX7_stepTo_54 ?_
      refine z_aload_n (pc := 57) dX7_stepTo_57 rfl ?_
      refine zgR_X7_32 (pc := 58) gc_31 rfl dX7_stepTo_58 ?_
      refine z_iconst (pc := 61) dX7_stepTo_61 zci_3 ?_
      refine z_aload_n (pc := 62) dX7_stepTo_62 rfl ?_
      refine zgI_X7_41 (pc := 63) gc_31 rfl dX7_stepTo_63 ?_
      refine z_iadd (pc := 66) dX7_stepTo_66 ?_
      refine z_aload_n (pc := 67) dX7_stepTo_67 rfl ?_
      refine zgR_X7_11 (pc := 68) gc_31 rfl dX7_stepTo_68 ?_
      refine z_iload_n (pc := 71) dX7_stepTo_71 rfl ?_
      refine z_iload_n (pc := 72) dX7_stepTo_72 rfl ?_
      refine z_aload_n (pc := 73) dX7_stepTo_73 rfl ?_
      refine z_iload_n (pc := 74) dX7_stepTo_74 rfl ?_
      refine z_bindP (fun p4 hp4 => ?_)
      refine z_callVi (pc := 75) (As := [.int a1]) (S := [.int x2, .int a1, .ref (b + 1), .int (3 + (m3.1 31 6)), .ref (b + 38)]) (c_X7_heardBy n a1 m3) hp4 zw_X7_heardBy zv_X7_heardBy zm_X7_93 (n := 1) (by decide) rfl (z_recv gc_31 (T := TX7) (N := 8) rfl) rfl (Nat.le_of_ble_eq_true rfl) (by decide) (by decide) dX7_stepTo_75 ?_
      refine z_aload_n (pc := 78) dX7_stepTo_78 rfl ?_
      refine z_iload_n (pc := 79) dX7_stepTo_79 rfl ?_
      refine z_bindP (fun p5 hp5 => ?_)
      refine z_callVi (pc := 80) (As := [.int a1]) (S := [.int p4.1, .int x2, .int a1, .ref (b + 1), .int (3 + (m3.1 31 6)), .ref (b + 38)]) (c_X7_visitsOf n a1 p4.2) hp5 zw_X7_visitsOf zv_X7_visitsOf zm_X7_96 (n := 1) (by decide) rfl (z_recv gc_31 (T := TX7) (N := 8) rfl) rfl (Nat.le_of_ble_eq_true rfl) (by decide) (by decide) dX7_stepTo_80 ?_
      refine z_callVi (pc := 83) (As := [.int a1, .int x2, .int p4.1, .int p5.1]) (S := [.int (3 + (m3.1 31 6)), .ref (b + 38)]) (c_X6_answerAfter zstr_1 a1 x2 p4.1 p5.1 p5.2) rfl zw_X6_answerAfter zv_X6_answerAfter zm_X7_99 (n := 4) (by decide) rfl (z_recv gc_1 (T := TX6) (N := 10) rfl) rfl (Nat.le_of_ble_eq_true rfl) (by decide) (by decide) dX7_stepTo_83 ?_
      refine z_letPO (fun m6 hm6 => ?_)
      refine z_callVv (pc := 86) (As := [.int (3 + (m3.1 31 6)), .int (f_X6_answerAfter 1 a1 x2 p4.1 p5.1 p5.2)]) (S := []) (g_X1_keep gc_38 gc_39 (Nat.le_of_ble_eq_true rfl) (3 + (m3.1 31 6)) (f_X6_answerAfter 1 a1 x2 p4.1 p5.1 p5.2) p5.2) (z_pV hm6) zw_X1_keep zv_X1_keep zm_X7_56 (n := 2) (by decide) rfl (z_recv gc_38 (T := TX1) (N := 1) rfl) rfl (Nat.le_of_ble_eq_true rfl) (by decide) (by decide) dX7_stepTo_86 ?_
      refine z_aload_n (pc := 89) dX7_stepTo_89 rfl ?_
      refine zgR_X7_35 (pc := 90) gc_31 rfl dX7_stepTo_90 ?_
      refine z_aload_n (pc := 93) dX7_stepTo_93 rfl ?_
      refine zgI_X7_41 (pc := 94) gc_31 rfl dX7_stepTo_94 ?_
      refine z_iconst (pc := 97) dX7_stepTo_97 zci_1 ?_
      refine z_iadd (pc := 98) dX7_stepTo_98 ?_
      refine z_aload_n (pc := 99) dX7_stepTo_99 rfl ?_
      refine zgR_X7_35 (pc := 100) gc_31 rfl dX7_stepTo_100 ?_
      refine z_aload_n (pc := 103) dX7_stepTo_103 rfl ?_
      refine zgI_X7_41 (pc := 104) gc_31 rfl dX7_stepTo_104 ?_
      refine z_callVi (pc := 107) (As := [.int (m6.1 31 6)]) (S := [.int ((m6.1 31 6) + 1), .ref (b + 40)]) (g_X1_get gc_40 gc_41 (Nat.le_of_ble_eq_true rfl) (m6.1 31 6) m6) rfl zw_X1_get zv_X1_get zm_X7_84 (n := 1) (by decide) rfl (z_recv gc_40 (T := TX1) (N := 1) rfl) rfl (Nat.le_of_ble_eq_true rfl) (by decide) (by decide) dX7_stepTo_107 ?_
      refine z_aload_n (pc := 110) dX7_stepTo_110 rfl ?_
      refine zgR_X7_11 (pc := 111) gc_31 rfl dX7_stepTo_111 ?_
      refine z_iload_n (pc := 114) dX7_stepTo_114 rfl ?_
      refine z_iconst (pc := 115) dX7_stepTo_115 zci_2 ?_
      refine z_callVi (pc := 116) (As := [.int x1, .int 2]) (S := [.int (g_get 41 41 (m6.1 31 6) m6), .int ((m6.1 31 6) + 1), .ref (b + 40)]) (c_X6_ofWay zstr_1 x1 2 m6) rfl zw_X6_ofWay zv_X6_ofWay zm_X7_67 (n := 2) (by decide) rfl (z_recv gc_1 (T := TX6) (N := 10) rfl) rfl (Nat.le_of_ble_eq_true rfl) (by decide) (by decide) dX7_stepTo_116 ?_
      refine z_iadd (pc := 119) dX7_stepTo_119 ?_
      refine z_letPO (fun m7 hm7 => ?_)
      refine z_callVv (pc := 120) (As := [.int ((m6.1 31 6) + 1), .int ((g_get 41 41 (m6.1 31 6) m6) + (f_X6_ofWay 1 x1 2 m6))]) (S := []) (g_X1_keep gc_40 gc_41 (Nat.le_of_ble_eq_true rfl) ((m6.1 31 6) + 1) ((g_get 41 41 (m6.1 31 6) m6) + (f_X6_ofWay 1 x1 2 m6)) m6) (z_pV hm7) zw_X1_keep zv_X1_keep zm_X7_56 (n := 2) (by decide) rfl (z_recv gc_40 (T := TX1) (N := 1) rfl) rfl (Nat.le_of_ble_eq_true rfl) (by decide) (by decide) dX7_stepTo_120 ?_
      refine z_aload_n (pc := 123) dX7_stepTo_123 rfl ?_
      refine zgR_X7_26 (pc := 124) gc_31 rfl dX7_stepTo_124 ?_
      refine z_aload_n (pc := 127) dX7_stepTo_127 rfl ?_
      refine zgI_X7_41 (pc := 128) gc_31 rfl dX7_stepTo_128 ?_
      refine z_iload_n (pc := 131) dX7_stepTo_131 rfl ?_
      refine z_letPO (fun m8 hm8 => ?_)
      refine z_callVv (pc := 132) (As := [.int (m7.1 31 6), .int a1]) (S := []) (g_X1_keep gc_34 gc_35 (Nat.le_of_ble_eq_true rfl) (m7.1 31 6) a1 m7) (z_pV hm8) zw_X1_keep zv_X1_keep zm_X7_56 (n := 2) (by decide) rfl (z_recv gc_34 (T := TX1) (N := 1) rfl) rfl (Nat.le_of_ble_eq_true rfl) (by decide) (by decide) dX7_stepTo_132 ?_
      refine z_aload_n (pc := 135) dX7_stepTo_135 rfl ?_
      refine z_dup (pc := 136) dX7_stepTo_136 rfl ?_
      refine zgI_X7_41 (pc := 137) gc_31 rfl dX7_stepTo_137 ?_
      refine z_iconst (pc := 140) dX7_stepTo_140 zci_1 ?_
      refine z_iadd (pc := 141) dX7_stepTo_141 ?_
      refine zpI_X7_41 (pc := 142) gc_31 rfl dX7_stepTo_142 ?_
      refine z_letMO (fun m9 => ?_)
      refine z_iconst (pc := 145) dX7_stepTo_145 zci_1 ?_
      exact z_zret (pc := 146) rfl dX7_stepTo_146 (by decide)
    · refine z_iconst (pc := 24) dX7_stepTo_24 zci_0 ?_
      exact z_zret (pc := 25) rfl dX7_stepTo_25 (by decide)

set_option maxRecDepth 20000 in
theorem c_X7_stepTo {D : va_G} {cI cL : ClassId} {b : Nat} {Z : State → Heap → Prop}  (n : Nat) (a1 : Int32) (μ : z_M) : z_S (zEc D cI cL b Z) 2 yX7_stepTo cX7_stepTo 4 (some .boolean) z_ei [.ref (b + 31), .int a1] μ ((f_X7_stepTo n a1 μ)) :=
  z_entry (yn := yX7_stepTo) (by decide) (Nat.le_of_ble_eq_true rfl) rfl (w_X7_stepTo_0 n a1 μ)

def f_X7_becomeNext_h32 (r20 : Int32 → Int32 → z_M → Option (Int32 × z_M)) : Nat → Int32 → Int32 → z_M → Option (Int32 × z_M)
  | 0, _, _, _ => none
  | n + 1, l3, l4, μ =>
    if l4 < 8 then (z_bind (f_X7_stepTo n l4 μ) (fun p3 => if p3.1 = 0 then (f_X7_becomeNext_h32 r20 n l3 (l4 + 1) p3.2) else (some (1, p3.2)))) else (z_let (((g_get 35 40 (l3 - 1) μ) + 1) : Int32) (fun x4 => r20 x4 (l3 + (-1)) μ))
def f_X7_becomeNext_h20 : Nat → Int32 → Int32 → z_M → Option (Int32 × z_M)
  | 0, _, _, _ => none
  | n + 1, l2, l3, μ =>
    if l3 < 0 then (some (0, μ)) else (z_let (z_sI μ 31 6 l3) (fun m2 => f_X7_becomeNext_h32 (f_X7_becomeNext_h20 n) n l3 l2 m2))
def f_X7_becomeNext_b14 (n : Nat) (s0 : Int32) (μ : z_M) : Option (Int32 × z_M) :=
  z_let ((μ.1 31 6) : Int32) (fun x1 => f_X7_becomeNext_h20 n s0 x1 μ)
def f_X7_becomeNext (n : Nat) (a1 : Int32) (μ : z_M) : Option (Int32 × z_M) :=
  if (μ.1 31 6) < a1 then (f_X7_becomeNext_b14 n 0 μ) else (f_X7_becomeNext_b14 n 8 μ)
set_option maxRecDepth 20000 in
theorem w_X7_becomeNext_32 {D : va_G} {cI cL : ClassId} {b : Nat} {Z : State → Heap → Prop}  (r20 : Int32 → Int32 → z_M → Option (Int32 × z_M)) (hr20 : ∀ (l2 : Int32) (l3 : Int32) (μ : z_M), z_w (zEc D cI cL b Z) (RX7, cX7_becomeNext, 5, (some .boolean), 3) z_ei 20 [(0, .ref (b + 31)), (2, .int l2), (3, .int l3)] [] μ ((r20 l2 l3 μ))) : ∀ (n : Nat) (l3 : Int32) (l4 : Int32) (μ : z_M), z_w (zEc D cI cL b Z) (RX7, cX7_becomeNext, 5, (some .boolean), 3) z_ei 32 [(0, .ref (b + 31)), (3, .int l3), (4, .int l4)] [] μ (f_X7_becomeNext_h32 r20 n l3 l4 μ) := by
  intro n
  induction n with
  | zero =>
    intro l3 l4 μ
    exact z_none
  | succ n ih =>
    intro l3 l4 μ
    unfold f_X7_becomeNext_h32
    refine z_iload (pc := 32) dX7_becomeNext_32 rfl ?_
    refine z_bipush (pc := 34) dX7_becomeNext_34 zcb_8 ?_
    refine z_icmp_ge (pc := 36) (tgt := 56) dX7_becomeNext_36 (by decide) (fun _ => ?_) (fun _ => ?_)
    · refine z_aload_n (pc := 39) dX7_becomeNext_39 rfl ?_
      refine z_iload (pc := 40) dX7_becomeNext_40 rfl ?_
      refine z_bindP (fun p3 hp3 => ?_)
      refine z_callVi (pc := 42) (As := [.int l4]) (S := []) (c_X7_stepTo n l4 μ) hp3 zw_X7_stepTo zv_X7_stepTo zm_X7_103 (n := 1) (by decide) rfl (z_recv gc_31 (T := TX7) (N := 8) rfl) rfl (Nat.le_of_ble_eq_true rfl) (by decide) (by decide) dX7_becomeNext_42 ?_
      refine z_if_eq (pc := 45) (tgt := 50) dX7_becomeNext_45 (by decide) (fun _ => ?_) (fun _ => ?_)
      · refine z_iinc (pc := 50) (v := (l4 + 1)) (L' := [(0, .ref (b + 31)), (3, .int l3), (4, .int (l4 + 1))]) dX7_becomeNext_50 rfl (by decide) rfl rfl ?_
        refine z_goto (pc := 53) (tgt := 32) dX7_becomeNext_53 (by decide) ?_
        exact ih l3 (l4 + 1) p3.2
      · refine z_iconst (pc := 48) dX7_becomeNext_48 zci_1 ?_
        exact z_zret (pc := 49) rfl dX7_becomeNext_49 (by decide)
    · refine z_aload_n (pc := 56) dX7_becomeNext_56 rfl ?_
      refine zgR_X7_26 (pc := 57) gc_31 rfl dX7_becomeNext_57 ?_
      refine z_iload_n (pc := 60) dX7_becomeNext_60 rfl ?_
      refine z_iconst (pc := 61) dX7_becomeNext_61 zci_1 ?_
      refine z_isub (pc := 62) dX7_becomeNext_62 ?_
      refine z_callVi (pc := 63) (As := [.int (l3 - 1)]) (S := []) (g_X1_get gc_34 gc_35 (Nat.le_of_ble_eq_true rfl) (l3 - 1) μ) rfl zw_X1_get zv_X1_get zm_X7_84 (n := 1) (by decide) rfl (z_recv gc_34 (T := TX1) (N := 1) rfl) rfl (Nat.le_of_ble_eq_true rfl) (by decide) (by decide) dX7_becomeNext_63 ?_
      refine z_iconst (pc := 66) dX7_becomeNext_66 zci_1 ?_
      refine z_iadd (pc := 67) dX7_becomeNext_67 ?_
      refine z_letIO (fun x4 => ?_)
      refine z_istore_n (pc := 68) (L' := [(0, .ref (b + 31)), (2, .int x4), (3, .int l3), (4, .int l4)]) dX7_becomeNext_68 (by decide) rfl ?_
      refine z_iinc (pc := 69) (v := (l3 + (-1))) (L' := [(0, .ref (b + 31)), (2, .int x4), (3, .int (l3 + (-1))), (4, .int l4)]) dX7_becomeNext_69 rfl (by decide) rfl rfl ?_
      refine z_goto (pc := 72) (tgt := 20) dX7_becomeNext_72 (by decide) ?_
      refine z_drop (L' := [(0, .ref (b + 31)), (2, .int x4), (3, .int (l3 + (-1)))]) [0, 1, 2] rfl ?_
      exact hr20 x4 (l3 + (-1)) μ

set_option maxRecDepth 20000 in
theorem w_X7_becomeNext_20 {D : va_G} {cI cL : ClassId} {b : Nat} {Z : State → Heap → Prop}  : ∀ (n : Nat) (l2 : Int32) (l3 : Int32) (μ : z_M), z_w (zEc D cI cL b Z) (RX7, cX7_becomeNext, 5, (some .boolean), 3) z_ei 20 [(0, .ref (b + 31)), (2, .int l2), (3, .int l3)] [] μ (f_X7_becomeNext_h20 n l2 l3 μ) := by
  intro n
  induction n with
  | zero =>
    intro l2 l3 μ
    exact z_none
  | succ n ih =>
    intro l2 l3 μ
    unfold f_X7_becomeNext_h20
    refine z_iload_n (pc := 20) dX7_becomeNext_20 rfl ?_
    refine z_if_lt (pc := 21) (tgt := 75) dX7_becomeNext_21 (by decide) (fun _ => ?_) (fun _ => ?_)
    · refine z_iconst (pc := 75) dX7_becomeNext_75 zci_0 ?_
      exact z_zret (pc := 76) rfl dX7_becomeNext_76 (by decide)
    · refine z_aload_n (pc := 24) dX7_becomeNext_24 rfl ?_
      refine z_iload_n (pc := 25) dX7_becomeNext_25 rfl ?_
      refine zpI_X7_41 (pc := 26) gc_31 rfl dX7_becomeNext_26 ?_
      refine z_letMO (fun m2 => ?_)
      refine z_iload_n (pc := 29) dX7_becomeNext_29 rfl ?_
      refine z_istore (pc := 30) (L' := [(0, .ref (b + 31)), (2, .int l2), (3, .int l3), (4, .int l2)]) dX7_becomeNext_30 (by decide) rfl ?_
      refine z_drop (L' := [(0, .ref (b + 31)), (3, .int l3), (4, .int l2)]) [0, 2, 3] rfl ?_
      exact w_X7_becomeNext_32 _ ih n l3 l2 m2

set_option maxRecDepth 20000 in
theorem w_X7_becomeNext_14 {D : va_G} {cI cL : ClassId} {b : Nat} {Z : State → Heap → Prop}  (n : Nat) (s0 : Int32) (μ : z_M) : z_w (zEc D cI cL b Z) (RX7, cX7_becomeNext, 5, (some .boolean), 3) z_ei 14 [(0, .ref (b + 31))] [.int s0] μ ((f_X7_becomeNext_b14 n s0 μ)) := by
  unfold f_X7_becomeNext_b14
  refine z_istore_n (pc := 14) (L' := [(0, .ref (b + 31)), (2, .int s0)]) dX7_becomeNext_14 (by decide) rfl ?_
  refine z_aload_n (pc := 15) dX7_becomeNext_15 rfl ?_
  refine zgI_X7_41 (pc := 16) gc_31 rfl dX7_becomeNext_16 ?_
  refine z_letIO (fun x1 => ?_)
  refine z_istore_n (pc := 19) (L' := [(0, .ref (b + 31)), (2, .int s0), (3, .int x1)]) dX7_becomeNext_19 (by decide) rfl ?_
  exact w_X7_becomeNext_20 n s0 x1 μ

set_option maxRecDepth 20000 in
theorem w_X7_becomeNext_0 {D : va_G} {cI cL : ClassId} {b : Nat} {Z : State → Heap → Prop}  (n : Nat) (a1 : Int32) (μ : z_M) : z_w (zEc D cI cL b Z) (RX7, cX7_becomeNext, 5, (some .boolean), 3) z_ei 0 [(0, .ref (b + 31)), (1, .int a1)] [] μ ((f_X7_becomeNext n a1 μ)) := by
  unfold f_X7_becomeNext
  refine z_aload_n (pc := 0) dX7_becomeNext_0 rfl ?_
  refine zgI_X7_41 (pc := 1) gc_31 rfl dX7_becomeNext_1 ?_
  refine z_iload_n (pc := 4) dX7_becomeNext_4 rfl ?_
  refine z_icmp_ge (pc := 5) (tgt := 12) dX7_becomeNext_5 (by decide) (fun _ => ?_) (fun _ => ?_)
  · refine z_iconst (pc := 8) dX7_becomeNext_8 zci_0 ?_
    refine z_goto (pc := 9) (tgt := 14) dX7_becomeNext_9 (by decide) ?_
    refine z_drop (L' := [(0, .ref (b + 31))]) [0] rfl ?_
    exact w_X7_becomeNext_14 n 0 μ
  · refine z_bipush (pc := 12) dX7_becomeNext_12 zcb_8 ?_
    refine z_drop (L' := [(0, .ref (b + 31))]) [0] rfl ?_
    exact w_X7_becomeNext_14 n 8 μ

set_option maxRecDepth 20000 in
theorem c_X7_becomeNext {D : va_G} {cI cL : ClassId} {b : Nat} {Z : State → Heap → Prop}  (n : Nat) (a1 : Int32) (μ : z_M) : z_S (zEc D cI cL b Z) 3 yX7_becomeNext cX7_becomeNext 5 (some .boolean) z_ei [.ref (b + 31), .int a1] μ ((f_X7_becomeNext n a1 μ)) :=
  z_entry (yn := yX7_becomeNext) (by decide) (Nat.le_of_ble_eq_true rfl) rfl (w_X7_becomeNext_0 n a1 μ)

def f_X7_link_b36 (l1 : Int32) (l2 : Int32) (l3 : Int32) (μ : z_M) : z_M :=
  z_let (g_put 33 64 ((l2 * 8) + l3) (l1 + 1) μ) (fun m2 => z_let (g_put 33 64 ((l3 * 8) + l2) (l1 + 1) m2) (fun m3 => m3))
def f_X7_link (a1 : Int32) (a2 : Int32) (a3 : Int32) (μ : z_M) : z_M :=
  z_let ((f_X7_wayTaken a2 a3 μ) : Int32) (fun x1 => if x1 = (-1) then (f_X7_link_b36 a1 a2 a3 μ) else (if (f_X6_ofWay 1 a1 2 μ) < (f_X6_ofWay 1 x1 2 μ) then (f_X7_link_b36 a1 a2 a3 μ) else (μ)))
set_option maxRecDepth 20000 in
theorem w_X7_link_36 {D : va_G} {cI cL : ClassId} {b : Nat} {Z : State → Heap → Prop}  (l1 : Int32) (l2 : Int32) (l3 : Int32) (μ : z_M) : z_w (zEc D cI cL b Z) (RX7, cX7_link, 5, none, 2) z_ev 36 [(0, .ref (b + 31)), (1, .int l1), (2, .int l2), (3, .int l3)] [] μ (z_oV (f_X7_link_b36 l1 l2 l3 μ)) := by
  unfold f_X7_link_b36
  refine z_aload_n (pc := 36) dX7_link_36 rfl ?_
  refine zgR_X7_22 (pc := 37) gc_31 rfl dX7_link_37 ?_
  refine z_iload_n (pc := 40) dX7_link_40 rfl ?_
  refine z_bipush (pc := 41) dX7_link_41 zcb_8 ?_
  refine z_imul (pc := 43) dX7_link_43 ?_
  refine z_iload_n (pc := 44) dX7_link_44 rfl ?_
  refine z_iadd (pc := 45) dX7_link_45 ?_
  refine z_iload_n (pc := 46) dX7_link_46 rfl ?_
  refine z_iconst (pc := 47) dX7_link_47 zci_1 ?_
  refine z_iadd (pc := 48) dX7_link_48 ?_
  refine z_letP (fun m2 hm2 => ?_)
  refine z_callVv (pc := 49) (As := [.int ((l2 * 8) + l3), .int (l1 + 1)]) (S := []) (g_X1_keep gc_32 gc_33 (Nat.le_of_ble_eq_true rfl) ((l2 * 8) + l3) (l1 + 1) μ) (z_pV hm2) zw_X1_keep zv_X1_keep zm_X7_56 (n := 2) (by decide) rfl (z_recv gc_32 (T := TX1) (N := 1) rfl) rfl (Nat.le_of_ble_eq_true rfl) (by decide) (by decide) dX7_link_49 ?_
  refine z_aload_n (pc := 52) dX7_link_52 rfl ?_
  refine zgR_X7_22 (pc := 53) gc_31 rfl dX7_link_53 ?_
  refine z_iload_n (pc := 56) dX7_link_56 rfl ?_
  refine z_bipush (pc := 57) dX7_link_57 zcb_8 ?_
  refine z_imul (pc := 59) dX7_link_59 ?_
  refine z_iload_n (pc := 60) dX7_link_60 rfl ?_
  refine z_iadd (pc := 61) dX7_link_61 ?_
  refine z_iload_n (pc := 62) dX7_link_62 rfl ?_
  refine z_iconst (pc := 63) dX7_link_63 zci_1 ?_
  refine z_iadd (pc := 64) dX7_link_64 ?_
  refine z_letP (fun m3 hm3 => ?_)
  refine z_callVv (pc := 65) (As := [.int ((l3 * 8) + l2), .int (l1 + 1)]) (S := []) (g_X1_keep gc_32 gc_33 (Nat.le_of_ble_eq_true rfl) ((l3 * 8) + l2) (l1 + 1) m2) (z_pV hm3) zw_X1_keep zv_X1_keep zm_X7_56 (n := 2) (by decide) rfl (z_recv gc_32 (T := TX1) (N := 1) rfl) rfl (Nat.le_of_ble_eq_true rfl) (by decide) (by decide) dX7_link_65 ?_
  exact z_vret (pc := 68) rfl dX7_link_68

set_option maxRecDepth 20000 in
theorem w_X7_link_0 {D : va_G} {cI cL : ClassId} {b : Nat} {Z : State → Heap → Prop}  (a1 : Int32) (a2 : Int32) (a3 : Int32) (μ : z_M) : z_w (zEc D cI cL b Z) (RX7, cX7_link, 5, none, 2) z_ev 0 [(0, .ref (b + 31)), (1, .int a1), (2, .int a2), (3, .int a3)] [] μ (z_oV (f_X7_link a1 a2 a3 μ)) := by
  unfold f_X7_link
  refine z_aload_n (pc := 0) dX7_link_0 rfl ?_
  refine z_iload_n (pc := 1) dX7_link_1 rfl ?_
  refine z_iload_n (pc := 2) dX7_link_2 rfl ?_
  refine z_callVi (pc := 3) (As := [.int a2, .int a3]) (S := []) (c_X7_wayTaken a2 a3 μ) rfl zw_X7_wayTaken zv_X7_wayTaken zm_X7_78 (n := 2) (by decide) rfl (z_recv gc_31 (T := TX7) (N := 8) rfl) rfl (Nat.le_of_ble_eq_true rfl) (by decide) (by decide) dX7_link_3 ?_
  refine z_letI (fun x1 => ?_)
  refine z_istore (pc := 6) (L' := [(0, .ref (b + 31)), (1, .int a1), (2, .int a2), (3, .int a3), (4, .int x1)]) dX7_link_6 (by decide) rfl ?_
  refine z_iload (pc := 8) dX7_link_8 rfl ?_
  refine z_iconst (pc := 10) dX7_link_10 zci_m1 ?_
  refine z_outIf ?_
  refine z_icmp_eq (pc := 11) (tgt := 36) dX7_link_11 (by decide) (fun _ => ?_) (fun _ => ?_)
  · refine z_drop (L' := [(0, .ref (b + 31)), (1, .int a1), (2, .int a2), (3, .int a3)]) [0, 1, 2, 3] rfl ?_
    exact w_X7_link_36 a1 a2 a3 μ
  · refine z_aload_n (pc := 14) dX7_link_14 rfl ?_
    refine zgR_X7_11 (pc := 15) gc_31 rfl dX7_link_15 ?_
    refine z_iload_n (pc := 18) dX7_link_18 rfl ?_
    refine z_iconst (pc := 19) dX7_link_19 zci_2 ?_
    refine z_callVi (pc := 20) (As := [.int a1, .int 2]) (S := []) (c_X6_ofWay zstr_1 a1 2 μ) rfl zw_X6_ofWay zv_X6_ofWay zm_X7_67 (n := 2) (by decide) rfl (z_recv gc_1 (T := TX6) (N := 10) rfl) rfl (Nat.le_of_ble_eq_true rfl) (by decide) (by decide) dX7_link_20 ?_
    refine z_aload_n (pc := 23) dX7_link_23 rfl ?_
    refine zgR_X7_11 (pc := 24) gc_31 rfl dX7_link_24 ?_
    refine z_iload (pc := 27) dX7_link_27 rfl ?_
    refine z_iconst (pc := 29) dX7_link_29 zci_2 ?_
    refine z_callVi (pc := 30) (As := [.int x1, .int 2]) (S := [.int (f_X6_ofWay 1 a1 2 μ)]) (c_X6_ofWay zstr_1 x1 2 μ) rfl zw_X6_ofWay zv_X6_ofWay zm_X7_67 (n := 2) (by decide) rfl (z_recv gc_1 (T := TX6) (N := 10) rfl) rfl (Nat.le_of_ble_eq_true rfl) (by decide) (by decide) dX7_link_30 ?_
    refine z_outIf ?_
    refine z_icmp_ge (pc := 33) (tgt := 68) dX7_link_33 (by decide) (fun _ => ?_) (fun _ => ?_)
    · refine z_drop (L' := [(0, .ref (b + 31)), (1, .int a1), (2, .int a2), (3, .int a3)]) [0, 1, 2, 3] rfl ?_
      exact w_X7_link_36 a1 a2 a3 μ
    · exact z_vret (pc := 68) rfl dX7_link_68

set_option maxRecDepth 20000 in
theorem c_X7_link {D : va_G} {cI cL : ClassId} {b : Nat} {Z : State → Heap → Prop}  (a1 : Int32) (a2 : Int32) (a3 : Int32) (μ : z_M) : z_S (zEc D cI cL b Z) 2 yX7_link cX7_link 5 none z_ev [.ref (b + 31), .int a1, .int a2, .int a3] μ (z_oV (f_X7_link a1 a2 a3 μ)) :=
  z_entry (yn := yX7_link) (by decide) (Nat.le_of_ble_eq_true rfl) rfl (w_X7_link_0 a1 a2 a3 μ)

def f_X7_beginWithout_b104 (r56 : Int32 → Int32 → z_M → Option (Unit × z_M)) (n : Nat) (l1 : Int32) (l2 : Int32) (μ : z_M) : Option (Unit × z_M) :=
  r56 l1 (l2 + 1) μ
def f_X7_beginWithout_h56 : Nat → Int32 → Int32 → z_M → Option (Unit × z_M)
  | 0, _, _, _ => none
  | n + 1, l1, l2, μ =>
    if l2 < 12 then (if (f_X6_isOpen 1 l2 μ) = 0 then (f_X7_beginWithout_b104 (f_X7_beginWithout_h56 n) n l1 l2 μ) else (if ((l1 >>> (l2 &&& 31)) &&& 1) = 0 then (z_let (f_X7_link l2 (f_X6_ofWay 1 l2 0 μ) (f_X6_ofWay 1 l2 1 μ) μ) (fun m5 => f_X7_beginWithout_b104 (f_X7_beginWithout_h56 n) n l1 l2 m5)) else (f_X7_beginWithout_b104 (f_X7_beginWithout_h56 n) n l1 l2 μ))) else (some ((), μ))
def f_X7_beginWithout_h18 : Nat → Int32 → Int32 → z_M → Option (Unit × z_M)
  | 0, _, _, _ => none
  | n + 1, l1, l2, μ =>
    if l2 < 3 then (z_let (g_put 39 43 (2 - l2) (f_X6_saidAgo 1 l2 μ) μ) (fun m3 => f_X7_beginWithout_h18 n l1 (l2 + 1) m3)) else (z_let (g_clr 33 64 μ) (fun m4 => f_X7_beginWithout_h56 n l1 0 m4))
def f_X7_beginWithout (n : Nat) (a1 : Int32) (μ : z_M) : Option (Unit × z_M) :=
  z_let (z_sI μ 31 6 0) (fun m1 => z_let (z_sI m1 31 7 (f_X6_lagNow 1 m1)) (fun m2 => f_X7_beginWithout_h18 n a1 0 m2))
set_option maxRecDepth 20000 in
theorem w_X7_beginWithout_104 {D : va_G} {cI cL : ClassId} {b : Nat} {Z : State → Heap → Prop}  (r56 : Int32 → Int32 → z_M → Option (Unit × z_M)) (hr56 : ∀ (l1 : Int32) (l2 : Int32) (μ : z_M), z_w (zEc D cI cL b Z) (RX7, cX7_beginWithout, 3, none, 3) z_ev 56 [(0, .ref (b + 31)), (1, .int l1), (2, .int l2)] [] μ ((r56 l1 l2 μ))) (n : Nat) (l1 : Int32) (l2 : Int32) (μ : z_M) : z_w (zEc D cI cL b Z) (RX7, cX7_beginWithout, 3, none, 3) z_ev 104 [(0, .ref (b + 31)), (1, .int l1), (2, .int l2)] [] μ ((f_X7_beginWithout_b104 r56 n l1 l2 μ)) := by
  unfold f_X7_beginWithout_b104
  refine z_iinc (pc := 104) (v := (l2 + 1)) (L' := [(0, .ref (b + 31)), (1, .int l1), (2, .int (l2 + 1))]) dX7_beginWithout_104 rfl (by decide) rfl rfl ?_
  refine z_goto (pc := 107) (tgt := 56) dX7_beginWithout_107 (by decide) ?_
  exact hr56 l1 (l2 + 1) μ

set_option maxRecDepth 20000 in
theorem w_X7_beginWithout_56 {D : va_G} {cI cL : ClassId} {b : Nat} {Z : State → Heap → Prop}  : ∀ (n : Nat) (l1 : Int32) (l2 : Int32) (μ : z_M), z_w (zEc D cI cL b Z) (RX7, cX7_beginWithout, 3, none, 3) z_ev 56 [(0, .ref (b + 31)), (1, .int l1), (2, .int l2)] [] μ (f_X7_beginWithout_h56 n l1 l2 μ) := by
  intro n
  induction n with
  | zero =>
    intro l1 l2 μ
    exact z_none
  | succ n ih =>
    intro l1 l2 μ
    unfold f_X7_beginWithout_h56
    refine z_iload_n (pc := 56) dX7_beginWithout_56 rfl ?_
    refine z_bipush (pc := 57) dX7_beginWithout_57 zcb_12 ?_
    refine z_icmp_ge (pc := 59) (tgt := 110) dX7_beginWithout_59 (by decide) (fun _ => ?_) (fun _ => ?_)
    · refine z_aload_n (pc := 62) dX7_beginWithout_62 rfl ?_
      refine zgR_X7_11 (pc := 63) gc_31 rfl dX7_beginWithout_63 ?_
      refine z_iload_n (pc := 66) dX7_beginWithout_66 rfl ?_
      refine z_callVi (pc := 67) (As := [.int l2]) (S := []) (c_X6_isOpen zstr_1 l2 μ) rfl zw_X6_isOpen zv_X6_isOpen zm_X7_63 (n := 1) (by decide) rfl (z_recv gc_1 (T := TX6) (N := 10) rfl) rfl (Nat.le_of_ble_eq_true rfl) (by decide) (by decide) dX7_beginWithout_67 ?_
      refine z_if_eq (pc := 70) (tgt := 104) dX7_beginWithout_70 (by decide) (fun _ => ?_) (fun _ => ?_)
      · exact w_X7_beginWithout_104 _ ih n l1 l2 μ
      · refine z_iload_n (pc := 73) dX7_beginWithout_73 rfl ?_
        refine z_iload_n (pc := 74) dX7_beginWithout_74 rfl ?_
        refine z_ishr (pc := 75) dX7_beginWithout_75 ?_
        refine z_iconst (pc := 76) dX7_beginWithout_76 zci_1 ?_
        refine z_iand (pc := 77) dX7_beginWithout_77 ?_
        refine z_if_ne (pc := 78) (tgt := 104) dX7_beginWithout_78 (by decide) (fun _ => ?_) (fun _ => ?_)
        · refine z_aload_n (pc := 81) dX7_beginWithout_81 rfl ?_
          refine z_iload_n (pc := 82) dX7_beginWithout_82 rfl ?_
          refine z_aload_n (pc := 83) dX7_beginWithout_83 rfl ?_
          refine zgR_X7_11 (pc := 84) gc_31 rfl dX7_beginWithout_84 ?_
          refine z_iload_n (pc := 87) dX7_beginWithout_87 rfl ?_
          refine z_iconst (pc := 88) dX7_beginWithout_88 zci_0 ?_
          refine z_callVi (pc := 89) (As := [.int l2, .int 0]) (S := [.int l2, .ref (b + 31)]) (c_X6_ofWay zstr_1 l2 0 μ) rfl zw_X6_ofWay zv_X6_ofWay zm_X7_67 (n := 2) (by decide) rfl (z_recv gc_1 (T := TX6) (N := 10) rfl) rfl (Nat.le_of_ble_eq_true rfl) (by decide) (by decide) dX7_beginWithout_89 ?_
          refine z_aload_n (pc := 92) dX7_beginWithout_92 rfl ?_
          refine zgR_X7_11 (pc := 93) gc_31 rfl dX7_beginWithout_93 ?_
          refine z_iload_n (pc := 96) dX7_beginWithout_96 rfl ?_
          refine z_iconst (pc := 97) dX7_beginWithout_97 zci_1 ?_
          refine z_callVi (pc := 98) (As := [.int l2, .int 1]) (S := [.int (f_X6_ofWay 1 l2 0 μ), .int l2, .ref (b + 31)]) (c_X6_ofWay zstr_1 l2 1 μ) rfl zw_X6_ofWay zv_X6_ofWay zm_X7_67 (n := 2) (by decide) rfl (z_recv gc_1 (T := TX6) (N := 10) rfl) rfl (Nat.le_of_ble_eq_true rfl) (by decide) (by decide) dX7_beginWithout_98 ?_
          refine z_letPO (fun m5 hm5 => ?_)
          refine z_callVv (pc := 101) (As := [.int l2, .int (f_X6_ofWay 1 l2 0 μ), .int (f_X6_ofWay 1 l2 1 μ)]) (S := []) (c_X7_link l2 (f_X6_ofWay 1 l2 0 μ) (f_X6_ofWay 1 l2 1 μ) μ) (z_pV hm5) zw_X7_link zv_X7_link zm_X7_71 (n := 3) (by decide) rfl (z_recv gc_31 (T := TX7) (N := 8) rfl) rfl (Nat.le_of_ble_eq_true rfl) (by decide) (by decide) dX7_beginWithout_101 ?_
          exact w_X7_beginWithout_104 _ ih n l1 l2 m5
        · exact w_X7_beginWithout_104 _ ih n l1 l2 μ
    · exact z_vret (pc := 110) rfl dX7_beginWithout_110

set_option maxRecDepth 20000 in
theorem w_X7_beginWithout_18 {D : va_G} {cI cL : ClassId} {b : Nat} {Z : State → Heap → Prop}  : ∀ (n : Nat) (l1 : Int32) (l2 : Int32) (μ : z_M), z_w (zEc D cI cL b Z) (RX7, cX7_beginWithout, 3, none, 3) z_ev 18 [(0, .ref (b + 31)), (1, .int l1), (2, .int l2)] [] μ (f_X7_beginWithout_h18 n l1 l2 μ) := by
  intro n
  induction n with
  | zero =>
    intro l1 l2 μ
    exact z_none
  | succ n ih =>
    intro l1 l2 μ
    unfold f_X7_beginWithout_h18
    refine z_iload_n (pc := 18) dX7_beginWithout_18 rfl ?_
    refine z_iconst (pc := 19) dX7_beginWithout_19 zci_3 ?_
    refine z_icmp_ge (pc := 20) (tgt := 47) dX7_beginWithout_20 (by decide) (fun _ => ?_) (fun _ => ?_)
    · refine z_aload_n (pc := 23) dX7_beginWithout_23 rfl ?_
      refine zgR_X7_32 (pc := 24) gc_31 rfl dX7_beginWithout_24 ?_
      refine z_iconst (pc := 27) dX7_beginWithout_27 zci_2 ?_
      refine z_iload_n (pc := 28) dX7_beginWithout_28 rfl ?_
      refine z_isub (pc := 29) dX7_beginWithout_29 ?_
      refine z_aload_n (pc := 30) dX7_beginWithout_30 rfl ?_
      refine zgR_X7_11 (pc := 31) gc_31 rfl dX7_beginWithout_31 ?_
      refine z_iload_n (pc := 34) dX7_beginWithout_34 rfl ?_
      refine z_callVi (pc := 35) (As := [.int l2]) (S := [.int (2 - l2), .ref (b + 38)]) (c_X6_saidAgo zstr_1 l2 μ) rfl zw_X6_saidAgo zv_X6_saidAgo zm_X7_52 (n := 1) (by decide) rfl (z_recv gc_1 (T := TX6) (N := 10) rfl) rfl (Nat.le_of_ble_eq_true rfl) (by decide) (by decide) dX7_beginWithout_35 ?_
      refine z_letPO (fun m3 hm3 => ?_)
      refine z_callVv (pc := 38) (As := [.int (2 - l2), .int (f_X6_saidAgo 1 l2 μ)]) (S := []) (g_X1_keep gc_38 gc_39 (Nat.le_of_ble_eq_true rfl) (2 - l2) (f_X6_saidAgo 1 l2 μ) μ) (z_pV hm3) zw_X1_keep zv_X1_keep zm_X7_56 (n := 2) (by decide) rfl (z_recv gc_38 (T := TX1) (N := 1) rfl) rfl (Nat.le_of_ble_eq_true rfl) (by decide) (by decide) dX7_beginWithout_38 ?_
      refine z_iinc (pc := 41) (v := (l2 + 1)) (L' := [(0, .ref (b + 31)), (1, .int l1), (2, .int (l2 + 1))]) dX7_beginWithout_41 rfl (by decide) rfl rfl ?_
      refine z_goto (pc := 44) (tgt := 18) dX7_beginWithout_44 (by decide) ?_
      exact ih l1 (l2 + 1) m3
    · refine z_aload_n (pc := 47) dX7_beginWithout_47 rfl ?_
      refine zgR_X7_22 (pc := 48) gc_31 rfl dX7_beginWithout_48 ?_
      refine z_letPO (fun m4 hm4 => ?_)
      refine z_callVv (pc := 51) (As := []) (S := []) (g_X1_clear gc_32 gc_33 (Nat.le_of_ble_eq_true rfl) μ) (z_pV hm4) zw_X1_clear zv_X1_clear zm_X7_60 (n := 0) (by decide) rfl (z_recv gc_32 (T := TX1) (N := 1) rfl) rfl (Nat.le_of_ble_eq_true rfl) (by decide) (by decide) dX7_beginWithout_51 ?_
      refine z_iconst (pc := 54) dX7_beginWithout_54 zci_0 ?_
      refine z_istore_n (pc := 55) (L' := [(0, .ref (b + 31)), (1, .int l1), (2, .int 0)]) dX7_beginWithout_55 (by decide) rfl ?_
      exact w_X7_beginWithout_56 n l1 0 m4

set_option maxRecDepth 20000 in
theorem w_X7_beginWithout_0 {D : va_G} {cI cL : ClassId} {b : Nat} {Z : State → Heap → Prop}  (n : Nat) (a1 : Int32) (μ : z_M) : z_w (zEc D cI cL b Z) (RX7, cX7_beginWithout, 3, none, 3) z_ev 0 [(0, .ref (b + 31)), (1, .int a1)] [] μ ((f_X7_beginWithout n a1 μ)) := by
  unfold f_X7_beginWithout
  refine z_aload_n (pc := 0) dX7_beginWithout_0 rfl ?_
  refine z_iconst (pc := 1) dX7_beginWithout_1 zci_0 ?_
  refine zpI_X7_41 (pc := 2) gc_31 rfl dX7_beginWithout_2 ?_
  refine z_letMO (fun m1 => ?_)
  refine z_aload_n (pc := 5) dX7_beginWithout_5 rfl ?_
  refine z_aload_n (pc := 6) dX7_beginWithout_6 rfl ?_
  refine zgR_X7_11 (pc := 7) gc_31 rfl dX7_beginWithout_7 ?_
  refine z_callVi (pc := 10) (As := []) (S := [.ref (b + 31)]) (c_X6_lagNow zstr_1 m1) rfl zw_X6_lagNow zv_X6_lagNow zm_X7_45 (n := 0) (by decide) rfl (z_recv gc_1 (T := TX6) (N := 10) rfl) rfl (Nat.le_of_ble_eq_true rfl) (by decide) (by decide) dX7_beginWithout_10 ?_
  refine zpI_X7_49 (pc := 13) gc_31 rfl dX7_beginWithout_13 ?_
  refine z_letMO (fun m2 => ?_)
  refine z_iconst (pc := 16) dX7_beginWithout_16 zci_0 ?_
  refine z_istore_n (pc := 17) (L' := [(0, .ref (b + 31)), (1, .int a1), (2, .int 0)]) dX7_beginWithout_17 (by decide) rfl ?_
  exact w_X7_beginWithout_18 n a1 0 m2

set_option maxRecDepth 20000 in
theorem c_X7_beginWithout {D : va_G} {cI cL : ClassId} {b : Nat} {Z : State → Heap → Prop}  (n : Nat) (a1 : Int32) (μ : z_M) : z_S (zEc D cI cL b Z) 3 yX7_beginWithout cX7_beginWithout 3 none z_ev [.ref (b + 31), .int a1] μ ((f_X7_beginWithout n a1 μ)) :=
  z_entry (yn := yX7_beginWithout) (by decide) (Nat.le_of_ble_eq_true rfl) rfl (w_X7_beginWithout_0 n a1 μ)

def f_X7_begin (n : Nat)  (μ : z_M) : Option (Unit × z_M) :=
  z_bind (f_X7_beginWithout n 0 μ) (fun p1 => some ((), p1.2))
set_option maxRecDepth 20000 in
theorem w_X7_begin_0 {D : va_G} {cI cL : ClassId} {b : Nat} {Z : State → Heap → Prop}  (n : Nat)  (μ : z_M) : z_w (zEc D cI cL b Z) (RX7, cX7_begin, 1, none, 4) z_ev 0 [(0, .ref (b + 31))] [] μ ((f_X7_begin n μ)) := by
  unfold f_X7_begin
  refine z_aload_n (pc := 0) dX7_begin_0 rfl ?_
  refine z_iconst (pc := 1) dX7_begin_1 zci_0 ?_
  refine z_bindP (fun p1 hp1 => ?_)
  refine z_callVv (pc := 2) (As := [.int 0]) (S := []) (c_X7_beginWithout n 0 μ) hp1 zw_X7_beginWithout zv_X7_beginWithout zm_X7_38 (n := 1) (by decide) rfl (z_recv gc_31 (T := TX7) (N := 8) rfl) rfl (Nat.le_of_ble_eq_true rfl) (by decide) (by decide) dX7_begin_2 ?_
  exact z_vret (pc := 5) rfl dX7_begin_5

set_option maxRecDepth 20000 in
theorem c_X7_begin {D : va_G} {cI cL : ClassId} {b : Nat} {Z : State → Heap → Prop}  (n : Nat)  (μ : z_M) : z_S (zEc D cI cL b Z) 4 yX7_begin cX7_begin 1 none z_ev [.ref (b + 31)] μ ((f_X7_begin n μ)) :=
  z_entry (yn := yX7_begin) (by decide) (Nat.le_of_ble_eq_true rfl) rfl (w_X7_begin_0 n  μ)

def f_X4_keepRoute_h24 : Nat → Int32 → z_M → Option (Unit × z_M)
  | 0, _, _ => none
  | n + 1, l1, μ =>
    if l1 < (μ.1 42 6) then (z_let (g_put 44 6 l1 (f_X7_placeAt l1 μ) μ) (fun m3 => f_X4_keepRoute_h24 n (l1 + 1) m3)) else (some ((), μ))
def f_X4_keepRoute (n : Nat)  (μ : z_M) : Option (Unit × z_M) :=
  z_let (z_sI μ 42 5 (f_X7_minutesTaken μ)) (fun m1 => z_let (z_sI m1 42 6 (f_X7_visitsMade m1)) (fun m2 => f_X4_keepRoute_h24 n 0 m2))
set_option maxRecDepth 20000 in
theorem w_X4_keepRoute_24 {D : va_G} {cI cL : ClassId} {b : Nat} {Z : State → Heap → Prop}  : ∀ (n : Nat) (l1 : Int32) (μ : z_M), z_w (zEc D cI cL b Z) (RX4, cX4_keepRoute, 2, none, 2) z_ev 24 [(0, .ref (b + 42)), (1, .int l1)] [] μ (f_X4_keepRoute_h24 n l1 μ) := by
  intro n
  induction n with
  | zero =>
    intro l1 μ
    exact z_none
  | succ n ih =>
    intro l1 μ
    unfold f_X4_keepRoute_h24
    refine z_iload_n (pc := 24) dX4_keepRoute_24 rfl ?_
    refine z_aload_n (pc := 25) dX4_keepRoute_25 rfl ?_
    refine zgI_X4_51 (pc := 26) gc_42 rfl dX4_keepRoute_26 ?_
    refine z_icmp_ge (pc := 29) (tgt := 54) dX4_keepRoute_29 (by decide) (fun _ => ?_) (fun _ => ?_)
    · refine z_aload_n (pc := 32) dX4_keepRoute_32 rfl ?_
      refine zgR_X4_24 (pc := 33) gc_42 rfl dX4_keepRoute_33 ?_
      refine z_iload_n (pc := 36) dX4_keepRoute_36 rfl ?_
      refine z_aload_n (pc := 37) dX4_keepRoute_37 rfl ?_
      refine zgR_X4_15 (pc := 38) gc_42 rfl dX4_keepRoute_38 ?_
      refine z_iload_n (pc := 41) dX4_keepRoute_41 rfl ?_
      refine z_callVi (pc := 42) (As := [.int l1]) (S := [.int l1, .ref (b + 43)]) (c_X7_placeAt l1 μ) rfl zw_X7_placeAt zv_X7_placeAt zm_X4_54 (n := 1) (by decide) rfl (z_recv gc_31 (T := TX7) (N := 8) rfl) rfl (Nat.le_of_ble_eq_true rfl) (by decide) (by decide) dX4_keepRoute_42 ?_
      refine z_letPO (fun m3 hm3 => ?_)
      refine z_callVv (pc := 45) (As := [.int l1, .int (f_X7_placeAt l1 μ)]) (S := []) (g_X1_keep gc_43 gc_44 (Nat.le_of_ble_eq_true rfl) l1 (f_X7_placeAt l1 μ) μ) (z_pV hm3) zw_X1_keep zv_X1_keep zm_X4_57 (n := 2) (by decide) rfl (z_recv gc_43 (T := TX1) (N := 1) rfl) rfl (Nat.le_of_ble_eq_true rfl) (by decide) (by decide) dX4_keepRoute_45 ?_
      refine z_iinc (pc := 48) (v := (l1 + 1)) (L' := [(0, .ref (b + 42)), (1, .int (l1 + 1))]) dX4_keepRoute_48 rfl (by decide) rfl rfl ?_
      refine z_goto (pc := 51) (tgt := 24) dX4_keepRoute_51 (by decide) ?_
      exact ih (l1 + 1) m3
    · exact z_vret (pc := 54) rfl dX4_keepRoute_54

set_option maxRecDepth 20000 in
theorem w_X4_keepRoute_0 {D : va_G} {cI cL : ClassId} {b : Nat} {Z : State → Heap → Prop}  (n : Nat)  (μ : z_M) : z_w (zEc D cI cL b Z) (RX4, cX4_keepRoute, 2, none, 2) z_ev 0 [(0, .ref (b + 42))] [] μ ((f_X4_keepRoute n μ)) := by
  unfold f_X4_keepRoute
  refine z_aload_n (pc := 0) dX4_keepRoute_0 rfl ?_
  refine z_aload_n (pc := 1) dX4_keepRoute_1 rfl ?_
  refine zgR_X4_15 (pc := 2) gc_42 rfl dX4_keepRoute_2 ?_
  refine z_callVi (pc := 5) (As := []) (S := [.ref (b + 42)]) (c_X7_minutesTaken μ) rfl zw_X7_minutesTaken zv_X7_minutesTaken zm_X4_39 (n := 0) (by decide) rfl (z_recv gc_31 (T := TX7) (N := 8) rfl) rfl (Nat.le_of_ble_eq_true rfl) (by decide) (by decide) dX4_keepRoute_5 ?_
  refine zpI_X4_45 (pc := 8) gc_42 rfl dX4_keepRoute_8 ?_
  refine z_letMO (fun m1 => ?_)
  refine z_aload_n (pc := 11) dX4_keepRoute_11 rfl ?_
  refine z_aload_n (pc := 12) dX4_keepRoute_12 rfl ?_
  refine zgR_X4_15 (pc := 13) gc_42 rfl dX4_keepRoute_13 ?_
  refine z_callVi (pc := 16) (As := []) (S := [.ref (b + 42)]) (c_X7_visitsMade m1) rfl zw_X7_visitsMade zv_X7_visitsMade zm_X4_48 (n := 0) (by decide) rfl (z_recv gc_31 (T := TX7) (N := 8) rfl) rfl (Nat.le_of_ble_eq_true rfl) (by decide) (by decide) dX4_keepRoute_16 ?_
  refine zpI_X4_51 (pc := 19) gc_42 rfl dX4_keepRoute_19 ?_
  refine z_letMO (fun m2 => ?_)
  refine z_iconst (pc := 22) dX4_keepRoute_22 zci_0 ?_
  refine z_istore_n (pc := 23) (L' := [(0, .ref (b + 42)), (1, .int 0)]) dX4_keepRoute_23 (by decide) rfl ?_
  exact w_X4_keepRoute_24 n 0 m2

set_option maxRecDepth 20000 in
theorem c_X4_keepRoute {D : va_G} {cI cL : ClassId} {b : Nat} {Z : State → Heap → Prop}  (n : Nat)  (μ : z_M) : z_S (zEc D cI cL b Z) 2 yX4_keepRoute cX4_keepRoute 2 none z_ev [.ref (b + 42)] μ ((f_X4_keepRoute n μ)) :=
  z_entry (yn := yX4_keepRoute) (by decide) (Nat.le_of_ble_eq_true rfl) rfl (w_X4_keepRoute_0 n  μ)

def f_X4_hearsAll (n : Nat) (a1 : Int32) (a2 : Int32) (μ : z_M) : Option (Int32 × z_M) :=
  z_bind (f_X7_heardBy n a1 μ) (fun p1 => if (a2 &&& (p1.1 ^^^ (-1))) = 0 then (some (1, p1.2)) else (some (0, p1.2)))
set_option maxRecDepth 20000 in
theorem w_X4_hearsAll_0 {D : va_G} {cI cL : ClassId} {b : Nat} {Z : State → Heap → Prop}  (n : Nat) (a1 : Int32) (a2 : Int32) (μ : z_M) : z_w (zEc D cI cL b Z) (RX4, cX4_hearsAll, 3, (some .boolean), 2) z_ei 0 [(0, .ref (b + 42)), (1, .int a1), (2, .int a2)] [] μ ((f_X4_hearsAll n a1 a2 μ)) := by
  unfold f_X4_hearsAll
  refine z_iload_n (pc := 0) dX4_hearsAll_0 rfl ?_
  refine z_aload_n (pc := 1) dX4_hearsAll_1 rfl ?_
  refine zgR_X4_15 (pc := 2) gc_42 rfl dX4_hearsAll_2 ?_
  refine z_iload_n (pc := 5) dX4_hearsAll_5 rfl ?_
  refine z_bindP (fun p1 hp1 => ?_)
  refine z_callVi (pc := 6) (As := [.int a1]) (S := [.int a2]) (c_X7_heardBy n a1 μ) hp1 zw_X7_heardBy zv_X7_heardBy zm_X4_61 (n := 1) (by decide) rfl (z_recv gc_31 (T := TX7) (N := 8) rfl) rfl (Nat.le_of_ble_eq_true rfl) (by decide) (by decide) dX4_hearsAll_6 ?_
  refine z_iconst (pc := 9) dX4_hearsAll_9 zci_m1 ?_
  refine z_ixor (pc := 10) dX4_hearsAll_10 ?_
  refine z_iand (pc := 11) dX4_hearsAll_11 ?_
  refine z_if_ne (pc := 12) (tgt := 19) dX4_hearsAll_12 (by decide) (fun _ => ?_) (fun _ => ?_)
  · refine z_iconst (pc := 15) dX4_hearsAll_15 zci_1 ?_
    refine z_goto (pc := 16) (tgt := 20) dX4_hearsAll_16 (by decide) ?_
    exact z_zret (pc := 20) rfl dX4_hearsAll_20 (by decide)
  · refine z_iconst (pc := 19) dX4_hearsAll_19 zci_0 ?_
    exact z_zret (pc := 20) rfl dX4_hearsAll_20 (by decide)

set_option maxRecDepth 20000 in
theorem c_X4_hearsAll {D : va_G} {cI cL : ClassId} {b : Nat} {Z : State → Heap → Prop}  (n : Nat) (a1 : Int32) (a2 : Int32) (μ : z_M) : z_S (zEc D cI cL b Z) 2 yX4_hearsAll cX4_hearsAll 3 (some .boolean) z_ei [.ref (b + 42), .int a1, .int a2] μ ((f_X4_hearsAll n a1 a2 μ)) :=
  z_entry (yn := yX4_hearsAll) (by decide) (Nat.le_of_ble_eq_true rfl) rfl (w_X4_hearsAll_0 n a1 a2 μ)

def f_X4_hearsAny (n : Nat) (a1 : Int32) (a2 : Int32) (μ : z_M) : Option (Int32 × z_M) :=
  z_bind (f_X7_heardBy n a1 μ) (fun p1 => if (a2 &&& p1.1) = 0 then (some (0, p1.2)) else (some (1, p1.2)))
set_option maxRecDepth 20000 in
theorem w_X4_hearsAny_0 {D : va_G} {cI cL : ClassId} {b : Nat} {Z : State → Heap → Prop}  (n : Nat) (a1 : Int32) (a2 : Int32) (μ : z_M) : z_w (zEc D cI cL b Z) (RX4, cX4_hearsAny, 3, (some .boolean), 2) z_ei 0 [(0, .ref (b + 42)), (1, .int a1), (2, .int a2)] [] μ ((f_X4_hearsAny n a1 a2 μ)) := by
  unfold f_X4_hearsAny
  refine z_iload_n (pc := 0) dX4_hearsAny_0 rfl ?_
  refine z_aload_n (pc := 1) dX4_hearsAny_1 rfl ?_
  refine zgR_X4_15 (pc := 2) gc_42 rfl dX4_hearsAny_2 ?_
  refine z_iload_n (pc := 5) dX4_hearsAny_5 rfl ?_
  refine z_bindP (fun p1 hp1 => ?_)
  refine z_callVi (pc := 6) (As := [.int a1]) (S := [.int a2]) (c_X7_heardBy n a1 μ) hp1 zw_X7_heardBy zv_X7_heardBy zm_X4_61 (n := 1) (by decide) rfl (z_recv gc_31 (T := TX7) (N := 8) rfl) rfl (Nat.le_of_ble_eq_true rfl) (by decide) (by decide) dX4_hearsAny_6 ?_
  refine z_iand (pc := 9) dX4_hearsAny_9 ?_
  refine z_if_eq (pc := 10) (tgt := 17) dX4_hearsAny_10 (by decide) (fun _ => ?_) (fun _ => ?_)
  · refine z_iconst (pc := 17) dX4_hearsAny_17 zci_0 ?_
    exact z_zret (pc := 18) rfl dX4_hearsAny_18 (by decide)
  · refine z_iconst (pc := 13) dX4_hearsAny_13 zci_1 ?_
    refine z_goto (pc := 14) (tgt := 18) dX4_hearsAny_14 (by decide) ?_
    exact z_zret (pc := 18) rfl dX4_hearsAny_18 (by decide)

set_option maxRecDepth 20000 in
theorem c_X4_hearsAny {D : va_G} {cI cL : ClassId} {b : Nat} {Z : State → Heap → Prop}  (n : Nat) (a1 : Int32) (a2 : Int32) (μ : z_M) : z_S (zEc D cI cL b Z) 2 yX4_hearsAny cX4_hearsAny 3 (some .boolean) z_ei [.ref (b + 42), .int a1, .int a2] μ ((f_X4_hearsAny n a1 a2 μ)) :=
  z_entry (yn := yX4_hearsAny) (by decide) (Nat.le_of_ble_eq_true rfl) rfl (w_X4_hearsAny_0 n a1 a2 μ)

def f_X4_isHeardBy_b52 (r3 : Int32 → Int32 → Int32 → Int32 → z_M → Option (Int32 × z_M)) (n : Nat) (l1 : Int32) (l2 : Int32) (l3 : Int32) (l4 : Int32) (μ : z_M) : Option (Int32 × z_M) :=
  r3 l1 l2 l3 (l4 + 1) μ
def f_X4_isHeardBy_b31 (r3 : Int32 → Int32 → Int32 → Int32 → z_M → Option (Int32 × z_M)) (n : Nat) (l1 : Int32) (l2 : Int32) (l3 : Int32) (l4 : Int32) (μ : z_M) : Option (Int32 × z_M) :=
  if ((l2 >>> (l4 &&& 31)) &&& 1) = 0 then (f_X4_isHeardBy_b52 r3 n l1 l2 l3 l4 μ) else (z_bind (f_X4_hearsAny n l4 l3 μ) (fun p1 => if p1.1 = 0 then (f_X4_isHeardBy_b52 r3 n l1 l2 l3 l4 p1.2) else (some (0, p1.2))))
def f_X4_isHeardBy_h3 : Nat → Int32 → Int32 → Int32 → Int32 → z_M → Option (Int32 × z_M)
  | 0, _, _, _, _, _ => none
  | n + 1, l1, l2, l3, l4, μ =>
    if l4 < 8 then (if ((l1 >>> (l4 &&& 31)) &&& 1) = 0 then (f_X4_isHeardBy_b31 (f_X4_isHeardBy_h3 n) n l1 l2 l3 l4 μ) else (z_bind (f_X4_hearsAll n l4 l3 μ) (fun p2 => if p2.1 = 0 then (some (0, p2.2)) else (f_X4_isHeardBy_b31 (f_X4_isHeardBy_h3 n) n l1 l2 l3 l4 p2.2)))) else (some (1, μ))
def f_X4_isHeardBy (n : Nat) (a1 : Int32) (a2 : Int32) (a3 : Int32) (μ : z_M) : Option (Int32 × z_M) :=
  f_X4_isHeardBy_h3 n a1 a2 a3 0 μ
set_option maxRecDepth 20000 in
theorem w_X4_isHeardBy_52 {D : va_G} {cI cL : ClassId} {b : Nat} {Z : State → Heap → Prop}  (r3 : Int32 → Int32 → Int32 → Int32 → z_M → Option (Int32 × z_M)) (hr3 : ∀ (l1 : Int32) (l2 : Int32) (l3 : Int32) (l4 : Int32) (μ : z_M), z_w (zEc D cI cL b Z) (RX4, cX4_isHeardBy, 5, (some .boolean), 3) z_ei 3 [(0, .ref (b + 42)), (1, .int l1), (2, .int l2), (3, .int l3), (4, .int l4)] [] μ ((r3 l1 l2 l3 l4 μ))) (n : Nat) (l1 : Int32) (l2 : Int32) (l3 : Int32) (l4 : Int32) (μ : z_M) : z_w (zEc D cI cL b Z) (RX4, cX4_isHeardBy, 5, (some .boolean), 3) z_ei 52 [(0, .ref (b + 42)), (1, .int l1), (2, .int l2), (3, .int l3), (4, .int l4)] [] μ ((f_X4_isHeardBy_b52 r3 n l1 l2 l3 l4 μ)) := by
  unfold f_X4_isHeardBy_b52
  refine z_iinc (pc := 52) (v := (l4 + 1)) (L' := [(0, .ref (b + 42)), (1, .int l1), (2, .int l2), (3, .int l3), (4, .int (l4 + 1))]) dX4_isHeardBy_52 rfl (by decide) rfl rfl ?_
  refine z_goto (pc := 55) (tgt := 3) dX4_isHeardBy_55 (by decide) ?_
  exact hr3 l1 l2 l3 (l4 + 1) μ

set_option maxRecDepth 20000 in
theorem w_X4_isHeardBy_31 {D : va_G} {cI cL : ClassId} {b : Nat} {Z : State → Heap → Prop}  (r3 : Int32 → Int32 → Int32 → Int32 → z_M → Option (Int32 × z_M)) (hr3 : ∀ (l1 : Int32) (l2 : Int32) (l3 : Int32) (l4 : Int32) (μ : z_M), z_w (zEc D cI cL b Z) (RX4, cX4_isHeardBy, 5, (some .boolean), 3) z_ei 3 [(0, .ref (b + 42)), (1, .int l1), (2, .int l2), (3, .int l3), (4, .int l4)] [] μ ((r3 l1 l2 l3 l4 μ))) (n : Nat) (l1 : Int32) (l2 : Int32) (l3 : Int32) (l4 : Int32) (μ : z_M) : z_w (zEc D cI cL b Z) (RX4, cX4_isHeardBy, 5, (some .boolean), 3) z_ei 31 [(0, .ref (b + 42)), (1, .int l1), (2, .int l2), (3, .int l3), (4, .int l4)] [] μ ((f_X4_isHeardBy_b31 r3 n l1 l2 l3 l4 μ)) := by
  unfold f_X4_isHeardBy_b31
  refine z_iload_n (pc := 31) dX4_isHeardBy_31 rfl ?_
  refine z_iload (pc := 32) dX4_isHeardBy_32 rfl ?_
  refine z_ishr (pc := 34) dX4_isHeardBy_34 ?_
  refine z_iconst (pc := 35) dX4_isHeardBy_35 zci_1 ?_
  refine z_iand (pc := 36) dX4_isHeardBy_36 ?_
  refine z_if_eq (pc := 37) (tgt := 52) dX4_isHeardBy_37 (by decide) (fun _ => ?_) (fun _ => ?_)
  · exact w_X4_isHeardBy_52 _ hr3 n l1 l2 l3 l4 μ
  · refine z_aload_n (pc := 40) dX4_isHeardBy_40 rfl ?_
    refine z_iload (pc := 41) dX4_isHeardBy_41 rfl ?_
    refine z_iload_n (pc := 43) dX4_isHeardBy_43 rfl ?_
    refine z_bindP (fun p1 hp1 => ?_)
    refine z_callVi (pc := 44) (As := [.int l4, .int l3]) (S := []) (c_X4_hearsAny n l4 l3 μ) hp1 zw_X4_hearsAny zv_X4_hearsAny zm_X4_70 (n := 2) (by decide) rfl (z_recv gc_42 (T := TX4) (N := 7) rfl) rfl (Nat.le_of_ble_eq_true rfl) (by decide) (by decide) dX4_isHeardBy_44 ?_
    refine z_if_eq (pc := 47) (tgt := 52) dX4_isHeardBy_47 (by decide) (fun _ => ?_) (fun _ => ?_)
    · exact w_X4_isHeardBy_52 _ hr3 n l1 l2 l3 l4 p1.2
    · refine z_iconst (pc := 50) dX4_isHeardBy_50 zci_0 ?_
      exact z_zret (pc := 51) rfl dX4_isHeardBy_51 (by decide)

set_option maxRecDepth 20000 in
theorem w_X4_isHeardBy_3 {D : va_G} {cI cL : ClassId} {b : Nat} {Z : State → Heap → Prop}  : ∀ (n : Nat) (l1 : Int32) (l2 : Int32) (l3 : Int32) (l4 : Int32) (μ : z_M), z_w (zEc D cI cL b Z) (RX4, cX4_isHeardBy, 5, (some .boolean), 3) z_ei 3 [(0, .ref (b + 42)), (1, .int l1), (2, .int l2), (3, .int l3), (4, .int l4)] [] μ (f_X4_isHeardBy_h3 n l1 l2 l3 l4 μ) := by
  intro n
  induction n with
  | zero =>
    intro l1 l2 l3 l4 μ
    exact z_none
  | succ n ih =>
    intro l1 l2 l3 l4 μ
    unfold f_X4_isHeardBy_h3
    refine z_iload (pc := 3) dX4_isHeardBy_3 rfl ?_
    refine z_bipush (pc := 5) dX4_isHeardBy_5 zcb_8 ?_
    refine z_icmp_ge (pc := 7) (tgt := 58) dX4_isHeardBy_7 (by decide) (fun _ => ?_) (fun _ => ?_)
    · refine z_iload_n (pc := 10) dX4_isHeardBy_10 rfl ?_
      refine z_iload (pc := 11) dX4_isHeardBy_11 rfl ?_
      refine z_ishr (pc := 13) dX4_isHeardBy_13 ?_
      refine z_iconst (pc := 14) dX4_isHeardBy_14 zci_1 ?_
      refine z_iand (pc := 15) dX4_isHeardBy_15 ?_
      refine z_if_eq (pc := 16) (tgt := 31) dX4_isHeardBy_16 (by decide) (fun _ => ?_) (fun _ => ?_)
      · exact w_X4_isHeardBy_31 _ ih n l1 l2 l3 l4 μ
      · refine z_aload_n (pc := 19) dX4_isHeardBy_19 rfl ?_
        refine z_iload (pc := 20) dX4_isHeardBy_20 rfl ?_
        refine z_iload_n (pc := 22) dX4_isHeardBy_22 rfl ?_
        refine z_bindP (fun p2 hp2 => ?_)
        refine z_callVi (pc := 23) (As := [.int l4, .int l3]) (S := []) (c_X4_hearsAll n l4 l3 μ) hp2 zw_X4_hearsAll zv_X4_hearsAll zm_X4_66 (n := 2) (by decide) rfl (z_recv gc_42 (T := TX4) (N := 7) rfl) rfl (Nat.le_of_ble_eq_true rfl) (by decide) (by decide) dX4_isHeardBy_23 ?_
        refine z_if_ne (pc := 26) (tgt := 31) dX4_isHeardBy_26 (by decide) (fun _ => ?_) (fun _ => ?_)
        · refine z_iconst (pc := 29) dX4_isHeardBy_29 zci_0 ?_
          exact z_zret (pc := 30) rfl dX4_isHeardBy_30 (by decide)
        · exact w_X4_isHeardBy_31 _ ih n l1 l2 l3 l4 p2.2
    · refine z_iconst (pc := 58) dX4_isHeardBy_58 zci_1 ?_
      exact z_zret (pc := 59) rfl dX4_isHeardBy_59 (by decide)

set_option maxRecDepth 20000 in
theorem w_X4_isHeardBy_0 {D : va_G} {cI cL : ClassId} {b : Nat} {Z : State → Heap → Prop}  (n : Nat) (a1 : Int32) (a2 : Int32) (a3 : Int32) (μ : z_M) : z_w (zEc D cI cL b Z) (RX4, cX4_isHeardBy, 5, (some .boolean), 3) z_ei 0 [(0, .ref (b + 42)), (1, .int a1), (2, .int a2), (3, .int a3)] [] μ ((f_X4_isHeardBy n a1 a2 a3 μ)) := by
  unfold f_X4_isHeardBy
  refine z_iconst (pc := 0) dX4_isHeardBy_0 zci_0 ?_
  refine z_istore (pc := 1) (L' := [(0, .ref (b + 42)), (1, .int a1), (2, .int a2), (3, .int a3), (4, .int 0)]) dX4_isHeardBy_1 (by decide) rfl ?_
  exact w_X4_isHeardBy_3 n a1 a2 a3 0 μ

set_option maxRecDepth 20000 in
theorem c_X4_isHeardBy {D : va_G} {cI cL : ClassId} {b : Nat} {Z : State → Heap → Prop}  (n : Nat) (a1 : Int32) (a2 : Int32) (a3 : Int32) (μ : z_M) : z_S (zEc D cI cL b Z) 3 yX4_isHeardBy cX4_isHeardBy 5 (some .boolean) z_ei [.ref (b + 42), .int a1, .int a2, .int a3] μ ((f_X4_isHeardBy n a1 a2 a3 μ)) :=
  z_entry (yn := yX4_isHeardBy) (by decide) (Nat.le_of_ble_eq_true rfl) rfl (w_X4_isHeardBy_0 n a1 a2 a3 μ)

def f_X4_isQuicker_b45  (μ : z_M) : Int32 :=
  1
def f_X4_isQuicker  (μ : z_M) : Int32 :=
  z_let ((f_X7_minutesTaken μ) : Int32) (fun x1 => if (μ.1 42 3) = 0 then (f_X4_isQuicker_b45 μ) else (if x1 < (μ.1 42 5) then (f_X4_isQuicker_b45 μ) else (if x1 = (μ.1 42 5) then (if (f_X7_visitsMade μ) < (μ.1 42 6) then (f_X4_isQuicker_b45 μ) else (0)) else (0))))
set_option maxRecDepth 20000 in
theorem w_X4_isQuicker_45 {D : va_G} {cI cL : ClassId} {b : Nat} {Z : State → Heap → Prop}   (μ : z_M) : z_w (zEc D cI cL b Z) (RX4, cX4_isQuicker, 2, (some .boolean), 2) z_ei 45 [] [] μ (z_oP μ (f_X4_isQuicker_b45 μ)) := by
  unfold f_X4_isQuicker_b45
  refine z_iconst (pc := 45) dX4_isQuicker_45 zci_1 ?_
  refine z_goto (pc := 46) (tgt := 50) dX4_isQuicker_46 (by decide) ?_
  exact z_zret (pc := 50) rfl dX4_isQuicker_50 (by decide)

set_option maxRecDepth 20000 in
theorem w_X4_isQuicker_0 {D : va_G} {cI cL : ClassId} {b : Nat} {Z : State → Heap → Prop}   (μ : z_M) : z_w (zEc D cI cL b Z) (RX4, cX4_isQuicker, 2, (some .boolean), 2) z_ei 0 [(0, .ref (b + 42))] [] μ (z_oP μ (f_X4_isQuicker μ)) := by
  unfold f_X4_isQuicker
  refine z_aload_n (pc := 0) dX4_isQuicker_0 rfl ?_
  refine zgR_X4_15 (pc := 1) gc_42 rfl dX4_isQuicker_1 ?_
  refine z_callVi (pc := 4) (As := []) (S := []) (c_X7_minutesTaken μ) rfl zw_X7_minutesTaken zv_X7_minutesTaken zm_X4_39 (n := 0) (by decide) rfl (z_recv gc_31 (T := TX7) (N := 8) rfl) rfl (Nat.le_of_ble_eq_true rfl) (by decide) (by decide) dX4_isQuicker_4 ?_
  refine z_letI (fun x1 => ?_)
  refine z_istore_n (pc := 7) (L' := [(0, .ref (b + 42)), (1, .int x1)]) dX4_isQuicker_7 (by decide) rfl ?_
  refine z_aload_n (pc := 8) dX4_isQuicker_8 rfl ?_
  refine zgI_X4_28 (pc := 9) gc_42 rfl dX4_isQuicker_9 ?_
  refine z_outIf ?_
  refine z_if_eq (pc := 12) (tgt := 45) dX4_isQuicker_12 (by decide) (fun _ => ?_) (fun _ => ?_)
  · refine z_drop (L' := []) [] rfl ?_
    exact w_X4_isQuicker_45 μ
  · refine z_iload_n (pc := 15) dX4_isQuicker_15 rfl ?_
    refine z_aload_n (pc := 16) dX4_isQuicker_16 rfl ?_
    refine zgI_X4_45 (pc := 17) gc_42 rfl dX4_isQuicker_17 ?_
    refine z_outIf ?_
    refine z_icmp_lt (pc := 20) (tgt := 45) dX4_isQuicker_20 (by decide) (fun _ => ?_) (fun _ => ?_)
    · refine z_drop (L' := []) [] rfl ?_
      exact w_X4_isQuicker_45 μ
    · refine z_iload_n (pc := 23) dX4_isQuicker_23 rfl ?_
      refine z_aload_n (pc := 24) dX4_isQuicker_24 rfl ?_
      refine zgI_X4_45 (pc := 25) gc_42 rfl dX4_isQuicker_25 ?_
      refine z_outIf ?_
      refine z_icmp_ne (pc := 28) (tgt := 49) dX4_isQuicker_28 (by decide) (fun _ => ?_) (fun _ => ?_)
      · refine z_aload_n (pc := 31) dX4_isQuicker_31 rfl ?_
        refine zgR_X4_15 (pc := 32) gc_42 rfl dX4_isQuicker_32 ?_
        refine z_callVi (pc := 35) (As := []) (S := []) (c_X7_visitsMade μ) rfl zw_X7_visitsMade zv_X7_visitsMade zm_X4_48 (n := 0) (by decide) rfl (z_recv gc_31 (T := TX7) (N := 8) rfl) rfl (Nat.le_of_ble_eq_true rfl) (by decide) (by decide) dX4_isQuicker_35 ?_
        refine z_aload_n (pc := 38) dX4_isQuicker_38 rfl ?_
        refine zgI_X4_51 (pc := 39) gc_42 rfl dX4_isQuicker_39 ?_
        refine z_outIf ?_
        refine z_icmp_ge (pc := 42) (tgt := 49) dX4_isQuicker_42 (by decide) (fun _ => ?_) (fun _ => ?_)
        · refine z_drop (L' := []) [] rfl ?_
          exact w_X4_isQuicker_45 μ
        · refine z_iconst (pc := 49) dX4_isQuicker_49 zci_0 ?_
          exact z_zret (pc := 50) rfl dX4_isQuicker_50 (by decide)
      · refine z_iconst (pc := 49) dX4_isQuicker_49 zci_0 ?_
        exact z_zret (pc := 50) rfl dX4_isQuicker_50 (by decide)

set_option maxRecDepth 20000 in
theorem c_X4_isQuicker {D : va_G} {cI cL : ClassId} {b : Nat} {Z : State → Heap → Prop}   (μ : z_M) : z_S (zEc D cI cL b Z) 2 yX4_isQuicker cX4_isQuicker 2 (some .boolean) z_ei [.ref (b + 42)] μ (z_oP μ (f_X4_isQuicker μ)) :=
  z_entry (yn := yX4_isQuicker) (by decide) (Nat.le_of_ble_eq_true rfl) rfl (w_X4_isQuicker_0  μ)
set_option maxRecDepth 20000 in
theorem bl_X4_isQuicker  (μ : z_M) : f_X4_isQuicker μ = 0 ∨ f_X4_isQuicker μ = 1 := by
  unfold f_X4_isQuicker
  try simp only [f_X4_isQuicker_b45]
  repeat' (first | with_reducible exact z_bl0 | with_reducible exact z_bl1 | with_reducible refine z_blI ?_ ?_ | with_reducible refine z_blL (fun _ => ?_))

def f_X4_quickest_b112 (n : Nat)  (μ : z_M) : Option (Unit × z_M) :=
  some ((), μ)
def f_X4_quickest_b95 (r18 : Int32 → Int32 → Int32 → Int32 → Int32 → Int32 → Int32 → z_M → Option (Unit × z_M)) (n : Nat) (l1 : Int32) (l2 : Int32) (l3 : Int32) (l4 : Int32) (l5 : Int32) (l7 : Int32) (μ : z_M) : Option (Unit × z_M) :=
  z_bind (f_X7_becomeNext n l4 μ) (fun p3 => r18 l1 l2 l3 l4 l5 p3.1 (l7 + 1) p3.2)
def f_X4_quickest_b57 (r18 : Int32 → Int32 → Int32 → Int32 → Int32 → Int32 → Int32 → z_M → Option (Unit × z_M)) (n : Nat) (l1 : Int32) (l2 : Int32) (l3 : Int32) (l4 : Int32) (l5 : Int32) (l7 : Int32) (s0 : Int32) (μ : z_M) : Option (Unit × z_M) :=
  if s0 = 0 then (f_X4_quickest_b95 r18 n l1 l2 l3 l4 l5 l7 μ) else (if (f_X4_isQuicker μ) = 0 then (f_X4_quickest_b95 r18 n l1 l2 l3 l4 l5 l7 μ) else (z_bind (f_X4_isHeardBy n l1 l2 l3 μ) (fun p4 => if p4.1 = 0 then (f_X4_quickest_b95 r18 n l1 l2 l3 l4 l5 l7 p4.2) else (z_let (z_sI p4.2 42 3 ((p4.2.1 42 3) + 1)) (fun m5 => z_bind (f_X4_keepRoute n m5) (fun p6 => f_X4_quickest_b95 r18 n l1 l2 l3 l4 l5 l7 p6.2))))))
def f_X4_quickest_b52 (r18 : Int32 → Int32 → Int32 → Int32 → Int32 → Int32 → Int32 → z_M → Option (Unit × z_M)) (n : Nat) (l1 : Int32) (l2 : Int32) (l3 : Int32) (l4 : Int32) (l5 : Int32) (l7 : Int32) (μ : z_M) : Option (Unit × z_M) :=
  f_X4_quickest_b57 r18 n l1 l2 l3 l4 l5 l7 1 μ
def f_X4_quickest_h18 : Nat → Int32 → Int32 → Int32 → Int32 → Int32 → Int32 → Int32 → z_M → Option (Unit × z_M)
  | 0, _, _, _, _, _, _, _, _ => none
  | n + 1, l1, l2, l3, l4, l5, l6, l7, μ =>
    if l6 = 0 then (f_X4_quickest_b112 n μ) else (if l7 < 1000000 then (if l5 = 0 then (f_X4_quickest_b52 (f_X4_quickest_h18 n) n l1 l2 l3 l4 l5 l7 μ) else (if (f_X7_place μ) = (f_X6_birdAt 1 μ) then (f_X4_quickest_b52 (f_X4_quickest_h18 n) n l1 l2 l3 l4 l5 l7 μ) else (f_X4_quickest_b57 (f_X4_quickest_h18 n) n l1 l2 l3 l4 l5 l7 0 μ))) else (f_X4_quickest_b112 n μ))
def f_X4_quickest (n : Nat) (a1 : Int32) (a2 : Int32) (a3 : Int32) (a4 : Int32) (a5 : Int32) (μ : z_M) : Option (Unit × z_M) :=
  z_let (z_sI μ 42 3 0) (fun m1 => z_bind (f_X7_begin n m1) (fun p2 => f_X4_quickest_h18 n a1 a2 a3 a4 a5 1 0 p2.2))
set_option maxRecDepth 20000 in
theorem w_X4_quickest_112 {D : va_G} {cI cL : ClassId} {b : Nat} {Z : State → Heap → Prop}  (n : Nat)  (μ : z_M) : z_w (zEc D cI cL b Z) (RX4, cX4_quickest, 9, (some (.object "TwoHousesBehind$Search")), 5) (z_eo (b + 42)) 112 [(0, .ref (b + 42))] [] μ ((f_X4_quickest_b112 n μ)) := by
  unfold f_X4_quickest_b112
  refine z_aload_n (pc := 112) dX4_quickest_112 rfl ?_
  exact z_areto (pc := 113) rfl dX4_quickest_113

set_option maxRecDepth 20000 in
theorem w_X4_quickest_95 {D : va_G} {cI cL : ClassId} {b : Nat} {Z : State → Heap → Prop}  (r18 : Int32 → Int32 → Int32 → Int32 → Int32 → Int32 → Int32 → z_M → Option (Unit × z_M)) (hr18 : ∀ (l1 : Int32) (l2 : Int32) (l3 : Int32) (l4 : Int32) (l5 : Int32) (l6 : Int32) (l7 : Int32) (μ : z_M), z_w (zEc D cI cL b Z) (RX4, cX4_quickest, 9, (some (.object "TwoHousesBehind$Search")), 5) (z_eo (b + 42)) 18 [(0, .ref (b + 42)), (1, .int l1), (2, .int l2), (3, .int l3), (4, .int l4), (5, .int l5), (6, .int l6), (7, .int l7)] [] μ ((r18 l1 l2 l3 l4 l5 l6 l7 μ))) (n : Nat) (l1 : Int32) (l2 : Int32) (l3 : Int32) (l4 : Int32) (l5 : Int32) (l7 : Int32) (μ : z_M) : z_w (zEc D cI cL b Z) (RX4, cX4_quickest, 9, (some (.object "TwoHousesBehind$Search")), 5) (z_eo (b + 42)) 95 [(0, .ref (b + 42)), (1, .int l1), (2, .int l2), (3, .int l3), (4, .int l4), (5, .int l5), (7, .int l7)] [] μ ((f_X4_quickest_b95 r18 n l1 l2 l3 l4 l5 l7 μ)) := by
  unfold f_X4_quickest_b95
  refine z_aload_n (pc := 95) dX4_quickest_95 rfl ?_
  refine zgR_X4_15 (pc := 96) gc_42 rfl dX4_quickest_96 ?_
  refine z_iload (pc := 99) dX4_quickest_99 rfl ?_
  refine z_bindP (fun p3 hp3 => ?_)
  refine z_callVi (pc := 101) (As := [.int l4]) (S := []) (c_X7_becomeNext n l4 μ) hp3 zw_X7_becomeNext zv_X7_becomeNext zm_X4_94 (n := 1) (by decide) rfl (z_recv gc_31 (T := TX7) (N := 8) rfl) rfl (Nat.le_of_ble_eq_true rfl) (by decide) (by decide) dX4_quickest_101 ?_
  refine z_istore (pc := 104) (L' := [(0, .ref (b + 42)), (1, .int l1), (2, .int l2), (3, .int l3), (4, .int l4), (5, .int l5), (6, .int p3.1), (7, .int l7)]) dX4_quickest_104 (by decide) rfl ?_
  refine z_iinc (pc := 106) (v := (l7 + 1)) (L' := [(0, .ref (b + 42)), (1, .int l1), (2, .int l2), (3, .int l3), (4, .int l4), (5, .int l5), (6, .int p3.1), (7, .int (l7 + 1))]) dX4_quickest_106 rfl (by decide) rfl rfl ?_
  refine z_goto (pc := 109) (tgt := 18) dX4_quickest_109 (by decide) ?_
  exact hr18 l1 l2 l3 l4 l5 p3.1 (l7 + 1) p3.2

set_option maxRecDepth 20000 in
theorem w_X4_quickest_57 {D : va_G} {cI cL : ClassId} {b : Nat} {Z : State → Heap → Prop}  (r18 : Int32 → Int32 → Int32 → Int32 → Int32 → Int32 → Int32 → z_M → Option (Unit × z_M)) (hr18 : ∀ (l1 : Int32) (l2 : Int32) (l3 : Int32) (l4 : Int32) (l5 : Int32) (l6 : Int32) (l7 : Int32) (μ : z_M), z_w (zEc D cI cL b Z) (RX4, cX4_quickest, 9, (some (.object "TwoHousesBehind$Search")), 5) (z_eo (b + 42)) 18 [(0, .ref (b + 42)), (1, .int l1), (2, .int l2), (3, .int l3), (4, .int l4), (5, .int l5), (6, .int l6), (7, .int l7)] [] μ ((r18 l1 l2 l3 l4 l5 l6 l7 μ))) (n : Nat) (l1 : Int32) (l2 : Int32) (l3 : Int32) (l4 : Int32) (l5 : Int32) (l7 : Int32) (s0 : Int32) (μ : z_M) : z_w (zEc D cI cL b Z) (RX4, cX4_quickest, 9, (some (.object "TwoHousesBehind$Search")), 5) (z_eo (b + 42)) 57 [(0, .ref (b + 42)), (1, .int l1), (2, .int l2), (3, .int l3), (4, .int l4), (5, .int l5), (7, .int l7)] [.int s0] μ ((f_X4_quickest_b57 r18 n l1 l2 l3 l4 l5 l7 s0 μ)) := by
  unfold f_X4_quickest_b57
  refine z_istore (pc := 57) (L' := [(0, .ref (b + 42)), (1, .int l1), (2, .int l2), (3, .int l3), (4, .int l4), (5, .int l5), (7, .int l7), (8, .int s0)]) dX4_quickest_57 (by decide) rfl ?_
  refine z_iload (pc := 59) dX4_quickest_59 rfl ?_
  refine z_if_eq (pc := 61) (tgt := 95) dX4_quickest_61 (by decide) (fun _ => ?_) (fun _ => ?_)
  · refine z_drop (L' := [(0, .ref (b + 42)), (1, .int l1), (2, .int l2), (3, .int l3), (4, .int l4), (5, .int l5), (7, .int l7)]) [0, 1, 2, 3, 4, 5, 6] rfl ?_
    exact w_X4_quickest_95 _ hr18 n l1 l2 l3 l4 l5 l7 μ
  · refine z_aload_n (pc := 64) dX4_quickest_64 rfl ?_
    refine z_callVi (pc := 65) (As := []) (S := []) (c_X4_isQuicker μ) rfl zw_X4_isQuicker zv_X4_isQuicker zm_X4_83 (n := 0) (by decide) rfl (z_recv gc_42 (T := TX4) (N := 7) rfl) rfl (Nat.le_of_ble_eq_true rfl) (by decide) (by decide) dX4_quickest_65 ?_
    refine z_if_eq (pc := 68) (tgt := 95) dX4_quickest_68 (by decide) (fun _ => ?_) (fun _ => ?_)
    · refine z_drop (L' := [(0, .ref (b + 42)), (1, .int l1), (2, .int l2), (3, .int l3), (4, .int l4), (5, .int l5), (7, .int l7)]) [0, 1, 2, 3, 4, 5, 6] rfl ?_
      exact w_X4_quickest_95 _ hr18 n l1 l2 l3 l4 l5 l7 μ
    · refine z_aload_n (pc := 71) dX4_quickest_71 rfl ?_
      refine z_iload_n (pc := 72) dX4_quickest_72 rfl ?_
      refine z_iload_n (pc := 73) dX4_quickest_73 rfl ?_
      refine z_iload_n (pc := 74) dX4_quickest_74 rfl ?_
      refine z_bindP (fun p4 hp4 => ?_)
      refine z_callVi (pc := 75) (As := [.int l1, .int l2, .int l3]) (S := []) (c_X4_isHeardBy n l1 l2 l3 μ) hp4 zw_X4_isHeardBy zv_X4_isHeardBy zm_X4_87 (n := 3) (by decide) rfl (z_recv gc_42 (T := TX4) (N := 7) rfl) rfl (Nat.le_of_ble_eq_true rfl) (by decide) (by decide) dX4_quickest_75 ?_
      refine z_if_eq (pc := 78) (tgt := 95) dX4_quickest_78 (by decide) (fun _ => ?_) (fun _ => ?_)
      · refine z_drop (L' := [(0, .ref (b + 42)), (1, .int l1), (2, .int l2), (3, .int l3), (4, .int l4), (5, .int l5), (7, .int l7)]) [0, 1, 2, 3, 4, 5, 6] rfl ?_
        exact w_X4_quickest_95 _ hr18 n l1 l2 l3 l4 l5 l7 p4.2
      · refine z_aload_n (pc := 81) dX4_quickest_81 rfl ?_
        refine z_dup (pc := 82) dX4_quickest_82 rfl ?_
        refine zgI_X4_28 (pc := 83) gc_42 rfl dX4_quickest_83 ?_
        refine z_iconst (pc := 86) dX4_quickest_86 zci_1 ?_
        refine z_iadd (pc := 87) dX4_quickest_87 ?_
        refine zpI_X4_28 (pc := 88) gc_42 rfl dX4_quickest_88 ?_
        refine z_letMO (fun m5 => ?_)
        refine z_aload_n (pc := 91) dX4_quickest_91 rfl ?_
        refine z_bindP (fun p6 hp6 => ?_)
        refine z_callVv (pc := 92) (As := []) (S := []) (c_X4_keepRoute n m5) hp6 zw_X4_keepRoute zv_X4_keepRoute zm_X4_91 (n := 0) (by decide) rfl (z_recv gc_42 (T := TX4) (N := 7) rfl) rfl (Nat.le_of_ble_eq_true rfl) (by decide) (by decide) dX4_quickest_92 ?_
        refine z_drop (L' := [(0, .ref (b + 42)), (1, .int l1), (2, .int l2), (3, .int l3), (4, .int l4), (5, .int l5), (7, .int l7)]) [0, 1, 2, 3, 4, 5, 6] rfl ?_
        exact w_X4_quickest_95 _ hr18 n l1 l2 l3 l4 l5 l7 p6.2

set_option maxRecDepth 20000 in
theorem w_X4_quickest_52 {D : va_G} {cI cL : ClassId} {b : Nat} {Z : State → Heap → Prop}  (r18 : Int32 → Int32 → Int32 → Int32 → Int32 → Int32 → Int32 → z_M → Option (Unit × z_M)) (hr18 : ∀ (l1 : Int32) (l2 : Int32) (l3 : Int32) (l4 : Int32) (l5 : Int32) (l6 : Int32) (l7 : Int32) (μ : z_M), z_w (zEc D cI cL b Z) (RX4, cX4_quickest, 9, (some (.object "TwoHousesBehind$Search")), 5) (z_eo (b + 42)) 18 [(0, .ref (b + 42)), (1, .int l1), (2, .int l2), (3, .int l3), (4, .int l4), (5, .int l5), (6, .int l6), (7, .int l7)] [] μ ((r18 l1 l2 l3 l4 l5 l6 l7 μ))) (n : Nat) (l1 : Int32) (l2 : Int32) (l3 : Int32) (l4 : Int32) (l5 : Int32) (l7 : Int32) (μ : z_M) : z_w (zEc D cI cL b Z) (RX4, cX4_quickest, 9, (some (.object "TwoHousesBehind$Search")), 5) (z_eo (b + 42)) 52 [(0, .ref (b + 42)), (1, .int l1), (2, .int l2), (3, .int l3), (4, .int l4), (5, .int l5), (7, .int l7)] [] μ ((f_X4_quickest_b52 r18 n l1 l2 l3 l4 l5 l7 μ)) := by
  unfold f_X4_quickest_b52
  refine z_iconst (pc := 52) dX4_quickest_52 zci_1 ?_
  refine z_goto (pc := 53) (tgt := 57) dX4_quickest_53 (by decide) ?_
  exact w_X4_quickest_57 _ hr18 n l1 l2 l3 l4 l5 l7 1 μ

set_option maxRecDepth 20000 in
theorem w_X4_quickest_18 {D : va_G} {cI cL : ClassId} {b : Nat} {Z : State → Heap → Prop}  : ∀ (n : Nat) (l1 : Int32) (l2 : Int32) (l3 : Int32) (l4 : Int32) (l5 : Int32) (l6 : Int32) (l7 : Int32) (μ : z_M), z_w (zEc D cI cL b Z) (RX4, cX4_quickest, 9, (some (.object "TwoHousesBehind$Search")), 5) (z_eo (b + 42)) 18 [(0, .ref (b + 42)), (1, .int l1), (2, .int l2), (3, .int l3), (4, .int l4), (5, .int l5), (6, .int l6), (7, .int l7)] [] μ (f_X4_quickest_h18 n l1 l2 l3 l4 l5 l6 l7 μ) := by
  intro n
  induction n with
  | zero =>
    intro l1 l2 l3 l4 l5 l6 l7 μ
    exact z_none
  | succ n ih =>
    intro l1 l2 l3 l4 l5 l6 l7 μ
    unfold f_X4_quickest_h18
    refine z_iload (pc := 18) dX4_quickest_18 rfl ?_
    refine z_if_eq (pc := 20) (tgt := 112) dX4_quickest_20 (by decide) (fun _ => ?_) (fun _ => ?_)
    · refine z_drop (L' := [(0, .ref (b + 42))]) [0] rfl ?_
      exact w_X4_quickest_112 n μ
    · refine z_iload (pc := 23) dX4_quickest_23 rfl ?_
      refine z_ldc (pc := 25) dX4_quickest_25 zc_X4_76 ?_
      refine z_icmp_ge (pc := 27) (tgt := 112) dX4_quickest_27 (by decide) (fun _ => ?_) (fun _ => ?_)
      · refine z_iload (pc := 30) dX4_quickest_30 rfl ?_
        refine z_if_eq (pc := 32) (tgt := 52) dX4_quickest_32 (by decide) (fun _ => ?_) (fun _ => ?_)
        · refine z_drop (L' := [(0, .ref (b + 42)), (1, .int l1), (2, .int l2), (3, .int l3), (4, .int l4), (5, .int l5), (7, .int l7)]) [0, 1, 2, 3, 4, 5, 7] rfl ?_
          exact w_X4_quickest_52 _ ih n l1 l2 l3 l4 l5 l7 μ
        · refine z_aload_n (pc := 35) dX4_quickest_35 rfl ?_
          refine zgR_X4_15 (pc := 36) gc_42 rfl dX4_quickest_36 ?_
          refine z_callVi (pc := 39) (As := []) (S := []) (c_X7_place μ) rfl zw_X7_place zv_X7_place zm_X4_77 (n := 0) (by decide) rfl (z_recv gc_31 (T := TX7) (N := 8) rfl) rfl (Nat.le_of_ble_eq_true rfl) (by decide) (by decide) dX4_quickest_39 ?_
          refine z_aload_n (pc := 42) dX4_quickest_42 rfl ?_
          refine zgR_X4_9 (pc := 43) gc_42 rfl dX4_quickest_43 ?_
          refine z_callVi (pc := 46) (As := []) (S := [.int (f_X7_place μ)]) (c_X6_birdAt zstr_1 μ) rfl zw_X6_birdAt zv_X6_birdAt zm_X4_80 (n := 0) (by decide) rfl (z_recv gc_1 (T := TX6) (N := 10) rfl) rfl (Nat.le_of_ble_eq_true rfl) (by decide) (by decide) dX4_quickest_46 ?_
          refine z_icmp_ne (pc := 49) (tgt := 56) dX4_quickest_49 (by decide) (fun _ => ?_) (fun _ => ?_)
          · refine z_drop (L' := [(0, .ref (b + 42)), (1, .int l1), (2, .int l2), (3, .int l3), (4, .int l4), (5, .int l5), (7, .int l7)]) [0, 1, 2, 3, 4, 5, 7] rfl ?_
            exact w_X4_quickest_52 _ ih n l1 l2 l3 l4 l5 l7 μ
          · refine z_iconst (pc := 56) dX4_quickest_56 zci_0 ?_
            refine z_drop (L' := [(0, .ref (b + 42)), (1, .int l1), (2, .int l2), (3, .int l3), (4, .int l4), (5, .int l5), (7, .int l7)]) [0, 1, 2, 3, 4, 5, 7] rfl ?_
            exact w_X4_quickest_57 _ ih n l1 l2 l3 l4 l5 l7 0 μ
      · refine z_drop (L' := [(0, .ref (b + 42))]) [0] rfl ?_
        exact w_X4_quickest_112 n μ

set_option maxRecDepth 20000 in
theorem w_X4_quickest_0 {D : va_G} {cI cL : ClassId} {b : Nat} {Z : State → Heap → Prop}  (n : Nat) (a1 : Int32) (a2 : Int32) (a3 : Int32) (a4 : Int32) (a5 : Int32) (μ : z_M) : z_w (zEc D cI cL b Z) (RX4, cX4_quickest, 9, (some (.object "TwoHousesBehind$Search")), 5) (z_eo (b + 42)) 0 [(0, .ref (b + 42)), (1, .int a1), (2, .int a2), (3, .int a3), (4, .int a4), (5, .int a5)] [] μ ((f_X4_quickest n a1 a2 a3 a4 a5 μ)) := by
  unfold f_X4_quickest
  refine z_aload_n (pc := 0) dX4_quickest_0 rfl ?_
  refine z_iconst (pc := 1) dX4_quickest_1 zci_0 ?_
  refine zpI_X4_28 (pc := 2) gc_42 rfl dX4_quickest_2 ?_
  refine z_letMO (fun m1 => ?_)
  refine z_aload_n (pc := 5) dX4_quickest_5 rfl ?_
  refine zgR_X4_15 (pc := 6) gc_42 rfl dX4_quickest_6 ?_
  refine z_bindP (fun p2 hp2 => ?_)
  refine z_callVv (pc := 9) (As := []) (S := []) (c_X7_begin n m1) hp2 zw_X7_begin zv_X7_begin zm_X4_73 (n := 0) (by decide) rfl (z_recv gc_31 (T := TX7) (N := 8) rfl) rfl (Nat.le_of_ble_eq_true rfl) (by decide) (by decide) dX4_quickest_9 ?_
  refine z_iconst (pc := 12) dX4_quickest_12 zci_1 ?_
  refine z_istore (pc := 13) (L' := [(0, .ref (b + 42)), (1, .int a1), (2, .int a2), (3, .int a3), (4, .int a4), (5, .int a5), (6, .int 1)]) dX4_quickest_13 (by decide) rfl ?_
  refine z_iconst (pc := 15) dX4_quickest_15 zci_0 ?_
  refine z_istore (pc := 16) (L' := [(0, .ref (b + 42)), (1, .int a1), (2, .int a2), (3, .int a3), (4, .int a4), (5, .int a5), (6, .int 1), (7, .int 0)]) dX4_quickest_16 (by decide) rfl ?_
  exact w_X4_quickest_18 n a1 a2 a3 a4 a5 1 0 p2.2

set_option maxRecDepth 20000 in
theorem c_X4_quickest {D : va_G} {cI cL : ClassId} {b : Nat} {Z : State → Heap → Prop}  (n : Nat) (a1 : Int32) (a2 : Int32) (a3 : Int32) (a4 : Int32) (a5 : Int32) (μ : z_M) : z_S (zEc D cI cL b Z) 5 yX4_quickest cX4_quickest 9 (some (.object "TwoHousesBehind$Search")) (z_eo (b + 42)) [.ref (b + 42), .int a1, .int a2, .int a3, .int a4, .int a5] μ ((f_X4_quickest n a1 a2 a3 a4 a5 μ)) :=
  z_entry (yn := yX4_quickest) (by decide) (Nat.le_of_ble_eq_true rfl) rfl (w_X4_quickest_0 n a1 a2 a3 a4 a5 μ)

def f_X4_told (a1 : Int32) (μ : z_M) : Int32 :=
  if (μ.1 42 3) = 0 then ((-1)) else (if a1 = 0 then ((μ.1 42 5)) else (if a1 = 1 then ((μ.1 42 6)) else (if a1 < 2 then ((-1)) else (if (a1 - 2) < (μ.1 42 6) then ((g_get 44 6 (a1 - 2) μ)) else ((-1))))))
set_option maxRecDepth 20000 in
theorem w_X4_told_0 {D : va_G} {cI cL : ClassId} {b : Nat} {Z : State → Heap → Prop}  (a1 : Int32) (μ : z_M) : z_w (zEc D cI cL b Z) (RX4, cX4_told, 2, (some .int), 1) z_ei 0 [(0, .ref (b + 42)), (1, .int a1)] [] μ (z_oP μ (f_X4_told a1 μ)) := by
  unfold f_X4_told
  refine z_aload_n (pc := 0) dX4_told_0 rfl ?_
  refine zgI_X4_28 (pc := 1) gc_42 rfl dX4_told_1 ?_
  refine z_outIf ?_
  refine z_if_ne (pc := 4) (tgt := 9) dX4_told_4 (by decide) (fun _ => ?_) (fun _ => ?_)
  · refine z_iconst (pc := 7) dX4_told_7 zci_m1 ?_
    exact z_iret (pc := 8) rfl dX4_told_8
  · refine z_iload_n (pc := 9) dX4_told_9 rfl ?_
    refine z_outIf ?_
    refine z_split (fun hx => ?_) (fun hs10_0 => ?_)
    · refine z_lookup (pc := 10) (off := 26) (tgt := 36) dX4_told_10 (by decide) (by rw [hx]; decide) (by decide) ?_
      refine z_aload_n (pc := 36) dX4_told_36 rfl ?_
      refine zgI_X4_45 (pc := 37) gc_42 rfl dX4_told_37 ?_
      exact z_iret (pc := 40) rfl dX4_told_40
    · refine z_outIf ?_
      refine z_split (fun hx => ?_) (fun hs10_1 => ?_)
      · refine z_lookup (pc := 10) (off := 31) (tgt := 41) dX4_told_10 (by decide) (by rw [hx]; decide) (by decide) ?_
        refine z_aload_n (pc := 41) dX4_told_41 rfl ?_
        refine zgI_X4_51 (pc := 42) gc_42 rfl dX4_told_42 ?_
        exact z_iret (pc := 45) rfl dX4_told_45
      · refine z_lookup (pc := 10) (off := 36) (tgt := 46) dX4_told_10 (by decide) (by rw [lv_osw hs10_0 (by decide), lv_osw hs10_1 (by decide)]; rfl) (by decide) ?_
        refine z_iload_n (pc := 46) dX4_told_46 rfl ?_
        refine z_iconst (pc := 47) dX4_told_47 zci_2 ?_
        refine z_outIf ?_
        refine z_icmp_lt (pc := 48) (tgt := 74) dX4_told_48 (by decide) (fun _ => ?_) (fun _ => ?_)
        · refine z_iconst (pc := 74) dX4_told_74 zci_m1 ?_
          exact z_iret (pc := 75) rfl dX4_told_75
        · refine z_iload_n (pc := 51) dX4_told_51 rfl ?_
          refine z_iconst (pc := 52) dX4_told_52 zci_2 ?_
          refine z_isub (pc := 53) dX4_told_53 ?_
          refine z_aload_n (pc := 54) dX4_told_54 rfl ?_
          refine zgI_X4_51 (pc := 55) gc_42 rfl dX4_told_55 ?_
          refine z_outIf ?_
          refine z_icmp_ge (pc := 58) (tgt := 74) dX4_told_58 (by decide) (fun _ => ?_) (fun _ => ?_)
          · refine z_aload_n (pc := 61) dX4_told_61 rfl ?_
            refine zgR_X4_24 (pc := 62) gc_42 rfl dX4_told_62 ?_
            refine z_iload_n (pc := 65) dX4_told_65 rfl ?_
            refine z_iconst (pc := 66) dX4_told_66 zci_2 ?_
            refine z_isub (pc := 67) dX4_told_67 ?_
            refine z_callVi (pc := 68) (As := [.int (a1 - 2)]) (S := []) (g_X1_get gc_43 gc_44 (Nat.le_of_ble_eq_true rfl) (a1 - 2) μ) rfl zw_X1_get zv_X1_get zm_X4_35 (n := 1) (by decide) rfl (z_recv gc_43 (T := TX1) (N := 1) rfl) rfl (Nat.le_of_ble_eq_true rfl) (by decide) (by decide) dX4_told_68 ?_
            refine z_goto (pc := 71) (tgt := 75) dX4_told_71 (by decide) ?_
            exact z_iret (pc := 75) rfl dX4_told_75
          · refine z_iconst (pc := 74) dX4_told_74 zci_m1 ?_
            exact z_iret (pc := 75) rfl dX4_told_75

set_option maxRecDepth 20000 in
theorem c_X4_told {D : va_G} {cI cL : ClassId} {b : Nat} {Z : State → Heap → Prop}  (a1 : Int32) (μ : z_M) : z_S (zEc D cI cL b Z) 1 yX4_told cX4_told 2 (some .int) z_ei [.ref (b + 42), .int a1] μ (z_oP μ (f_X4_told a1 μ)) :=
  z_entry (yn := yX4_told) (by decide) (Nat.le_of_ble_eq_true rfl) rfl (w_X4_told_0 a1 μ)

def f_X4_oddsOfWalk_b95 (r5 : Int32 → Int64 → Int32 → z_M → Option (Int64 × z_M)) (n : Nat) (l1 : Int32) (l2 : Int64) (l4 : Int32) (μ : z_M) : Option (Int64 × z_M) :=
  r5 l1 l2 (l4 + 1) μ
def f_X4_oddsOfWalk_b84 (r5 : Int32 → Int64 → Int32 → z_M → Option (Int64 × z_M)) (n : Nat) (l1 : Int32) (l4 : Int32) (s0 : Int64) (s1 : Int64) (μ : z_M) : Option (Int64 × z_M) :=
  z_let ((s1 * s0) : Int64) (fun x4 => f_X4_oddsOfWalk_b95 r5 n l1 x4 l4 μ)
def f_X4_oddsOfWalk_h5 : Nat → Int32 → Int64 → Int32 → z_M → Option (Int64 × z_M)
  | 0, _, _, _, _ => none
  | n + 1, l1, l2, l4, μ =>
    if l4 < l1 then (if l4 < (f_X7_visitsMade μ) then (z_let ((f_X7_placeAt (l4 - 1) μ) : Int32) (fun x1 => z_bind (f_X6_openWaysAt 1 n x1 μ) (fun p2 => if (0 : Int32) < p2.1 then (z_bind (f_X6_openWaysBetween 1 n x1 (f_X7_placeAt l4 p2.2) p2.2) (fun p3 => z_nzl (Int32.toInt64 p2.1) (f_X4_oddsOfWalk_b84 (f_X4_oddsOfWalk_h5 n) n l1 l4 ((Int32.toInt64 p3.1) * (27720 / (Int32.toInt64 p2.1))) l2 p3.2))) else (f_X4_oddsOfWalk_b84 (f_X4_oddsOfWalk_h5 n) n l1 l4 0 l2 p2.2)))) else (z_let ((l2 * 27720) : Int64) (fun x5 => f_X4_oddsOfWalk_b95 (f_X4_oddsOfWalk_h5 n) n l1 x5 l4 μ))) else (some (l2, μ))
def f_X4_oddsOfWalk (n : Nat) (a1 : Int32) (μ : z_M) : Option (Int64 × z_M) :=
  f_X4_oddsOfWalk_h5 n a1 1 0 μ
set_option maxRecDepth 20000 in
theorem w_X4_oddsOfWalk_95 {D : va_G} {cI cL : ClassId} {b : Nat} {Z : State → Heap → Prop}  (r5 : Int32 → Int64 → Int32 → z_M → Option (Int64 × z_M)) (hr5 : ∀ (l1 : Int32) (l2 : Int64) (l4 : Int32) (μ : z_M), z_w (zEc D cI cL b Z) (RX4, cX4_oddsOfWalk, 7, (some .long), 4) z_el 5 [(0, .ref (b + 42)), (1, .int l1), (2, .long l2), (4, .int l4)] [] μ ((r5 l1 l2 l4 μ))) (n : Nat) (l1 : Int32) (l2 : Int64) (l4 : Int32) (μ : z_M) : z_w (zEc D cI cL b Z) (RX4, cX4_oddsOfWalk, 7, (some .long), 4) z_el 95 [(0, .ref (b + 42)), (1, .int l1), (2, .long l2), (4, .int l4)] [] μ ((f_X4_oddsOfWalk_b95 r5 n l1 l2 l4 μ)) := by
  unfold f_X4_oddsOfWalk_b95
  refine z_iinc (pc := 95) (v := (l4 + 1)) (L' := [(0, .ref (b + 42)), (1, .int l1), (2, .long l2), (4, .int (l4 + 1))]) dX4_oddsOfWalk_95 rfl (by decide) rfl rfl ?_
  refine z_goto (pc := 98) (tgt := 5) dX4_oddsOfWalk_98 (by decide) ?_
  exact hr5 l1 l2 (l4 + 1) μ

set_option maxRecDepth 20000 in
theorem w_X4_oddsOfWalk_84 {D : va_G} {cI cL : ClassId} {b : Nat} {Z : State → Heap → Prop}  (r5 : Int32 → Int64 → Int32 → z_M → Option (Int64 × z_M)) (hr5 : ∀ (l1 : Int32) (l2 : Int64) (l4 : Int32) (μ : z_M), z_w (zEc D cI cL b Z) (RX4, cX4_oddsOfWalk, 7, (some .long), 4) z_el 5 [(0, .ref (b + 42)), (1, .int l1), (2, .long l2), (4, .int l4)] [] μ ((r5 l1 l2 l4 μ))) (n : Nat) (l1 : Int32) (l4 : Int32) (s0 : Int64) (s1 : Int64) (μ : z_M) : z_w (zEc D cI cL b Z) (RX4, cX4_oddsOfWalk, 7, (some .long), 4) z_el 84 [(0, .ref (b + 42)), (1, .int l1), (4, .int l4)] [.long s0, .long s1] μ ((f_X4_oddsOfWalk_b84 r5 n l1 l4 s0 s1 μ)) := by
  unfold f_X4_oddsOfWalk_b84
  refine z_lmul (pc := 84) dX4_oddsOfWalk_84 ?_
  refine z_letJO (fun x4 => ?_)
  refine z_lstore_n (pc := 85) (L' := [(0, .ref (b + 42)), (1, .int l1), (2, .long x4), (4, .int l4)]) dX4_oddsOfWalk_85 (by decide) rfl ?_
  refine z_goto (pc := 86) (tgt := 95) dX4_oddsOfWalk_86 (by decide) ?_
  exact w_X4_oddsOfWalk_95 _ hr5 n l1 x4 l4 μ

set_option maxRecDepth 20000 in
theorem w_X4_oddsOfWalk_5 {D : va_G} {cI cL : ClassId} {b : Nat} {Z : State → Heap → Prop}  : ∀ (n : Nat) (l1 : Int32) (l2 : Int64) (l4 : Int32) (μ : z_M), z_w (zEc D cI cL b Z) (RX4, cX4_oddsOfWalk, 7, (some .long), 4) z_el 5 [(0, .ref (b + 42)), (1, .int l1), (2, .long l2), (4, .int l4)] [] μ (f_X4_oddsOfWalk_h5 n l1 l2 l4 μ) := by
  intro n
  induction n with
  | zero =>
    intro l1 l2 l4 μ
    exact z_none
  | succ n ih =>
    intro l1 l2 l4 μ
    unfold f_X4_oddsOfWalk_h5
    refine z_iload (pc := 5) dX4_oddsOfWalk_5 rfl ?_
    refine z_iload_n (pc := 7) dX4_oddsOfWalk_7 rfl ?_
    refine z_icmp_ge (pc := 8) (tgt := 101) dX4_oddsOfWalk_8 (by decide) (fun _ => ?_) (fun _ => ?_)
    · refine z_iload (pc := 11) dX4_oddsOfWalk_11 rfl ?_
      refine z_aload_n (pc := 13) dX4_oddsOfWalk_13 rfl ?_
      refine zgR_X4_15 (pc := 14) gc_42 rfl dX4_oddsOfWalk_14 ?_
      refine z_callVi (pc := 17) (As := []) (S := [.int l4]) (c_X7_visitsMade μ) rfl zw_X7_visitsMade zv_X7_visitsMade zm_X4_48 (n := 0) (by decide) rfl (z_recv gc_31 (T := TX7) (N := 8) rfl) rfl (Nat.le_of_ble_eq_true rfl) (by decide) (by decide) dX4_oddsOfWalk_17 ?_
      refine z_icmp_ge (pc := 20) (tgt := 89) dX4_oddsOfWalk_20 (by decide) (fun _ => ?_) (fun _ => ?_)
      · refine z_aload_n (pc := 23) dX4_oddsOfWalk_23 rfl ?_
        refine zgR_X4_15 (pc := 24) gc_42 rfl dX4_oddsOfWalk_24 ?_
        refine z_iload (pc := 27) dX4_oddsOfWalk_27 rfl ?_
        refine z_iconst (pc := 29) dX4_oddsOfWalk_29 zci_1 ?_
        refine z_isub (pc := 30) dX4_oddsOfWalk_30 ?_
        refine z_callVi (pc := 31) (As := [.int (l4 - 1)]) (S := []) (c_X7_placeAt (l4 - 1) μ) rfl zw_X7_placeAt zv_X7_placeAt zm_X4_54 (n := 1) (by decide) rfl (z_recv gc_31 (T := TX7) (N := 8) rfl) rfl (Nat.le_of_ble_eq_true rfl) (by decide) (by decide) dX4_oddsOfWalk_31 ?_
        refine z_letIO (fun x1 => ?_)
        refine z_istore (pc := 34) (L' := [(0, .ref (b + 42)), (1, .int l1), (2, .long l2), (4, .int l4), (5, .int x1)]) dX4_oddsOfWalk_34 (by decide) rfl ?_
        refine z_aload_n (pc := 36) dX4_oddsOfWalk_36 rfl ?_
        refine zgR_X4_9 (pc := 37) gc_42 rfl dX4_oddsOfWalk_37 ?_
        refine z_iload (pc := 40) dX4_oddsOfWalk_40 rfl ?_
        refine z_bindP (fun p2 hp2 => ?_)
        refine z_callVi (pc := 42) (As := [.int x1]) (S := []) (c_X6_openWaysAt zstr_1 n x1 μ) hp2 zw_X6_openWaysAt zv_X6_openWaysAt zm_X4_111 (n := 1) (by decide) rfl (z_recv gc_1 (T := TX6) (N := 10) rfl) rfl (Nat.le_of_ble_eq_true rfl) (by decide) (by decide) dX4_oddsOfWalk_42 ?_
        refine z_istore (pc := 45) (L' := [(0, .ref (b + 42)), (1, .int l1), (2, .long l2), (4, .int l4), (5, .int x1), (6, .int p2.1)]) dX4_oddsOfWalk_45 (by decide) rfl ?_
        refine z_lload_n (pc := 47) dX4_oddsOfWalk_47 rfl ?_
        refine z_iload (pc := 48) dX4_oddsOfWalk_48 rfl ?_
        refine z_if_le (pc := 50) (tgt := 83) dX4_oddsOfWalk_50 (by decide) (fun _ => ?_) (fun _ => ?_)
        · refine z_aload_n (pc := 53) dX4_oddsOfWalk_53 rfl ?_
          refine zgR_X4_9 (pc := 54) gc_42 rfl dX4_oddsOfWalk_54 ?_
          refine z_iload (pc := 57) dX4_oddsOfWalk_57 rfl ?_
          refine z_aload_n (pc := 59) dX4_oddsOfWalk_59 rfl ?_
          refine zgR_X4_15 (pc := 60) gc_42 rfl dX4_oddsOfWalk_60 ?_
          refine z_iload (pc := 63) dX4_oddsOfWalk_63 rfl ?_
          refine z_callVi (pc := 65) (As := [.int l4]) (S := [.int x1, .ref (b + 1), .long l2]) (c_X7_placeAt l4 p2.2) rfl zw_X7_placeAt zv_X7_placeAt zm_X4_54 (n := 1) (by decide) rfl (z_recv gc_31 (T := TX7) (N := 8) rfl) rfl (Nat.le_of_ble_eq_true rfl) (by decide) (by decide) dX4_oddsOfWalk_65 ?_
          refine z_bindP (fun p3 hp3 => ?_)
          refine z_callVi (pc := 68) (As := [.int x1, .int (f_X7_placeAt l4 p2.2)]) (S := [.long l2]) (c_X6_openWaysBetween zstr_1 n x1 (f_X7_placeAt l4 p2.2) p2.2) hp3 zw_X6_openWaysBetween zv_X6_openWaysBetween zm_X4_118 (n := 2) (by decide) rfl (z_recv gc_1 (T := TX6) (N := 10) rfl) rfl (Nat.le_of_ble_eq_true rfl) (by decide) (by decide) dX4_oddsOfWalk_68 ?_
          refine z_i2l (pc := 71) dX4_oddsOfWalk_71 ?_
          refine z_ldc2 (pc := 72) dX4_oddsOfWalk_72 zc_X4_121 ?_
          refine z_iload (pc := 75) dX4_oddsOfWalk_75 rfl ?_
          refine z_i2l (pc := 77) dX4_oddsOfWalk_77 ?_
          refine z_ldiv (pc := 78) dX4_oddsOfWalk_78 ?_
          refine z_lmul (pc := 79) dX4_oddsOfWalk_79 ?_
          refine z_goto (pc := 80) (tgt := 84) dX4_oddsOfWalk_80 (by decide) ?_
          refine z_drop (L' := [(0, .ref (b + 42)), (1, .int l1), (4, .int l4)]) [0, 1, 3] rfl ?_
          exact w_X4_oddsOfWalk_84 _ ih n l1 l4 ((Int32.toInt64 p3.1) * (27720 / (Int32.toInt64 p2.1))) l2 p3.2
        · refine z_lconst (pc := 83) dX4_oddsOfWalk_83 zcl_0 ?_
          refine z_drop (L' := [(0, .ref (b + 42)), (1, .int l1), (4, .int l4)]) [0, 1, 3] rfl ?_
          exact w_X4_oddsOfWalk_84 _ ih n l1 l4 0 l2 p2.2
      · refine z_lload_n (pc := 89) dX4_oddsOfWalk_89 rfl ?_
        refine z_ldc2 (pc := 90) dX4_oddsOfWalk_90 zc_X4_121 ?_
        refine z_lmul (pc := 93) dX4_oddsOfWalk_93 ?_
        refine z_letJO (fun x5 => ?_)
        refine z_lstore_n (pc := 94) (L' := [(0, .ref (b + 42)), (1, .int l1), (2, .long x5), (4, .int l4)]) dX4_oddsOfWalk_94 (by decide) rfl ?_
        exact w_X4_oddsOfWalk_95 _ ih n l1 x5 l4 μ
    · refine z_lload_n (pc := 101) dX4_oddsOfWalk_101 rfl ?_
      exact z_lret (pc := 102) rfl dX4_oddsOfWalk_102

set_option maxRecDepth 20000 in
theorem w_X4_oddsOfWalk_0 {D : va_G} {cI cL : ClassId} {b : Nat} {Z : State → Heap → Prop}  (n : Nat) (a1 : Int32) (μ : z_M) : z_w (zEc D cI cL b Z) (RX4, cX4_oddsOfWalk, 7, (some .long), 4) z_el 0 [(0, .ref (b + 42)), (1, .int a1)] [] μ ((f_X4_oddsOfWalk n a1 μ)) := by
  unfold f_X4_oddsOfWalk
  refine z_lconst (pc := 0) dX4_oddsOfWalk_0 zcl_1 ?_
  refine z_lstore_n (pc := 1) (L' := [(0, .ref (b + 42)), (1, .int a1), (2, .long 1)]) dX4_oddsOfWalk_1 (by decide) rfl ?_
  refine z_iconst (pc := 2) dX4_oddsOfWalk_2 zci_0 ?_
  refine z_istore (pc := 3) (L' := [(0, .ref (b + 42)), (1, .int a1), (2, .long 1), (4, .int 0)]) dX4_oddsOfWalk_3 (by decide) rfl ?_
  exact w_X4_oddsOfWalk_5 n a1 1 0 μ

set_option maxRecDepth 20000 in
theorem c_X4_oddsOfWalk {D : va_G} {cI cL : ClassId} {b : Nat} {Z : State → Heap → Prop}  (n : Nat) (a1 : Int32) (μ : z_M) : z_S (zEc D cI cL b Z) 4 yX4_oddsOfWalk cX4_oddsOfWalk 7 (some .long) z_el [.ref (b + 42), .int a1] μ ((f_X4_oddsOfWalk n a1 μ)) :=
  z_entry (yn := yX4_oddsOfWalk) (by decide) (Nat.le_of_ble_eq_true rfl) rfl (w_X4_oddsOfWalk_0 n a1 μ)

def f_X4_isSilentWithout_h14 : Nat → Int32 → Int32 → Int32 → Int32 → Int32 → z_M → Option (Int32 × z_M)
  | 0, _, _, _, _, _, _ => none
  | n + 1, l2, l3, l4, l5, l6, μ =>
    if l5 = 0 then (some (1, μ)) else (if l6 < 1000000 then (z_bind (f_X4_hearsAny n l2 l3 μ) (fun p2 => if p2.1 = 0 then (z_bind (f_X7_becomeNext n l4 p2.2) (fun p3 => f_X4_isSilentWithout_h14 n l2 l3 l4 p3.1 (l6 + 1) p3.2)) else (some (0, p2.2)))) else (some (1, μ)))
def f_X4_isSilentWithout (n : Nat) (a1 : Int32) (a2 : Int32) (a3 : Int32) (a4 : Int32) (μ : z_M) : Option (Int32 × z_M) :=
  z_bind (f_X7_beginWithout n a1 μ) (fun p1 => f_X4_isSilentWithout_h14 n a2 a3 a4 1 0 p1.2)
set_option maxRecDepth 20000 in
theorem w_X4_isSilentWithout_14 {D : va_G} {cI cL : ClassId} {b : Nat} {Z : State → Heap → Prop}  : ∀ (n : Nat) (l2 : Int32) (l3 : Int32) (l4 : Int32) (l5 : Int32) (l6 : Int32) (μ : z_M), z_w (zEc D cI cL b Z) (RX4, cX4_isSilentWithout, 7, (some .boolean), 4) z_ei 14 [(0, .ref (b + 42)), (2, .int l2), (3, .int l3), (4, .int l4), (5, .int l5), (6, .int l6)] [] μ (f_X4_isSilentWithout_h14 n l2 l3 l4 l5 l6 μ) := by
  intro n
  induction n with
  | zero =>
    intro l2 l3 l4 l5 l6 μ
    exact z_none
  | succ n ih =>
    intro l2 l3 l4 l5 l6 μ
    unfold f_X4_isSilentWithout_h14
    refine z_iload (pc := 14) dX4_isSilentWithout_14 rfl ?_
    refine z_if_eq (pc := 16) (tgt := 54) dX4_isSilentWithout_16 (by decide) (fun _ => ?_) (fun _ => ?_)
    · refine z_iconst (pc := 54) dX4_isSilentWithout_54 zci_1 ?_
      exact z_zret (pc := 55) rfl dX4_isSilentWithout_55 (by decide)
    · refine z_iload (pc := 19) dX4_isSilentWithout_19 rfl ?_
      refine z_ldc (pc := 21) dX4_isSilentWithout_21 zc_X4_76 ?_
      refine z_icmp_ge (pc := 23) (tgt := 54) dX4_isSilentWithout_23 (by decide) (fun _ => ?_) (fun _ => ?_)
      · refine z_aload_n (pc := 26) dX4_isSilentWithout_26 rfl ?_
        refine z_iload_n (pc := 27) dX4_isSilentWithout_27 rfl ?_
        refine z_iload_n (pc := 28) dX4_isSilentWithout_28 rfl ?_
        refine z_bindP (fun p2 hp2 => ?_)
        refine z_callVi (pc := 29) (As := [.int l2, .int l3]) (S := []) (c_X4_hearsAny n l2 l3 μ) hp2 zw_X4_hearsAny zv_X4_hearsAny zm_X4_70 (n := 2) (by decide) rfl (z_recv gc_42 (T := TX4) (N := 7) rfl) rfl (Nat.le_of_ble_eq_true rfl) (by decide) (by decide) dX4_isSilentWithout_29 ?_
        refine z_if_eq (pc := 32) (tgt := 37) dX4_isSilentWithout_32 (by decide) (fun _ => ?_) (fun _ => ?_)
        · refine z_aload_n (pc := 37) dX4_isSilentWithout_37 rfl ?_
          refine zgR_X4_15 (pc := 38) gc_42 rfl dX4_isSilentWithout_38 ?_
          refine z_iload (pc := 41) dX4_isSilentWithout_41 rfl ?_
          refine z_bindP (fun p3 hp3 => ?_)
          refine z_callVi (pc := 43) (As := [.int l4]) (S := []) (c_X7_becomeNext n l4 p2.2) hp3 zw_X7_becomeNext zv_X7_becomeNext zm_X4_94 (n := 1) (by decide) rfl (z_recv gc_31 (T := TX7) (N := 8) rfl) rfl (Nat.le_of_ble_eq_true rfl) (by decide) (by decide) dX4_isSilentWithout_43 ?_
          refine z_istore (pc := 46) (L' := [(0, .ref (b + 42)), (2, .int l2), (3, .int l3), (4, .int l4), (5, .int p3.1), (6, .int l6)]) dX4_isSilentWithout_46 (by decide) rfl ?_
          refine z_iinc (pc := 48) (v := (l6 + 1)) (L' := [(0, .ref (b + 42)), (2, .int l2), (3, .int l3), (4, .int l4), (5, .int p3.1), (6, .int (l6 + 1))]) dX4_isSilentWithout_48 rfl (by decide) rfl rfl ?_
          refine z_goto (pc := 51) (tgt := 14) dX4_isSilentWithout_51 (by decide) ?_
          exact ih l2 l3 l4 p3.1 (l6 + 1) p3.2
        · refine z_iconst (pc := 35) dX4_isSilentWithout_35 zci_0 ?_
          exact z_zret (pc := 36) rfl dX4_isSilentWithout_36 (by decide)
      · refine z_iconst (pc := 54) dX4_isSilentWithout_54 zci_1 ?_
        exact z_zret (pc := 55) rfl dX4_isSilentWithout_55 (by decide)

set_option maxRecDepth 20000 in
theorem w_X4_isSilentWithout_0 {D : va_G} {cI cL : ClassId} {b : Nat} {Z : State → Heap → Prop}  (n : Nat) (a1 : Int32) (a2 : Int32) (a3 : Int32) (a4 : Int32) (μ : z_M) : z_w (zEc D cI cL b Z) (RX4, cX4_isSilentWithout, 7, (some .boolean), 4) z_ei 0 [(0, .ref (b + 42)), (1, .int a1), (2, .int a2), (3, .int a3), (4, .int a4)] [] μ ((f_X4_isSilentWithout n a1 a2 a3 a4 μ)) := by
  unfold f_X4_isSilentWithout
  refine z_aload_n (pc := 0) dX4_isSilentWithout_0 rfl ?_
  refine zgR_X4_15 (pc := 1) gc_42 rfl dX4_isSilentWithout_1 ?_
  refine z_iload_n (pc := 4) dX4_isSilentWithout_4 rfl ?_
  refine z_bindP (fun p1 hp1 => ?_)
  refine z_callVv (pc := 5) (As := [.int a1]) (S := []) (c_X7_beginWithout n a1 μ) hp1 zw_X7_beginWithout zv_X7_beginWithout zm_X4_123 (n := 1) (by decide) rfl (z_recv gc_31 (T := TX7) (N := 8) rfl) rfl (Nat.le_of_ble_eq_true rfl) (by decide) (by decide) dX4_isSilentWithout_5 ?_
  refine z_iconst (pc := 8) dX4_isSilentWithout_8 zci_1 ?_
  refine z_istore (pc := 9) (L' := [(0, .ref (b + 42)), (1, .int a1), (2, .int a2), (3, .int a3), (4, .int a4), (5, .int 1)]) dX4_isSilentWithout_9 (by decide) rfl ?_
  refine z_iconst (pc := 11) dX4_isSilentWithout_11 zci_0 ?_
  refine z_istore (pc := 12) (L' := [(0, .ref (b + 42)), (1, .int a1), (2, .int a2), (3, .int a3), (4, .int a4), (5, .int 1), (6, .int 0)]) dX4_isSilentWithout_12 (by decide) rfl ?_
  refine z_drop (L' := [(0, .ref (b + 42)), (2, .int a2), (3, .int a3), (4, .int a4), (5, .int 1), (6, .int 0)]) [0, 2, 3, 4, 5, 6] rfl ?_
  exact w_X4_isSilentWithout_14 n a2 a3 a4 1 0 p1.2

set_option maxRecDepth 20000 in
theorem c_X4_isSilentWithout {D : va_G} {cI cL : ClassId} {b : Nat} {Z : State → Heap → Prop}  (n : Nat) (a1 : Int32) (a2 : Int32) (a3 : Int32) (a4 : Int32) (μ : z_M) : z_S (zEc D cI cL b Z) 4 yX4_isSilentWithout cX4_isSilentWithout 7 (some .boolean) z_ei [.ref (b + 42), .int a1, .int a2, .int a3, .int a4] μ ((f_X4_isSilentWithout n a1 a2 a3 a4 μ)) :=
  z_entry (yn := yX4_isSilentWithout) (by decide) (Nat.le_of_ble_eq_true rfl) rfl (w_X4_isSilentWithout_0 n a1 a2 a3 a4 μ)

def f_X4_fewestToShut_b76 (r12 : Int32 → Int32 → Int32 → Int32 → Int32 → z_M → Option (Int32 × z_M)) (r22 : Int32 → Int32 → Int32 → Int32 → Int32 → Int32 → z_M → Option (Int32 × z_M)) (n : Nat) (l1 : Int32) (l2 : Int32) (l3 : Int32) (l4 : Int32) (l5 : Int32) (l6 : Int32) (μ : z_M) : Option (Int32 × z_M) :=
  r22 l1 l2 l3 l4 l5 (l6 + 1) μ
def f_X4_fewestToShut_b54 (r12 : Int32 → Int32 → Int32 → Int32 → Int32 → z_M → Option (Int32 × z_M)) (r22 : Int32 → Int32 → Int32 → Int32 → Int32 → Int32 → z_M → Option (Int32 × z_M)) (n : Nat) (l1 : Int32) (l2 : Int32) (l3 : Int32) (l4 : Int32) (l5 : Int32) (l6 : Int32) (s0 : Int32) (μ : z_M) : Option (Int32 × z_M) :=
  if s0 = 0 then (f_X4_fewestToShut_b76 r12 r22 n l1 l2 l3 l4 l5 l6 μ) else (z_bind (f_X4_isSilentWithout n l6 l1 l2 l3 μ) (fun p2 => if p2.1 = 0 then (f_X4_fewestToShut_b76 r12 r22 n l1 l2 l3 l4 l5 l6 p2.2) else (some (l6, p2.2))))
def f_X4_fewestToShut_b53 (r12 : Int32 → Int32 → Int32 → Int32 → Int32 → z_M → Option (Int32 × z_M)) (r22 : Int32 → Int32 → Int32 → Int32 → Int32 → Int32 → z_M → Option (Int32 × z_M)) (n : Nat) (l1 : Int32) (l2 : Int32) (l3 : Int32) (l4 : Int32) (l5 : Int32) (l6 : Int32) (μ : z_M) : Option (Int32 × z_M) :=
  f_X4_fewestToShut_b54 r12 r22 n l1 l2 l3 l4 l5 l6 0 μ
def f_X4_fewestToShut_h22 (r12 : Int32 → Int32 → Int32 → Int32 → Int32 → z_M → Option (Int32 × z_M)) : Nat → Int32 → Int32 → Int32 → Int32 → Int32 → Int32 → z_M → Option (Int32 × z_M)
  | 0, _, _, _, _, _, _, _ => none
  | n + 1, l1, l2, l3, l4, l5, l6, μ =>
    if l4 < l6 then (r12 l1 l2 l3 l4 (l5 + 1) μ) else (if (l6 &&& (l4 ^^^ (-1))) = 0 then (if (f_J6_bitCount_0f7a4 l6 μ) = l5 then (f_X4_fewestToShut_b54 r12 (f_X4_fewestToShut_h22 r12 n) n l1 l2 l3 l4 l5 l6 1 μ) else (f_X4_fewestToShut_b53 r12 (f_X4_fewestToShut_h22 r12 n) n l1 l2 l3 l4 l5 l6 μ)) else (f_X4_fewestToShut_b53 r12 (f_X4_fewestToShut_h22 r12 n) n l1 l2 l3 l4 l5 l6 μ))
def f_X4_fewestToShut_h12 : Nat → Int32 → Int32 → Int32 → Int32 → Int32 → z_M → Option (Int32 × z_M)
  | 0, _, _, _, _, _, _ => none
  | n + 1, l1, l2, l3, l4, l5, μ =>
    if (12 : Int32) < l5 then (some (l4, μ)) else (f_X4_fewestToShut_h22 (f_X4_fewestToShut_h12 n) n l1 l2 l3 l4 l5 0 μ)
def f_X4_fewestToShut (n : Nat) (a1 : Int32) (a2 : Int32) (a3 : Int32) (μ : z_M) : Option (Int32 × z_M) :=
  z_bind (f_X6_openWays 1 n μ) (fun p1 => f_X4_fewestToShut_h12 n a1 a2 a3 p1.1 0 p1.2)
set_option maxRecDepth 20000 in
theorem w_X4_fewestToShut_76 {D : va_G} {cI cL : ClassId} {b : Nat} {Z : State → Heap → Prop}  (r12 : Int32 → Int32 → Int32 → Int32 → Int32 → z_M → Option (Int32 × z_M)) (hr12 : ∀ (l1 : Int32) (l2 : Int32) (l3 : Int32) (l4 : Int32) (l5 : Int32) (μ : z_M), z_w (zEc D cI cL b Z) (RX4, cX4_fewestToShut, 8, (some .int), 5) z_ei 12 [(0, .ref (b + 42)), (1, .int l1), (2, .int l2), (3, .int l3), (4, .int l4), (5, .int l5)] [] μ ((r12 l1 l2 l3 l4 l5 μ))) (r22 : Int32 → Int32 → Int32 → Int32 → Int32 → Int32 → z_M → Option (Int32 × z_M)) (hr22 : ∀ (l1 : Int32) (l2 : Int32) (l3 : Int32) (l4 : Int32) (l5 : Int32) (l6 : Int32) (μ : z_M), z_w (zEc D cI cL b Z) (RX4, cX4_fewestToShut, 8, (some .int), 5) z_ei 22 [(0, .ref (b + 42)), (1, .int l1), (2, .int l2), (3, .int l3), (4, .int l4), (5, .int l5), (6, .int l6)] [] μ ((r22 l1 l2 l3 l4 l5 l6 μ))) (n : Nat) (l1 : Int32) (l2 : Int32) (l3 : Int32) (l4 : Int32) (l5 : Int32) (l6 : Int32) (μ : z_M) : z_w (zEc D cI cL b Z) (RX4, cX4_fewestToShut, 8, (some .int), 5) z_ei 76 [(0, .ref (b + 42)), (1, .int l1), (2, .int l2), (3, .int l3), (4, .int l4), (5, .int l5), (6, .int l6)] [] μ ((f_X4_fewestToShut_b76 r12 r22 n l1 l2 l3 l4 l5 l6 μ)) := by
  unfold f_X4_fewestToShut_b76
  refine z_iinc (pc := 76) (v := (l6 + 1)) (L' := [(0, .ref (b + 42)), (1, .int l1), (2, .int l2), (3, .int l3), (4, .int l4), (5, .int l5), (6, .int (l6 + 1))]) dX4_fewestToShut_76 rfl (by decide) rfl rfl ?_
  refine z_goto (pc := 79) (tgt := 22) dX4_fewestToShut_79 (by decide) ?_
  exact hr22 l1 l2 l3 l4 l5 (l6 + 1) μ

set_option maxRecDepth 20000 in
theorem w_X4_fewestToShut_54 {D : va_G} {cI cL : ClassId} {b : Nat} {Z : State → Heap → Prop}  (r12 : Int32 → Int32 → Int32 → Int32 → Int32 → z_M → Option (Int32 × z_M)) (hr12 : ∀ (l1 : Int32) (l2 : Int32) (l3 : Int32) (l4 : Int32) (l5 : Int32) (μ : z_M), z_w (zEc D cI cL b Z) (RX4, cX4_fewestToShut, 8, (some .int), 5) z_ei 12 [(0, .ref (b + 42)), (1, .int l1), (2, .int l2), (3, .int l3), (4, .int l4), (5, .int l5)] [] μ ((r12 l1 l2 l3 l4 l5 μ))) (r22 : Int32 → Int32 → Int32 → Int32 → Int32 → Int32 → z_M → Option (Int32 × z_M)) (hr22 : ∀ (l1 : Int32) (l2 : Int32) (l3 : Int32) (l4 : Int32) (l5 : Int32) (l6 : Int32) (μ : z_M), z_w (zEc D cI cL b Z) (RX4, cX4_fewestToShut, 8, (some .int), 5) z_ei 22 [(0, .ref (b + 42)), (1, .int l1), (2, .int l2), (3, .int l3), (4, .int l4), (5, .int l5), (6, .int l6)] [] μ ((r22 l1 l2 l3 l4 l5 l6 μ))) (n : Nat) (l1 : Int32) (l2 : Int32) (l3 : Int32) (l4 : Int32) (l5 : Int32) (l6 : Int32) (s0 : Int32) (μ : z_M) : z_w (zEc D cI cL b Z) (RX4, cX4_fewestToShut, 8, (some .int), 5) z_ei 54 [(0, .ref (b + 42)), (1, .int l1), (2, .int l2), (3, .int l3), (4, .int l4), (5, .int l5), (6, .int l6)] [.int s0] μ ((f_X4_fewestToShut_b54 r12 r22 n l1 l2 l3 l4 l5 l6 s0 μ)) := by
  unfold f_X4_fewestToShut_b54
  refine z_istore (pc := 54) (L' := [(0, .ref (b + 42)), (1, .int l1), (2, .int l2), (3, .int l3), (4, .int l4), (5, .int l5), (6, .int l6), (7, .int s0)]) dX4_fewestToShut_54 (by decide) rfl ?_
  refine z_iload (pc := 56) dX4_fewestToShut_56 rfl ?_
  refine z_if_eq (pc := 58) (tgt := 76) dX4_fewestToShut_58 (by decide) (fun _ => ?_) (fun _ => ?_)
  · refine z_drop (L' := [(0, .ref (b + 42)), (1, .int l1), (2, .int l2), (3, .int l3), (4, .int l4), (5, .int l5), (6, .int l6)]) [0, 1, 2, 3, 4, 5, 6] rfl ?_
    exact w_X4_fewestToShut_76 _ hr12 _ hr22 n l1 l2 l3 l4 l5 l6 μ
  · refine z_aload_n (pc := 61) dX4_fewestToShut_61 rfl ?_
    refine z_iload (pc := 62) dX4_fewestToShut_62 rfl ?_
    refine z_iload_n (pc := 64) dX4_fewestToShut_64 rfl ?_
    refine z_iload_n (pc := 65) dX4_fewestToShut_65 rfl ?_
    refine z_iload_n (pc := 66) dX4_fewestToShut_66 rfl ?_
    refine z_bindP (fun p2 hp2 => ?_)
    refine z_callVi (pc := 67) (As := [.int l6, .int l1, .int l2, .int l3]) (S := []) (c_X4_isSilentWithout n l6 l1 l2 l3 μ) hp2 zw_X4_isSilentWithout zv_X4_isSilentWithout zm_X4_134 (n := 4) (by decide) rfl (z_recv gc_42 (T := TX4) (N := 7) rfl) rfl (Nat.le_of_ble_eq_true rfl) (by decide) (by decide) dX4_fewestToShut_67 ?_
    refine z_if_eq (pc := 70) (tgt := 76) dX4_fewestToShut_70 (by decide) (fun _ => ?_) (fun _ => ?_)
    · refine z_drop (L' := [(0, .ref (b + 42)), (1, .int l1), (2, .int l2), (3, .int l3), (4, .int l4), (5, .int l5), (6, .int l6)]) [0, 1, 2, 3, 4, 5, 6] rfl ?_
      exact w_X4_fewestToShut_76 _ hr12 _ hr22 n l1 l2 l3 l4 l5 l6 p2.2
    · refine z_iload (pc := 73) dX4_fewestToShut_73 rfl ?_
      exact z_iret (pc := 75) rfl dX4_fewestToShut_75

set_option maxRecDepth 20000 in
theorem w_X4_fewestToShut_53 {D : va_G} {cI cL : ClassId} {b : Nat} {Z : State → Heap → Prop}  (r12 : Int32 → Int32 → Int32 → Int32 → Int32 → z_M → Option (Int32 × z_M)) (hr12 : ∀ (l1 : Int32) (l2 : Int32) (l3 : Int32) (l4 : Int32) (l5 : Int32) (μ : z_M), z_w (zEc D cI cL b Z) (RX4, cX4_fewestToShut, 8, (some .int), 5) z_ei 12 [(0, .ref (b + 42)), (1, .int l1), (2, .int l2), (3, .int l3), (4, .int l4), (5, .int l5)] [] μ ((r12 l1 l2 l3 l4 l5 μ))) (r22 : Int32 → Int32 → Int32 → Int32 → Int32 → Int32 → z_M → Option (Int32 × z_M)) (hr22 : ∀ (l1 : Int32) (l2 : Int32) (l3 : Int32) (l4 : Int32) (l5 : Int32) (l6 : Int32) (μ : z_M), z_w (zEc D cI cL b Z) (RX4, cX4_fewestToShut, 8, (some .int), 5) z_ei 22 [(0, .ref (b + 42)), (1, .int l1), (2, .int l2), (3, .int l3), (4, .int l4), (5, .int l5), (6, .int l6)] [] μ ((r22 l1 l2 l3 l4 l5 l6 μ))) (n : Nat) (l1 : Int32) (l2 : Int32) (l3 : Int32) (l4 : Int32) (l5 : Int32) (l6 : Int32) (μ : z_M) : z_w (zEc D cI cL b Z) (RX4, cX4_fewestToShut, 8, (some .int), 5) z_ei 53 [(0, .ref (b + 42)), (1, .int l1), (2, .int l2), (3, .int l3), (4, .int l4), (5, .int l5), (6, .int l6)] [] μ ((f_X4_fewestToShut_b53 r12 r22 n l1 l2 l3 l4 l5 l6 μ)) := by
  unfold f_X4_fewestToShut_b53
  refine z_iconst (pc := 53) dX4_fewestToShut_53 zci_0 ?_
  exact w_X4_fewestToShut_54 _ hr12 _ hr22 n l1 l2 l3 l4 l5 l6 0 μ

set_option maxRecDepth 20000 in
theorem w_X4_fewestToShut_22 {D : va_G} {cI cL : ClassId} {b : Nat} {Z : State → Heap → Prop}  (r12 : Int32 → Int32 → Int32 → Int32 → Int32 → z_M → Option (Int32 × z_M)) (hr12 : ∀ (l1 : Int32) (l2 : Int32) (l3 : Int32) (l4 : Int32) (l5 : Int32) (μ : z_M), z_w (zEc D cI cL b Z) (RX4, cX4_fewestToShut, 8, (some .int), 5) z_ei 12 [(0, .ref (b + 42)), (1, .int l1), (2, .int l2), (3, .int l3), (4, .int l4), (5, .int l5)] [] μ ((r12 l1 l2 l3 l4 l5 μ))) : ∀ (n : Nat) (l1 : Int32) (l2 : Int32) (l3 : Int32) (l4 : Int32) (l5 : Int32) (l6 : Int32) (μ : z_M), z_w (zEc D cI cL b Z) (RX4, cX4_fewestToShut, 8, (some .int), 5) z_ei 22 [(0, .ref (b + 42)), (1, .int l1), (2, .int l2), (3, .int l3), (4, .int l4), (5, .int l5), (6, .int l6)] [] μ (f_X4_fewestToShut_h22 r12 n l1 l2 l3 l4 l5 l6 μ) := by
  intro n
  induction n with
  | zero =>
    intro l1 l2 l3 l4 l5 l6 μ
    exact z_none
  | succ n ih =>
    intro l1 l2 l3 l4 l5 l6 μ
    unfold f_X4_fewestToShut_h22
    refine z_iload (pc := 22) dX4_fewestToShut_22 rfl ?_
    refine z_iload (pc := 24) dX4_fewestToShut_24 rfl ?_
    refine z_icmp_gt (pc := 26) (tgt := 82) dX4_fewestToShut_26 (by decide) (fun _ => ?_) (fun _ => ?_)
    · refine z_iinc (pc := 82) (v := (l5 + 1)) (L' := [(0, .ref (b + 42)), (1, .int l1), (2, .int l2), (3, .int l3), (4, .int l4), (5, .int (l5 + 1)), (6, .int l6)]) dX4_fewestToShut_82 rfl (by decide) rfl rfl ?_
      refine z_goto (pc := 85) (tgt := 12) dX4_fewestToShut_85 (by decide) ?_
      refine z_drop (L' := [(0, .ref (b + 42)), (1, .int l1), (2, .int l2), (3, .int l3), (4, .int l4), (5, .int (l5 + 1))]) [0, 1, 2, 3, 4, 5] rfl ?_
      exact hr12 l1 l2 l3 l4 (l5 + 1) μ
    · refine z_iload (pc := 29) dX4_fewestToShut_29 rfl ?_
      refine z_iload (pc := 31) dX4_fewestToShut_31 rfl ?_
      refine z_iconst (pc := 33) dX4_fewestToShut_33 zci_m1 ?_
      refine z_ixor (pc := 34) dX4_fewestToShut_34 ?_
      refine z_iand (pc := 35) dX4_fewestToShut_35 ?_
      refine z_if_ne (pc := 36) (tgt := 53) dX4_fewestToShut_36 (by decide) (fun _ => ?_) (fun _ => ?_)
      · refine z_iload (pc := 39) dX4_fewestToShut_39 rfl ?_
        refine z_callSi (pc := 41) (As := [.int l6]) (S := []) (c_J6_bitCount_0f7a4 l6 μ) rfl zw_J6_bitCount_0f7a4 zs_J6_bitCount_0f7a4 zm_X4_129 (n := 1) (by decide) rfl rfl (Nat.le_of_ble_eq_true rfl) (by decide) (by decide) dX4_fewestToShut_41 ?_
        refine z_iload (pc := 44) dX4_fewestToShut_44 rfl ?_
        refine z_icmp_ne (pc := 46) (tgt := 53) dX4_fewestToShut_46 (by decide) (fun _ => ?_) (fun _ => ?_)
        · refine z_iconst (pc := 49) dX4_fewestToShut_49 zci_1 ?_
          refine z_goto (pc := 50) (tgt := 54) dX4_fewestToShut_50 (by decide) ?_
          exact w_X4_fewestToShut_54 _ hr12 _ ih n l1 l2 l3 l4 l5 l6 1 μ
        · exact w_X4_fewestToShut_53 _ hr12 _ ih n l1 l2 l3 l4 l5 l6 μ
      · exact w_X4_fewestToShut_53 _ hr12 _ ih n l1 l2 l3 l4 l5 l6 μ

set_option maxRecDepth 20000 in
theorem w_X4_fewestToShut_12 {D : va_G} {cI cL : ClassId} {b : Nat} {Z : State → Heap → Prop}  : ∀ (n : Nat) (l1 : Int32) (l2 : Int32) (l3 : Int32) (l4 : Int32) (l5 : Int32) (μ : z_M), z_w (zEc D cI cL b Z) (RX4, cX4_fewestToShut, 8, (some .int), 5) z_ei 12 [(0, .ref (b + 42)), (1, .int l1), (2, .int l2), (3, .int l3), (4, .int l4), (5, .int l5)] [] μ (f_X4_fewestToShut_h12 n l1 l2 l3 l4 l5 μ) := by
  intro n
  induction n with
  | zero =>
    intro l1 l2 l3 l4 l5 μ
    exact z_none
  | succ n ih =>
    intro l1 l2 l3 l4 l5 μ
    unfold f_X4_fewestToShut_h12
    refine z_iload (pc := 12) dX4_fewestToShut_12 rfl ?_
    refine z_bipush (pc := 14) dX4_fewestToShut_14 zcb_12 ?_
    refine z_icmp_gt (pc := 16) (tgt := 88) dX4_fewestToShut_16 (by decide) (fun _ => ?_) (fun _ => ?_)
    · refine z_iload (pc := 88) dX4_fewestToShut_88 rfl ?_
      exact z_iret (pc := 90) rfl dX4_fewestToShut_90
    · refine z_iconst (pc := 19) dX4_fewestToShut_19 zci_0 ?_
      refine z_istore (pc := 20) (L' := [(0, .ref (b + 42)), (1, .int l1), (2, .int l2), (3, .int l3), (4, .int l4), (5, .int l5), (6, .int 0)]) dX4_fewestToShut_20 (by decide) rfl ?_
      exact w_X4_fewestToShut_22 _ ih n l1 l2 l3 l4 l5 0 μ

set_option maxRecDepth 20000 in
theorem w_X4_fewestToShut_0 {D : va_G} {cI cL : ClassId} {b : Nat} {Z : State → Heap → Prop}  (n : Nat) (a1 : Int32) (a2 : Int32) (a3 : Int32) (μ : z_M) : z_w (zEc D cI cL b Z) (RX4, cX4_fewestToShut, 8, (some .int), 5) z_ei 0 [(0, .ref (b + 42)), (1, .int a1), (2, .int a2), (3, .int a3)] [] μ ((f_X4_fewestToShut n a1 a2 a3 μ)) := by
  unfold f_X4_fewestToShut
  refine z_aload_n (pc := 0) dX4_fewestToShut_0 rfl ?_
  refine zgR_X4_9 (pc := 1) gc_42 rfl dX4_fewestToShut_1 ?_
  refine z_bindP (fun p1 hp1 => ?_)
  refine z_callVi (pc := 4) (As := []) (S := []) (c_X6_openWays zstr_1 n μ) hp1 zw_X6_openWays zv_X6_openWays zm_X4_126 (n := 0) (by decide) rfl (z_recv gc_1 (T := TX6) (N := 10) rfl) rfl (Nat.le_of_ble_eq_true rfl) (by decide) (by decide) dX4_fewestToShut_4 ?_
  refine z_istore (pc := 7) (L' := [(0, .ref (b + 42)), (1, .int a1), (2, .int a2), (3, .int a3), (4, .int p1.1)]) dX4_fewestToShut_7 (by decide) rfl ?_
  refine z_iconst (pc := 9) dX4_fewestToShut_9 zci_0 ?_
  refine z_istore (pc := 10) (L' := [(0, .ref (b + 42)), (1, .int a1), (2, .int a2), (3, .int a3), (4, .int p1.1), (5, .int 0)]) dX4_fewestToShut_10 (by decide) rfl ?_
  exact w_X4_fewestToShut_12 n a1 a2 a3 p1.1 0 p1.2

set_option maxRecDepth 20000 in
theorem c_X4_fewestToShut {D : va_G} {cI cL : ClassId} {b : Nat} {Z : State → Heap → Prop}  (n : Nat) (a1 : Int32) (a2 : Int32) (a3 : Int32) (μ : z_M) : z_S (zEc D cI cL b Z) 5 yX4_fewestToShut cX4_fewestToShut 8 (some .int) z_ei [.ref (b + 42), .int a1, .int a2, .int a3] μ ((f_X4_fewestToShut n a1 a2 a3 μ)) :=
  z_entry (yn := yX4_fewestToShut) (by decide) (Nat.le_of_ble_eq_true rfl) rfl (w_X4_fewestToShut_0 n a1 a2 a3 μ)

def f_X4_wordsInReach_h15 : Nat → Int32 → Int32 → Int32 → Int32 → Int32 → z_M → Option (Int32 × z_M)
  | 0, _, _, _, _, _, _ => none
  | n + 1, l1, l2, l3, l4, l5, μ =>
    if l4 = 0 then (some (l3, μ)) else (if l5 < 1000000 then (z_bind (f_X7_heardBy n l1 μ) (fun p2 => z_let ((l3 ||| p2.1) : Int32) (fun x3 => z_bind (f_X7_becomeNext n l2 p2.2) (fun p4 => f_X4_wordsInReach_h15 n l1 l2 x3 p4.1 (l5 + 1) p4.2)))) else (some (l3, μ)))
def f_X4_wordsInReach (n : Nat) (a1 : Int32) (a2 : Int32) (μ : z_M) : Option (Int32 × z_M) :=
  z_bind (f_X7_begin n μ) (fun p1 => f_X4_wordsInReach_h15 n a1 a2 0 1 0 p1.2)
set_option maxRecDepth 20000 in
theorem w_X4_wordsInReach_15 {D : va_G} {cI cL : ClassId} {b : Nat} {Z : State → Heap → Prop}  : ∀ (n : Nat) (l1 : Int32) (l2 : Int32) (l3 : Int32) (l4 : Int32) (l5 : Int32) (μ : z_M), z_w (zEc D cI cL b Z) (RX4, cX4_wordsInReach, 6, (some .int), 5) z_ei 15 [(0, .ref (b + 42)), (1, .int l1), (2, .int l2), (3, .int l3), (4, .int l4), (5, .int l5)] [] μ (f_X4_wordsInReach_h15 n l1 l2 l3 l4 l5 μ) := by
  intro n
  induction n with
  | zero =>
    intro l1 l2 l3 l4 l5 μ
    exact z_none
  | succ n ih =>
    intro l1 l2 l3 l4 l5 μ
    unfold f_X4_wordsInReach_h15
    refine z_iload (pc := 15) dX4_wordsInReach_15 rfl ?_
    refine z_if_eq (pc := 17) (tgt := 54) dX4_wordsInReach_17 (by decide) (fun _ => ?_) (fun _ => ?_)
    · refine z_iload_n (pc := 54) dX4_wordsInReach_54 rfl ?_
      exact z_iret (pc := 55) rfl dX4_wordsInReach_55
    · refine z_iload (pc := 20) dX4_wordsInReach_20 rfl ?_
      refine z_ldc (pc := 22) dX4_wordsInReach_22 zc_X4_76 ?_
      refine z_icmp_ge (pc := 24) (tgt := 54) dX4_wordsInReach_24 (by decide) (fun _ => ?_) (fun _ => ?_)
      · refine z_iload_n (pc := 27) dX4_wordsInReach_27 rfl ?_
        refine z_aload_n (pc := 28) dX4_wordsInReach_28 rfl ?_
        refine zgR_X4_15 (pc := 29) gc_42 rfl dX4_wordsInReach_29 ?_
        refine z_iload_n (pc := 32) dX4_wordsInReach_32 rfl ?_
        refine z_bindP (fun p2 hp2 => ?_)
        refine z_callVi (pc := 33) (As := [.int l1]) (S := [.int l3]) (c_X7_heardBy n l1 μ) hp2 zw_X7_heardBy zv_X7_heardBy zm_X4_61 (n := 1) (by decide) rfl (z_recv gc_31 (T := TX7) (N := 8) rfl) rfl (Nat.le_of_ble_eq_true rfl) (by decide) (by decide) dX4_wordsInReach_33 ?_
        refine z_ior (pc := 36) dX4_wordsInReach_36 ?_
        refine z_letIO (fun x3 => ?_)
        refine z_istore_n (pc := 37) (L' := [(0, .ref (b + 42)), (1, .int l1), (2, .int l2), (3, .int x3), (4, .int l4), (5, .int l5)]) dX4_wordsInReach_37 (by decide) rfl ?_
        refine z_aload_n (pc := 38) dX4_wordsInReach_38 rfl ?_
        refine zgR_X4_15 (pc := 39) gc_42 rfl dX4_wordsInReach_39 ?_
        refine z_iload_n (pc := 42) dX4_wordsInReach_42 rfl ?_
        refine z_bindP (fun p4 hp4 => ?_)
        refine z_callVi (pc := 43) (As := [.int l2]) (S := []) (c_X7_becomeNext n l2 p2.2) hp4 zw_X7_becomeNext zv_X7_becomeNext zm_X4_94 (n := 1) (by decide) rfl (z_recv gc_31 (T := TX7) (N := 8) rfl) rfl (Nat.le_of_ble_eq_true rfl) (by decide) (by decide) dX4_wordsInReach_43 ?_
        refine z_istore (pc := 46) (L' := [(0, .ref (b + 42)), (1, .int l1), (2, .int l2), (3, .int x3), (4, .int p4.1), (5, .int l5)]) dX4_wordsInReach_46 (by decide) rfl ?_
        refine z_iinc (pc := 48) (v := (l5 + 1)) (L' := [(0, .ref (b + 42)), (1, .int l1), (2, .int l2), (3, .int x3), (4, .int p4.1), (5, .int (l5 + 1))]) dX4_wordsInReach_48 rfl (by decide) rfl rfl ?_
        refine z_goto (pc := 51) (tgt := 15) dX4_wordsInReach_51 (by decide) ?_
        exact ih l1 l2 x3 p4.1 (l5 + 1) p4.2
      · refine z_iload_n (pc := 54) dX4_wordsInReach_54 rfl ?_
        exact z_iret (pc := 55) rfl dX4_wordsInReach_55

set_option maxRecDepth 20000 in
theorem w_X4_wordsInReach_0 {D : va_G} {cI cL : ClassId} {b : Nat} {Z : State → Heap → Prop}  (n : Nat) (a1 : Int32) (a2 : Int32) (μ : z_M) : z_w (zEc D cI cL b Z) (RX4, cX4_wordsInReach, 6, (some .int), 5) z_ei 0 [(0, .ref (b + 42)), (1, .int a1), (2, .int a2)] [] μ ((f_X4_wordsInReach n a1 a2 μ)) := by
  unfold f_X4_wordsInReach
  refine z_iconst (pc := 0) dX4_wordsInReach_0 zci_0 ?_
  refine z_istore_n (pc := 1) (L' := [(0, .ref (b + 42)), (1, .int a1), (2, .int a2), (3, .int 0)]) dX4_wordsInReach_1 (by decide) rfl ?_
  refine z_aload_n (pc := 2) dX4_wordsInReach_2 rfl ?_
  refine zgR_X4_15 (pc := 3) gc_42 rfl dX4_wordsInReach_3 ?_
  refine z_bindP (fun p1 hp1 => ?_)
  refine z_callVv (pc := 6) (As := []) (S := []) (c_X7_begin n μ) hp1 zw_X7_begin zv_X7_begin zm_X4_73 (n := 0) (by decide) rfl (z_recv gc_31 (T := TX7) (N := 8) rfl) rfl (Nat.le_of_ble_eq_true rfl) (by decide) (by decide) dX4_wordsInReach_6 ?_
  refine z_iconst (pc := 9) dX4_wordsInReach_9 zci_1 ?_
  refine z_istore (pc := 10) (L' := [(0, .ref (b + 42)), (1, .int a1), (2, .int a2), (3, .int 0), (4, .int 1)]) dX4_wordsInReach_10 (by decide) rfl ?_
  refine z_iconst (pc := 12) dX4_wordsInReach_12 zci_0 ?_
  refine z_istore (pc := 13) (L' := [(0, .ref (b + 42)), (1, .int a1), (2, .int a2), (3, .int 0), (4, .int 1), (5, .int 0)]) dX4_wordsInReach_13 (by decide) rfl ?_
  exact w_X4_wordsInReach_15 n a1 a2 0 1 0 p1.2

set_option maxRecDepth 20000 in
theorem c_X4_wordsInReach {D : va_G} {cI cL : ClassId} {b : Nat} {Z : State → Heap → Prop}  (n : Nat) (a1 : Int32) (a2 : Int32) (μ : z_M) : z_S (zEc D cI cL b Z) 5 yX4_wordsInReach cX4_wordsInReach 6 (some .int) z_ei [.ref (b + 42), .int a1, .int a2] μ ((f_X4_wordsInReach n a1 a2 μ)) :=
  z_entry (yn := yX4_wordsInReach) (by decide) (Nat.le_of_ble_eq_true rfl) rfl (w_X4_wordsInReach_0 n a1 a2 μ)

def f_X4_fewestVisits_b76 (n : Nat) (l3 : Int32) (l4 : Int32) (μ : z_M) : Option (Int32 × z_M) :=
  if l3 < l4 then (some ((-1), μ)) else (some (l4, μ))
def f_X4_fewestVisits_b60 (r18 : Int32 → Int32 → Int32 → Int32 → Int32 → Int32 → z_M → Option (Int32 × z_M)) (n : Nat) (l1 : Int32) (l2 : Int32) (l3 : Int32) (l4 : Int32) (l6 : Int32) (μ : z_M) : Option (Int32 × z_M) :=
  z_bind (f_X7_becomeNext n l3 μ) (fun p4 => r18 l1 l2 l3 l4 p4.1 (l6 + 1) p4.2)
def f_X4_fewestVisits_h18 : Nat → Int32 → Int32 → Int32 → Int32 → Int32 → Int32 → z_M → Option (Int32 × z_M)
  | 0, _, _, _, _, _, _, _ => none
  | n + 1, l1, l2, l3, l4, l5, l6, μ =>
    if l5 = 0 then (f_X4_fewestVisits_b76 n l3 l4 μ) else (if l6 < 1000000 then (if (f_X7_visitsMade μ) < l4 then (z_bind (f_X4_hearsAll n l1 l2 μ) (fun p3 => if p3.1 = 0 then (f_X4_fewestVisits_b60 (f_X4_fewestVisits_h18 n) n l1 l2 l3 l4 l6 p3.2) else (z_let ((f_X7_visitsMade p3.2) : Int32) (fun x5 => f_X4_fewestVisits_b60 (f_X4_fewestVisits_h18 n) n l1 l2 l3 x5 l6 p3.2)))) else (f_X4_fewestVisits_b60 (f_X4_fewestVisits_h18 n) n l1 l2 l3 l4 l6 μ)) else (f_X4_fewestVisits_b76 n l3 l4 μ))
def f_X4_fewestVisits (n : Nat) (a1 : Int32) (a2 : Int32) (a3 : Int32) (μ : z_M) : Option (Int32 × z_M) :=
  z_let ((a3 + 1) : Int32) (fun x1 => z_bind (f_X7_begin n μ) (fun p2 => f_X4_fewestVisits_h18 n a1 a2 a3 x1 1 0 p2.2))
set_option maxRecDepth 20000 in
theorem w_X4_fewestVisits_76 {D : va_G} {cI cL : ClassId} {b : Nat} {Z : State → Heap → Prop}  (n : Nat) (l3 : Int32) (l4 : Int32) (μ : z_M) : z_w (zEc D cI cL b Z) (RX4, cX4_fewestVisits, 7, (some .int), 5) z_ei 76 [(3, .int l3), (4, .int l4)] [] μ ((f_X4_fewestVisits_b76 n l3 l4 μ)) := by
  unfold f_X4_fewestVisits_b76
  refine z_iload (pc := 76) dX4_fewestVisits_76 rfl ?_
  refine z_iload_n (pc := 78) dX4_fewestVisits_78 rfl ?_
  refine z_icmp_gt (pc := 79) (tgt := 87) dX4_fewestVisits_79 (by decide) (fun _ => ?_) (fun _ => ?_)
  · refine z_iconst (pc := 87) dX4_fewestVisits_87 zci_m1 ?_
    exact z_iret (pc := 88) rfl dX4_fewestVisits_88
  · refine z_iload (pc := 82) dX4_fewestVisits_82 rfl ?_
    refine z_goto (pc := 84) (tgt := 88) dX4_fewestVisits_84 (by decide) ?_
    exact z_iret (pc := 88) rfl dX4_fewestVisits_88

set_option maxRecDepth 20000 in
theorem w_X4_fewestVisits_60 {D : va_G} {cI cL : ClassId} {b : Nat} {Z : State → Heap → Prop}  (r18 : Int32 → Int32 → Int32 → Int32 → Int32 → Int32 → z_M → Option (Int32 × z_M)) (hr18 : ∀ (l1 : Int32) (l2 : Int32) (l3 : Int32) (l4 : Int32) (l5 : Int32) (l6 : Int32) (μ : z_M), z_w (zEc D cI cL b Z) (RX4, cX4_fewestVisits, 7, (some .int), 5) z_ei 18 [(0, .ref (b + 42)), (1, .int l1), (2, .int l2), (3, .int l3), (4, .int l4), (5, .int l5), (6, .int l6)] [] μ ((r18 l1 l2 l3 l4 l5 l6 μ))) (n : Nat) (l1 : Int32) (l2 : Int32) (l3 : Int32) (l4 : Int32) (l6 : Int32) (μ : z_M) : z_w (zEc D cI cL b Z) (RX4, cX4_fewestVisits, 7, (some .int), 5) z_ei 60 [(0, .ref (b + 42)), (1, .int l1), (2, .int l2), (3, .int l3), (4, .int l4), (6, .int l6)] [] μ ((f_X4_fewestVisits_b60 r18 n l1 l2 l3 l4 l6 μ)) := by
  unfold f_X4_fewestVisits_b60
  refine z_aload_n (pc := 60) dX4_fewestVisits_60 rfl ?_
  refine zgR_X4_15 (pc := 61) gc_42 rfl dX4_fewestVisits_61 ?_
  refine z_iload_n (pc := 64) dX4_fewestVisits_64 rfl ?_
  refine z_bindP (fun p4 hp4 => ?_)
  refine z_callVi (pc := 65) (As := [.int l3]) (S := []) (c_X7_becomeNext n l3 μ) hp4 zw_X7_becomeNext zv_X7_becomeNext zm_X4_94 (n := 1) (by decide) rfl (z_recv gc_31 (T := TX7) (N := 8) rfl) rfl (Nat.le_of_ble_eq_true rfl) (by decide) (by decide) dX4_fewestVisits_65 ?_
  refine z_istore (pc := 68) (L' := [(0, .ref (b + 42)), (1, .int l1), (2, .int l2), (3, .int l3), (4, .int l4), (5, .int p4.1), (6, .int l6)]) dX4_fewestVisits_68 (by decide) rfl ?_
  refine z_iinc (pc := 70) (v := (l6 + 1)) (L' := [(0, .ref (b + 42)), (1, .int l1), (2, .int l2), (3, .int l3), (4, .int l4), (5, .int p4.1), (6, .int (l6 + 1))]) dX4_fewestVisits_70 rfl (by decide) rfl rfl ?_
  refine z_goto (pc := 73) (tgt := 18) dX4_fewestVisits_73 (by decide) ?_
  exact hr18 l1 l2 l3 l4 p4.1 (l6 + 1) p4.2

set_option maxRecDepth 20000 in
theorem w_X4_fewestVisits_18 {D : va_G} {cI cL : ClassId} {b : Nat} {Z : State → Heap → Prop}  : ∀ (n : Nat) (l1 : Int32) (l2 : Int32) (l3 : Int32) (l4 : Int32) (l5 : Int32) (l6 : Int32) (μ : z_M), z_w (zEc D cI cL b Z) (RX4, cX4_fewestVisits, 7, (some .int), 5) z_ei 18 [(0, .ref (b + 42)), (1, .int l1), (2, .int l2), (3, .int l3), (4, .int l4), (5, .int l5), (6, .int l6)] [] μ (f_X4_fewestVisits_h18 n l1 l2 l3 l4 l5 l6 μ) := by
  intro n
  induction n with
  | zero =>
    intro l1 l2 l3 l4 l5 l6 μ
    exact z_none
  | succ n ih =>
    intro l1 l2 l3 l4 l5 l6 μ
    unfold f_X4_fewestVisits_h18
    refine z_iload (pc := 18) dX4_fewestVisits_18 rfl ?_
    refine z_if_eq (pc := 20) (tgt := 76) dX4_fewestVisits_20 (by decide) (fun _ => ?_) (fun _ => ?_)
    · refine z_drop (L' := [(3, .int l3), (4, .int l4)]) [3, 4] rfl ?_
      exact w_X4_fewestVisits_76 n l3 l4 μ
    · refine z_iload (pc := 23) dX4_fewestVisits_23 rfl ?_
      refine z_ldc (pc := 25) dX4_fewestVisits_25 zc_X4_76 ?_
      refine z_icmp_ge (pc := 27) (tgt := 76) dX4_fewestVisits_27 (by decide) (fun _ => ?_) (fun _ => ?_)
      · refine z_aload_n (pc := 30) dX4_fewestVisits_30 rfl ?_
        refine zgR_X4_15 (pc := 31) gc_42 rfl dX4_fewestVisits_31 ?_
        refine z_callVi (pc := 34) (As := []) (S := []) (c_X7_visitsMade μ) rfl zw_X7_visitsMade zv_X7_visitsMade zm_X4_48 (n := 0) (by decide) rfl (z_recv gc_31 (T := TX7) (N := 8) rfl) rfl (Nat.le_of_ble_eq_true rfl) (by decide) (by decide) dX4_fewestVisits_34 ?_
        refine z_iload (pc := 37) dX4_fewestVisits_37 rfl ?_
        refine z_icmp_ge (pc := 39) (tgt := 60) dX4_fewestVisits_39 (by decide) (fun _ => ?_) (fun _ => ?_)
        · refine z_aload_n (pc := 42) dX4_fewestVisits_42 rfl ?_
          refine z_iload_n (pc := 43) dX4_fewestVisits_43 rfl ?_
          refine z_iload_n (pc := 44) dX4_fewestVisits_44 rfl ?_
          refine z_bindP (fun p3 hp3 => ?_)
          refine z_callVi (pc := 45) (As := [.int l1, .int l2]) (S := []) (c_X4_hearsAll n l1 l2 μ) hp3 zw_X4_hearsAll zv_X4_hearsAll zm_X4_66 (n := 2) (by decide) rfl (z_recv gc_42 (T := TX4) (N := 7) rfl) rfl (Nat.le_of_ble_eq_true rfl) (by decide) (by decide) dX4_fewestVisits_45 ?_
          refine z_if_eq (pc := 48) (tgt := 60) dX4_fewestVisits_48 (by decide) (fun _ => ?_) (fun _ => ?_)
          · refine z_drop (L' := [(0, .ref (b + 42)), (1, .int l1), (2, .int l2), (3, .int l3), (4, .int l4), (6, .int l6)]) [0, 1, 2, 3, 4, 6] rfl ?_
            exact w_X4_fewestVisits_60 _ ih n l1 l2 l3 l4 l6 p3.2
          · refine z_aload_n (pc := 51) dX4_fewestVisits_51 rfl ?_
            refine zgR_X4_15 (pc := 52) gc_42 rfl dX4_fewestVisits_52 ?_
            refine z_callVi (pc := 55) (As := []) (S := []) (c_X7_visitsMade p3.2) rfl zw_X7_visitsMade zv_X7_visitsMade zm_X4_48 (n := 0) (by decide) rfl (z_recv gc_31 (T := TX7) (N := 8) rfl) rfl (Nat.le_of_ble_eq_true rfl) (by decide) (by decide) dX4_fewestVisits_55 ?_
            refine z_letIO (fun x5 => ?_)
            refine z_istore (pc := 58) (L' := [(0, .ref (b + 42)), (1, .int l1), (2, .int l2), (3, .int l3), (4, .int x5), (5, .int l5), (6, .int l6)]) dX4_fewestVisits_58 (by decide) rfl ?_
            refine z_drop (L' := [(0, .ref (b + 42)), (1, .int l1), (2, .int l2), (3, .int l3), (4, .int x5), (6, .int l6)]) [0, 1, 2, 3, 4, 6] rfl ?_
            exact w_X4_fewestVisits_60 _ ih n l1 l2 l3 x5 l6 p3.2
        · refine z_drop (L' := [(0, .ref (b + 42)), (1, .int l1), (2, .int l2), (3, .int l3), (4, .int l4), (6, .int l6)]) [0, 1, 2, 3, 4, 6] rfl ?_
          exact w_X4_fewestVisits_60 _ ih n l1 l2 l3 l4 l6 μ
      · refine z_drop (L' := [(3, .int l3), (4, .int l4)]) [3, 4] rfl ?_
        exact w_X4_fewestVisits_76 n l3 l4 μ

set_option maxRecDepth 20000 in
theorem w_X4_fewestVisits_0 {D : va_G} {cI cL : ClassId} {b : Nat} {Z : State → Heap → Prop}  (n : Nat) (a1 : Int32) (a2 : Int32) (a3 : Int32) (μ : z_M) : z_w (zEc D cI cL b Z) (RX4, cX4_fewestVisits, 7, (some .int), 5) z_ei 0 [(0, .ref (b + 42)), (1, .int a1), (2, .int a2), (3, .int a3)] [] μ ((f_X4_fewestVisits n a1 a2 a3 μ)) := by
  unfold f_X4_fewestVisits
  refine z_iload_n (pc := 0) dX4_fewestVisits_0 rfl ?_
  refine z_iconst (pc := 1) dX4_fewestVisits_1 zci_1 ?_
  refine z_iadd (pc := 2) dX4_fewestVisits_2 ?_
  refine z_letIO (fun x1 => ?_)
  refine z_istore (pc := 3) (L' := [(0, .ref (b + 42)), (1, .int a1), (2, .int a2), (3, .int a3), (4, .int x1)]) dX4_fewestVisits_3 (by decide) rfl ?_
  refine z_aload_n (pc := 5) dX4_fewestVisits_5 rfl ?_
  refine zgR_X4_15 (pc := 6) gc_42 rfl dX4_fewestVisits_6 ?_
  refine z_bindP (fun p2 hp2 => ?_)
  refine z_callVv (pc := 9) (As := []) (S := []) (c_X7_begin n μ) hp2 zw_X7_begin zv_X7_begin zm_X4_73 (n := 0) (by decide) rfl (z_recv gc_31 (T := TX7) (N := 8) rfl) rfl (Nat.le_of_ble_eq_true rfl) (by decide) (by decide) dX4_fewestVisits_9 ?_
  refine z_iconst (pc := 12) dX4_fewestVisits_12 zci_1 ?_
  refine z_istore (pc := 13) (L' := [(0, .ref (b + 42)), (1, .int a1), (2, .int a2), (3, .int a3), (4, .int x1), (5, .int 1)]) dX4_fewestVisits_13 (by decide) rfl ?_
  refine z_iconst (pc := 15) dX4_fewestVisits_15 zci_0 ?_
  refine z_istore (pc := 16) (L' := [(0, .ref (b + 42)), (1, .int a1), (2, .int a2), (3, .int a3), (4, .int x1), (5, .int 1), (6, .int 0)]) dX4_fewestVisits_16 (by decide) rfl ?_
  exact w_X4_fewestVisits_18 n a1 a2 a3 x1 1 0 p2.2

set_option maxRecDepth 20000 in
theorem c_X4_fewestVisits {D : va_G} {cI cL : ClassId} {b : Nat} {Z : State → Heap → Prop}  (n : Nat) (a1 : Int32) (a2 : Int32) (a3 : Int32) (μ : z_M) : z_S (zEc D cI cL b Z) 5 yX4_fewestVisits cX4_fewestVisits 7 (some .int) z_ei [.ref (b + 42), .int a1, .int a2, .int a3] μ ((f_X4_fewestVisits n a1 a2 a3 μ)) :=
  z_entry (yn := yX4_fewestVisits) (by decide) (Nat.le_of_ble_eq_true rfl) rfl (w_X4_fewestVisits_0 n a1 a2 a3 μ)

def f_X4_oddsToHear_b87 (r16 : Int32 → Int32 → Int32 → Int64 → Int32 → Int32 → z_M → Option (Int64 × z_M)) (n : Nat) (l1 : Int32) (l2 : Int32) (l3 : Int32) (l4 : Int64) (l7 : Int32) (μ : z_M) : Option (Int64 × z_M) :=
  z_bind (f_X7_becomeNext n l3 μ) (fun p2 => r16 l1 l2 l3 l4 p2.1 (l7 + 1) p2.2)
def f_X4_oddsToHear_b61 (r16 : Int32 → Int32 → Int32 → Int64 → Int32 → Int32 → z_M → Option (Int64 × z_M)) (n : Nat) (l1 : Int32) (l2 : Int32) (l3 : Int32) (l4 : Int64) (l7 : Int32) (s0 : Int32) (μ : z_M) : Option (Int64 × z_M) :=
  if s0 = 0 then (f_X4_oddsToHear_b87 r16 n l1 l2 l3 l4 l7 μ) else (z_bind (f_X4_hearsAll n l1 l2 μ) (fun p3 => if p3.1 = 0 then (f_X4_oddsToHear_b87 r16 n l1 l2 l3 l4 l7 p3.2) else (z_bind (f_X4_oddsOfWalk n l3 p3.2) (fun p4 => z_let ((l4 + p4.1) : Int64) (fun x5 => f_X4_oddsToHear_b87 r16 n l1 l2 l3 x5 l7 p4.2)))))
def f_X4_oddsToHear_b56 (r16 : Int32 → Int32 → Int32 → Int64 → Int32 → Int32 → z_M → Option (Int64 × z_M)) (n : Nat) (l1 : Int32) (l2 : Int32) (l3 : Int32) (l4 : Int64) (l7 : Int32) (μ : z_M) : Option (Int64 × z_M) :=
  f_X4_oddsToHear_b61 r16 n l1 l2 l3 l4 l7 1 μ
def f_X4_oddsToHear_h16 : Nat → Int32 → Int32 → Int32 → Int64 → Int32 → Int32 → z_M → Option (Int64 × z_M)
  | 0, _, _, _, _, _, _, _ => none
  | n + 1, l1, l2, l3, l4, l6, l7, μ =>
    if l6 = 0 then (some (l4, μ)) else (if l7 < 1000000 then (if (f_X7_visitsMade μ) = l3 then (f_X4_oddsToHear_b56 (f_X4_oddsToHear_h16 n) n l1 l2 l3 l4 l7 μ) else (z_bind (f_X6_openWaysAt 1 n (f_X7_place μ) μ) (fun p6 => if p6.1 = 0 then (f_X4_oddsToHear_b56 (f_X4_oddsToHear_h16 n) n l1 l2 l3 l4 l7 p6.2) else (f_X4_oddsToHear_b61 (f_X4_oddsToHear_h16 n) n l1 l2 l3 l4 l7 0 p6.2)))) else (some (l4, μ)))
def f_X4_oddsToHear (n : Nat) (a1 : Int32) (a2 : Int32) (a3 : Int32) (μ : z_M) : Option (Int64 × z_M) :=
  z_bind (f_X7_begin n μ) (fun p1 => f_X4_oddsToHear_h16 n a1 a2 a3 0 1 0 p1.2)
set_option maxRecDepth 20000 in
theorem w_X4_oddsToHear_87 {D : va_G} {cI cL : ClassId} {b : Nat} {Z : State → Heap → Prop}  (r16 : Int32 → Int32 → Int32 → Int64 → Int32 → Int32 → z_M → Option (Int64 × z_M)) (hr16 : ∀ (l1 : Int32) (l2 : Int32) (l3 : Int32) (l4 : Int64) (l6 : Int32) (l7 : Int32) (μ : z_M), z_w (zEc D cI cL b Z) (RX4, cX4_oddsToHear, 9, (some .long), 5) z_el 16 [(0, .ref (b + 42)), (1, .int l1), (2, .int l2), (3, .int l3), (4, .long l4), (6, .int l6), (7, .int l7)] [] μ ((r16 l1 l2 l3 l4 l6 l7 μ))) (n : Nat) (l1 : Int32) (l2 : Int32) (l3 : Int32) (l4 : Int64) (l7 : Int32) (μ : z_M) : z_w (zEc D cI cL b Z) (RX4, cX4_oddsToHear, 9, (some .long), 5) z_el 87 [(0, .ref (b + 42)), (1, .int l1), (2, .int l2), (3, .int l3), (4, .long l4), (7, .int l7)] [] μ ((f_X4_oddsToHear_b87 r16 n l1 l2 l3 l4 l7 μ)) := by
  unfold f_X4_oddsToHear_b87
  refine z_aload_n (pc := 87) dX4_oddsToHear_87 rfl ?_
  refine zgR_X4_15 (pc := 88) gc_42 rfl dX4_oddsToHear_88 ?_
  refine z_iload_n (pc := 91) dX4_oddsToHear_91 rfl ?_
  refine z_bindP (fun p2 hp2 => ?_)
  refine z_callVi (pc := 92) (As := [.int l3]) (S := []) (c_X7_becomeNext n l3 μ) hp2 zw_X7_becomeNext zv_X7_becomeNext zm_X4_94 (n := 1) (by decide) rfl (z_recv gc_31 (T := TX7) (N := 8) rfl) rfl (Nat.le_of_ble_eq_true rfl) (by decide) (by decide) dX4_oddsToHear_92 ?_
  refine z_istore (pc := 95) (L' := [(0, .ref (b + 42)), (1, .int l1), (2, .int l2), (3, .int l3), (4, .long l4), (6, .int p2.1), (7, .int l7)]) dX4_oddsToHear_95 (by decide) rfl ?_
  refine z_iinc (pc := 97) (v := (l7 + 1)) (L' := [(0, .ref (b + 42)), (1, .int l1), (2, .int l2), (3, .int l3), (4, .long l4), (6, .int p2.1), (7, .int (l7 + 1))]) dX4_oddsToHear_97 rfl (by decide) rfl rfl ?_
  refine z_goto (pc := 100) (tgt := 16) dX4_oddsToHear_100 (by decide) ?_
  exact hr16 l1 l2 l3 l4 p2.1 (l7 + 1) p2.2

set_option maxRecDepth 20000 in
theorem w_X4_oddsToHear_61 {D : va_G} {cI cL : ClassId} {b : Nat} {Z : State → Heap → Prop}  (r16 : Int32 → Int32 → Int32 → Int64 → Int32 → Int32 → z_M → Option (Int64 × z_M)) (hr16 : ∀ (l1 : Int32) (l2 : Int32) (l3 : Int32) (l4 : Int64) (l6 : Int32) (l7 : Int32) (μ : z_M), z_w (zEc D cI cL b Z) (RX4, cX4_oddsToHear, 9, (some .long), 5) z_el 16 [(0, .ref (b + 42)), (1, .int l1), (2, .int l2), (3, .int l3), (4, .long l4), (6, .int l6), (7, .int l7)] [] μ ((r16 l1 l2 l3 l4 l6 l7 μ))) (n : Nat) (l1 : Int32) (l2 : Int32) (l3 : Int32) (l4 : Int64) (l7 : Int32) (s0 : Int32) (μ : z_M) : z_w (zEc D cI cL b Z) (RX4, cX4_oddsToHear, 9, (some .long), 5) z_el 61 [(0, .ref (b + 42)), (1, .int l1), (2, .int l2), (3, .int l3), (4, .long l4), (7, .int l7)] [.int s0] μ ((f_X4_oddsToHear_b61 r16 n l1 l2 l3 l4 l7 s0 μ)) := by
  unfold f_X4_oddsToHear_b61
  refine z_istore (pc := 61) (L' := [(0, .ref (b + 42)), (1, .int l1), (2, .int l2), (3, .int l3), (4, .long l4), (7, .int l7), (8, .int s0)]) dX4_oddsToHear_61 (by decide) rfl ?_
  refine z_iload (pc := 63) dX4_oddsToHear_63 rfl ?_
  refine z_if_eq (pc := 65) (tgt := 87) dX4_oddsToHear_65 (by decide) (fun _ => ?_) (fun _ => ?_)
  · refine z_drop (L' := [(0, .ref (b + 42)), (1, .int l1), (2, .int l2), (3, .int l3), (4, .long l4), (7, .int l7)]) [0, 1, 2, 3, 4, 5] rfl ?_
    exact w_X4_oddsToHear_87 _ hr16 n l1 l2 l3 l4 l7 μ
  · refine z_aload_n (pc := 68) dX4_oddsToHear_68 rfl ?_
    refine z_iload_n (pc := 69) dX4_oddsToHear_69 rfl ?_
    refine z_iload_n (pc := 70) dX4_oddsToHear_70 rfl ?_
    refine z_bindP (fun p3 hp3 => ?_)
    refine z_callVi (pc := 71) (As := [.int l1, .int l2]) (S := []) (c_X4_hearsAll n l1 l2 μ) hp3 zw_X4_hearsAll zv_X4_hearsAll zm_X4_66 (n := 2) (by decide) rfl (z_recv gc_42 (T := TX4) (N := 7) rfl) rfl (Nat.le_of_ble_eq_true rfl) (by decide) (by decide) dX4_oddsToHear_71 ?_
    refine z_if_eq (pc := 74) (tgt := 87) dX4_oddsToHear_74 (by decide) (fun _ => ?_) (fun _ => ?_)
    · refine z_drop (L' := [(0, .ref (b + 42)), (1, .int l1), (2, .int l2), (3, .int l3), (4, .long l4), (7, .int l7)]) [0, 1, 2, 3, 4, 5] rfl ?_
      exact w_X4_oddsToHear_87 _ hr16 n l1 l2 l3 l4 l7 p3.2
    · refine z_lload (pc := 77) dX4_oddsToHear_77 rfl ?_
      refine z_aload_n (pc := 79) dX4_oddsToHear_79 rfl ?_
      refine z_iload_n (pc := 80) dX4_oddsToHear_80 rfl ?_
      refine z_bindP (fun p4 hp4 => ?_)
      refine z_callVl (pc := 81) (As := [.int l3]) (S := [.long l4]) (c_X4_oddsOfWalk n l3 p3.2) hp4 zw_X4_oddsOfWalk zv_X4_oddsOfWalk zm_X4_114 (n := 1) (by decide) rfl (z_recv gc_42 (T := TX4) (N := 7) rfl) rfl (Nat.le_of_ble_eq_true rfl) (by decide) (by decide) dX4_oddsToHear_81 ?_
      refine z_ladd (pc := 84) dX4_oddsToHear_84 ?_
      refine z_letJO (fun x5 => ?_)
      refine z_lstore (pc := 85) (L' := [(0, .ref (b + 42)), (1, .int l1), (2, .int l2), (3, .int l3), (4, .long x5), (7, .int l7), (8, .int s0)]) dX4_oddsToHear_85 (by decide) rfl ?_
      refine z_drop (L' := [(0, .ref (b + 42)), (1, .int l1), (2, .int l2), (3, .int l3), (4, .long x5), (7, .int l7)]) [0, 1, 2, 3, 4, 5] rfl ?_
      exact w_X4_oddsToHear_87 _ hr16 n l1 l2 l3 x5 l7 p4.2

set_option maxRecDepth 20000 in
theorem w_X4_oddsToHear_56 {D : va_G} {cI cL : ClassId} {b : Nat} {Z : State → Heap → Prop}  (r16 : Int32 → Int32 → Int32 → Int64 → Int32 → Int32 → z_M → Option (Int64 × z_M)) (hr16 : ∀ (l1 : Int32) (l2 : Int32) (l3 : Int32) (l4 : Int64) (l6 : Int32) (l7 : Int32) (μ : z_M), z_w (zEc D cI cL b Z) (RX4, cX4_oddsToHear, 9, (some .long), 5) z_el 16 [(0, .ref (b + 42)), (1, .int l1), (2, .int l2), (3, .int l3), (4, .long l4), (6, .int l6), (7, .int l7)] [] μ ((r16 l1 l2 l3 l4 l6 l7 μ))) (n : Nat) (l1 : Int32) (l2 : Int32) (l3 : Int32) (l4 : Int64) (l7 : Int32) (μ : z_M) : z_w (zEc D cI cL b Z) (RX4, cX4_oddsToHear, 9, (some .long), 5) z_el 56 [(0, .ref (b + 42)), (1, .int l1), (2, .int l2), (3, .int l3), (4, .long l4), (7, .int l7)] [] μ ((f_X4_oddsToHear_b56 r16 n l1 l2 l3 l4 l7 μ)) := by
  unfold f_X4_oddsToHear_b56
  refine z_iconst (pc := 56) dX4_oddsToHear_56 zci_1 ?_
  refine z_goto (pc := 57) (tgt := 61) dX4_oddsToHear_57 (by decide) ?_
  exact w_X4_oddsToHear_61 _ hr16 n l1 l2 l3 l4 l7 1 μ

set_option maxRecDepth 20000 in
theorem w_X4_oddsToHear_16 {D : va_G} {cI cL : ClassId} {b : Nat} {Z : State → Heap → Prop}  : ∀ (n : Nat) (l1 : Int32) (l2 : Int32) (l3 : Int32) (l4 : Int64) (l6 : Int32) (l7 : Int32) (μ : z_M), z_w (zEc D cI cL b Z) (RX4, cX4_oddsToHear, 9, (some .long), 5) z_el 16 [(0, .ref (b + 42)), (1, .int l1), (2, .int l2), (3, .int l3), (4, .long l4), (6, .int l6), (7, .int l7)] [] μ (f_X4_oddsToHear_h16 n l1 l2 l3 l4 l6 l7 μ) := by
  intro n
  induction n with
  | zero =>
    intro l1 l2 l3 l4 l6 l7 μ
    exact z_none
  | succ n ih =>
    intro l1 l2 l3 l4 l6 l7 μ
    unfold f_X4_oddsToHear_h16
    refine z_iload (pc := 16) dX4_oddsToHear_16 rfl ?_
    refine z_if_eq (pc := 18) (tgt := 103) dX4_oddsToHear_18 (by decide) (fun _ => ?_) (fun _ => ?_)
    · refine z_lload (pc := 103) dX4_oddsToHear_103 rfl ?_
      exact z_lret (pc := 105) rfl dX4_oddsToHear_105
    · refine z_iload (pc := 21) dX4_oddsToHear_21 rfl ?_
      refine z_ldc (pc := 23) dX4_oddsToHear_23 zc_X4_76 ?_
      refine z_icmp_ge (pc := 25) (tgt := 103) dX4_oddsToHear_25 (by decide) (fun _ => ?_) (fun _ => ?_)
      · refine z_aload_n (pc := 28) dX4_oddsToHear_28 rfl ?_
        refine zgR_X4_15 (pc := 29) gc_42 rfl dX4_oddsToHear_29 ?_
        refine z_callVi (pc := 32) (As := []) (S := []) (c_X7_visitsMade μ) rfl zw_X7_visitsMade zv_X7_visitsMade zm_X4_48 (n := 0) (by decide) rfl (z_recv gc_31 (T := TX7) (N := 8) rfl) rfl (Nat.le_of_ble_eq_true rfl) (by decide) (by decide) dX4_oddsToHear_32 ?_
        refine z_iload_n (pc := 35) dX4_oddsToHear_35 rfl ?_
        refine z_icmp_eq (pc := 36) (tgt := 56) dX4_oddsToHear_36 (by decide) (fun _ => ?_) (fun _ => ?_)
        · refine z_drop (L' := [(0, .ref (b + 42)), (1, .int l1), (2, .int l2), (3, .int l3), (4, .long l4), (7, .int l7)]) [0, 1, 2, 3, 4, 6] rfl ?_
          exact w_X4_oddsToHear_56 _ ih n l1 l2 l3 l4 l7 μ
        · refine z_aload_n (pc := 39) dX4_oddsToHear_39 rfl ?_
          refine zgR_X4_9 (pc := 40) gc_42 rfl dX4_oddsToHear_40 ?_
          refine z_aload_n (pc := 43) dX4_oddsToHear_43 rfl ?_
          refine zgR_X4_15 (pc := 44) gc_42 rfl dX4_oddsToHear_44 ?_
          refine z_callVi (pc := 47) (As := []) (S := [.ref (b + 1)]) (c_X7_place μ) rfl zw_X7_place zv_X7_place zm_X4_77 (n := 0) (by decide) rfl (z_recv gc_31 (T := TX7) (N := 8) rfl) rfl (Nat.le_of_ble_eq_true rfl) (by decide) (by decide) dX4_oddsToHear_47 ?_
          refine z_bindP (fun p6 hp6 => ?_)
          refine z_callVi (pc := 50) (As := [.int (f_X7_place μ)]) (S := []) (c_X6_openWaysAt zstr_1 n (f_X7_place μ) μ) hp6 zw_X6_openWaysAt zv_X6_openWaysAt zm_X4_111 (n := 1) (by decide) rfl (z_recv gc_1 (T := TX6) (N := 10) rfl) rfl (Nat.le_of_ble_eq_true rfl) (by decide) (by decide) dX4_oddsToHear_50 ?_
          refine z_if_ne (pc := 53) (tgt := 60) dX4_oddsToHear_53 (by decide) (fun _ => ?_) (fun _ => ?_)
          · refine z_drop (L' := [(0, .ref (b + 42)), (1, .int l1), (2, .int l2), (3, .int l3), (4, .long l4), (7, .int l7)]) [0, 1, 2, 3, 4, 6] rfl ?_
            exact w_X4_oddsToHear_56 _ ih n l1 l2 l3 l4 l7 p6.2
          · refine z_iconst (pc := 60) dX4_oddsToHear_60 zci_0 ?_
            refine z_drop (L' := [(0, .ref (b + 42)), (1, .int l1), (2, .int l2), (3, .int l3), (4, .long l4), (7, .int l7)]) [0, 1, 2, 3, 4, 6] rfl ?_
            exact w_X4_oddsToHear_61 _ ih n l1 l2 l3 l4 l7 0 p6.2
      · refine z_lload (pc := 103) dX4_oddsToHear_103 rfl ?_
        exact z_lret (pc := 105) rfl dX4_oddsToHear_105

set_option maxRecDepth 20000 in
theorem w_X4_oddsToHear_0 {D : va_G} {cI cL : ClassId} {b : Nat} {Z : State → Heap → Prop}  (n : Nat) (a1 : Int32) (a2 : Int32) (a3 : Int32) (μ : z_M) : z_w (zEc D cI cL b Z) (RX4, cX4_oddsToHear, 9, (some .long), 5) z_el 0 [(0, .ref (b + 42)), (1, .int a1), (2, .int a2), (3, .int a3)] [] μ ((f_X4_oddsToHear n a1 a2 a3 μ)) := by
  unfold f_X4_oddsToHear
  refine z_lconst (pc := 0) dX4_oddsToHear_0 zcl_0 ?_
  refine z_lstore (pc := 1) (L' := [(0, .ref (b + 42)), (1, .int a1), (2, .int a2), (3, .int a3), (4, .long 0)]) dX4_oddsToHear_1 (by decide) rfl ?_
  refine z_aload_n (pc := 3) dX4_oddsToHear_3 rfl ?_
  refine zgR_X4_15 (pc := 4) gc_42 rfl dX4_oddsToHear_4 ?_
  refine z_bindP (fun p1 hp1 => ?_)
  refine z_callVv (pc := 7) (As := []) (S := []) (c_X7_begin n μ) hp1 zw_X7_begin zv_X7_begin zm_X4_73 (n := 0) (by decide) rfl (z_recv gc_31 (T := TX7) (N := 8) rfl) rfl (Nat.le_of_ble_eq_true rfl) (by decide) (by decide) dX4_oddsToHear_7 ?_
  refine z_iconst (pc := 10) dX4_oddsToHear_10 zci_1 ?_
  refine z_istore (pc := 11) (L' := [(0, .ref (b + 42)), (1, .int a1), (2, .int a2), (3, .int a3), (4, .long 0), (6, .int 1)]) dX4_oddsToHear_11 (by decide) rfl ?_
  refine z_iconst (pc := 13) dX4_oddsToHear_13 zci_0 ?_
  refine z_istore (pc := 14) (L' := [(0, .ref (b + 42)), (1, .int a1), (2, .int a2), (3, .int a3), (4, .long 0), (6, .int 1), (7, .int 0)]) dX4_oddsToHear_14 (by decide) rfl ?_
  exact w_X4_oddsToHear_16 n a1 a2 a3 0 1 0 p1.2

set_option maxRecDepth 20000 in
theorem c_X4_oddsToHear {D : va_G} {cI cL : ClassId} {b : Nat} {Z : State → Heap → Prop}  (n : Nat) (a1 : Int32) (a2 : Int32) (a3 : Int32) (μ : z_M) : z_S (zEc D cI cL b Z) 5 yX4_oddsToHear cX4_oddsToHear 9 (some .long) z_el [.ref (b + 42), .int a1, .int a2, .int a3] μ ((f_X4_oddsToHear n a1 a2 a3 μ)) :=
  z_entry (yn := yX4_oddsToHear) (by decide) (Nat.le_of_ble_eq_true rfl) rfl (w_X4_oddsToHear_0 n a1 a2 a3 μ)
