def f_J6_bitCount_0f7a4 (a0 : Int32) (μ : z_M) : Int32 :=
  z_let ((a0 - ((((Int32.toUInt32 a0) >>> ((Int32.toUInt32 1) &&& Int32.toUInt32 31)).toInt32) &&& 1431655765)) : Int32) (fun x1 => z_let (((x1 &&& 858993459) + ((((Int32.toUInt32 x1) >>> ((Int32.toUInt32 2) &&& Int32.toUInt32 31)).toInt32) &&& 858993459)) : Int32) (fun x2 => z_let (((x2 + (((Int32.toUInt32 x2) >>> ((Int32.toUInt32 4) &&& Int32.toUInt32 31)).toInt32)) &&& 252645135) : Int32) (fun x3 => z_let ((x3 + (((Int32.toUInt32 x3) >>> ((Int32.toUInt32 8) &&& Int32.toUInt32 31)).toInt32)) : Int32) (fun x4 => z_let ((x4 + (((Int32.toUInt32 x4) >>> ((Int32.toUInt32 16) &&& Int32.toUInt32 31)).toInt32)) : Int32) (fun x5 => (x5 &&& 63))))))
set_option maxRecDepth 20000 in
theorem w_J6_bitCount_0f7a4_0 {D : va_G} {cI cL : ClassId} {b : Nat} {Z : State → Heap → Prop}  (a0 : Int32) (μ : z_M) : z_w (zEc D cI cL b Z) (RJ6, cJ6_bitCount_0f7a4, 1, (some .int), 0) z_ei 0 [(0, .int a0)] [] μ (z_oP μ (f_J6_bitCount_0f7a4 a0 μ)) := by
  unfold f_J6_bitCount_0f7a4
  refine z_iload_n (pc := 0) dJ6_bitCount_0f7a4_0 rfl ?_
  refine z_iload_n (pc := 1) dJ6_bitCount_0f7a4_1 rfl ?_
  refine z_iconst (pc := 2) dJ6_bitCount_0f7a4_2 zci_1 ?_
  refine z_iushr (pc := 3) dJ6_bitCount_0f7a4_3 ?_
  refine z_ldcw (pc := 4) dJ6_bitCount_0f7a4_4 zc_J6_265 ?_
  refine z_iand (pc := 7) dJ6_bitCount_0f7a4_7 ?_
  refine z_isub (pc := 8) dJ6_bitCount_0f7a4_8 ?_
  refine z_letI (fun x1 => ?_)
  refine z_istore_n (pc := 9) (L' := [(0, .int x1)]) dJ6_bitCount_0f7a4_9 (by decide) rfl ?_
  refine z_iload_n (pc := 10) dJ6_bitCount_0f7a4_10 rfl ?_
  refine z_ldcw (pc := 11) dJ6_bitCount_0f7a4_11 zc_J6_266 ?_
  refine z_iand (pc := 14) dJ6_bitCount_0f7a4_14 ?_
  refine z_iload_n (pc := 15) dJ6_bitCount_0f7a4_15 rfl ?_
  refine z_iconst (pc := 16) dJ6_bitCount_0f7a4_16 zci_2 ?_
  refine z_iushr (pc := 17) dJ6_bitCount_0f7a4_17 ?_
  refine z_ldcw (pc := 18) dJ6_bitCount_0f7a4_18 zc_J6_266 ?_
  refine z_iand (pc := 21) dJ6_bitCount_0f7a4_21 ?_
  refine z_iadd (pc := 22) dJ6_bitCount_0f7a4_22 ?_
  refine z_letI (fun x2 => ?_)
  refine z_istore_n (pc := 23) (L' := [(0, .int x2)]) dJ6_bitCount_0f7a4_23 (by decide) rfl ?_
  refine z_iload_n (pc := 24) dJ6_bitCount_0f7a4_24 rfl ?_
  refine z_iload_n (pc := 25) dJ6_bitCount_0f7a4_25 rfl ?_
  refine z_iconst (pc := 26) dJ6_bitCount_0f7a4_26 zci_4 ?_
  refine z_iushr (pc := 27) dJ6_bitCount_0f7a4_27 ?_
  refine z_iadd (pc := 28) dJ6_bitCount_0f7a4_28 ?_
  refine z_ldcw (pc := 29) dJ6_bitCount_0f7a4_29 zc_J6_267 ?_
  refine z_iand (pc := 32) dJ6_bitCount_0f7a4_32 ?_
  refine z_letI (fun x3 => ?_)
  refine z_istore_n (pc := 33) (L' := [(0, .int x3)]) dJ6_bitCount_0f7a4_33 (by decide) rfl ?_
  refine z_iload_n (pc := 34) dJ6_bitCount_0f7a4_34 rfl ?_
  refine z_iload_n (pc := 35) dJ6_bitCount_0f7a4_35 rfl ?_
  refine z_bipush (pc := 36) dJ6_bitCount_0f7a4_36 zcb_8 ?_
  refine z_iushr (pc := 38) dJ6_bitCount_0f7a4_38 ?_
  refine z_iadd (pc := 39) dJ6_bitCount_0f7a4_39 ?_
  refine z_letI (fun x4 => ?_)
  refine z_istore_n (pc := 40) (L' := [(0, .int x4)]) dJ6_bitCount_0f7a4_40 (by decide) rfl ?_
  refine z_iload_n (pc := 41) dJ6_bitCount_0f7a4_41 rfl ?_
  refine z_iload_n (pc := 42) dJ6_bitCount_0f7a4_42 rfl ?_
  refine z_bipush (pc := 43) dJ6_bitCount_0f7a4_43 zcb_16 ?_
  refine z_iushr (pc := 45) dJ6_bitCount_0f7a4_45 ?_
  refine z_iadd (pc := 46) dJ6_bitCount_0f7a4_46 ?_
  refine z_letI (fun x5 => ?_)
  refine z_istore_n (pc := 47) (L' := [(0, .int x5)]) dJ6_bitCount_0f7a4_47 (by decide) rfl ?_
  refine z_iload_n (pc := 48) dJ6_bitCount_0f7a4_48 rfl ?_
  refine z_bipush (pc := 49) dJ6_bitCount_0f7a4_49 zcb_63 ?_
  refine z_iand (pc := 51) dJ6_bitCount_0f7a4_51 ?_
  exact z_iret (pc := 52) rfl dJ6_bitCount_0f7a4_52

set_option maxRecDepth 20000 in
theorem c_J6_bitCount_0f7a4 {D : va_G} {cI cL : ClassId} {b : Nat} {Z : State → Heap → Prop}  (a0 : Int32) (μ : z_M) : z_S (zEc D cI cL b Z) 0 yJ6_bitCount_0f7a4 cJ6_bitCount_0f7a4 1 (some .int) z_ei [.int a0] μ (z_oP μ (f_J6_bitCount_0f7a4 a0 μ)) :=
  z_entry (yn := yJ6_bitCount_0f7a4) (by decide) (Nat.le_of_ble_eq_true rfl) rfl (w_J6_bitCount_0f7a4_0 a0 μ)

def f_X6_isHouse (q : Nat) (a1 : Int32) (μ : z_M) : Int32 :=
  if a1 < 0 then (0) else (if a1 < (μ.1 q 3) then (1) else (0))
set_option maxRecDepth 20000 in
theorem w_X6_isHouse_0 {D : va_G} {cI cL : ClassId} {b : Nat} {Z : State → Heap → Prop} {q : Nat} (hq : z_Str q) (a1 : Int32) (μ : z_M) : z_w (zEc D cI cL b Z) (RX6, cX6_isHouse, 2, (some .boolean), 0) z_ei 0 [(0, .ref (b + q)), (1, .int a1)] [] μ (z_oP μ (f_X6_isHouse q a1 μ)) := by
  unfold f_X6_isHouse
  refine z_iload_n (pc := 0) dX6_isHouse_0 rfl ?_
  refine z_outIf ?_
  refine z_if_lt (pc := 1) (tgt := 16) dX6_isHouse_1 (by decide) (fun _ => ?_) (fun _ => ?_)
  · refine z_iconst (pc := 16) dX6_isHouse_16 zci_0 ?_
    exact z_zret (pc := 17) rfl dX6_isHouse_17 (by decide)
  · refine z_iload_n (pc := 4) dX6_isHouse_4 rfl ?_
    refine z_aload_n (pc := 5) dX6_isHouse_5 rfl ?_
    refine zgI_X6_40 (pc := 6) hq.1 rfl dX6_isHouse_6 ?_
    refine z_outIf ?_
    refine z_icmp_ge (pc := 9) (tgt := 16) dX6_isHouse_9 (by decide) (fun _ => ?_) (fun _ => ?_)
    · refine z_iconst (pc := 12) dX6_isHouse_12 zci_1 ?_
      refine z_goto (pc := 13) (tgt := 17) dX6_isHouse_13 (by decide) ?_
      exact z_zret (pc := 17) rfl dX6_isHouse_17 (by decide)
    · refine z_iconst (pc := 16) dX6_isHouse_16 zci_0 ?_
      exact z_zret (pc := 17) rfl dX6_isHouse_17 (by decide)

set_option maxRecDepth 20000 in
theorem c_X6_isHouse {D : va_G} {cI cL : ClassId} {b : Nat} {Z : State → Heap → Prop} {q : Nat} (hq : z_Str q) (a1 : Int32) (μ : z_M) : z_S (zEc D cI cL b Z) 0 yX6_isHouse cX6_isHouse 2 (some .boolean) z_ei [.ref (b + q), .int a1] μ (z_oP μ (f_X6_isHouse q a1 μ)) :=
  z_entry (yn := yX6_isHouse) (by decide) (Nat.le_of_ble_eq_true rfl) rfl (w_X6_isHouse_0 hq a1 μ)
set_option maxRecDepth 20000 in
theorem bl_X6_isHouse (q : Nat) (a1 : Int32) (μ : z_M) : f_X6_isHouse q a1 μ = 0 ∨ f_X6_isHouse q a1 μ = 1 := by
  unfold f_X6_isHouse
  repeat' (first | with_reducible exact z_bl0 | with_reducible exact z_bl1 | with_reducible refine z_blI ?_ ?_ | with_reducible refine z_blL (fun _ => ?_))

def f_X6_isWay (q : Nat) (a1 : Int32) (μ : z_M) : Int32 :=
  if a1 < 0 then (0) else (if a1 < (μ.1 q 4) then (1) else (0))
set_option maxRecDepth 20000 in
theorem w_X6_isWay_0 {D : va_G} {cI cL : ClassId} {b : Nat} {Z : State → Heap → Prop} {q : Nat} (hq : z_Str q) (a1 : Int32) (μ : z_M) : z_w (zEc D cI cL b Z) (RX6, cX6_isWay, 2, (some .boolean), 0) z_ei 0 [(0, .ref (b + q)), (1, .int a1)] [] μ (z_oP μ (f_X6_isWay q a1 μ)) := by
  unfold f_X6_isWay
  refine z_iload_n (pc := 0) dX6_isWay_0 rfl ?_
  refine z_outIf ?_
  refine z_if_lt (pc := 1) (tgt := 16) dX6_isWay_1 (by decide) (fun _ => ?_) (fun _ => ?_)
  · refine z_iconst (pc := 16) dX6_isWay_16 zci_0 ?_
    exact z_zret (pc := 17) rfl dX6_isWay_17 (by decide)
  · refine z_iload_n (pc := 4) dX6_isWay_4 rfl ?_
    refine z_aload_n (pc := 5) dX6_isWay_5 rfl ?_
    refine zgI_X6_43 (pc := 6) hq.1 rfl dX6_isWay_6 ?_
    refine z_outIf ?_
    refine z_icmp_ge (pc := 9) (tgt := 16) dX6_isWay_9 (by decide) (fun _ => ?_) (fun _ => ?_)
    · refine z_iconst (pc := 12) dX6_isWay_12 zci_1 ?_
      refine z_goto (pc := 13) (tgt := 17) dX6_isWay_13 (by decide) ?_
      exact z_zret (pc := 17) rfl dX6_isWay_17 (by decide)
    · refine z_iconst (pc := 16) dX6_isWay_16 zci_0 ?_
      exact z_zret (pc := 17) rfl dX6_isWay_17 (by decide)

set_option maxRecDepth 20000 in
theorem c_X6_isWay {D : va_G} {cI cL : ClassId} {b : Nat} {Z : State → Heap → Prop} {q : Nat} (hq : z_Str q) (a1 : Int32) (μ : z_M) : z_S (zEc D cI cL b Z) 0 yX6_isWay cX6_isWay 2 (some .boolean) z_ei [.ref (b + q), .int a1] μ (z_oP μ (f_X6_isWay q a1 μ)) :=
  z_entry (yn := yX6_isWay) (by decide) (Nat.le_of_ble_eq_true rfl) rfl (w_X6_isWay_0 hq a1 μ)
set_option maxRecDepth 20000 in
theorem bl_X6_isWay (q : Nat) (a1 : Int32) (μ : z_M) : f_X6_isWay q a1 μ = 0 ∨ f_X6_isWay q a1 μ = 1 := by
  unfold f_X6_isWay
  repeat' (first | with_reducible exact z_bl0 | with_reducible exact z_bl1 | with_reducible refine z_blI ?_ ?_ | with_reducible refine z_blL (fun _ => ?_))

def f_X6_hasRoomForHouse (q : Nat)  (μ : z_M) : Int32 :=
  if (μ.1 q 3) < 8 then (1) else (0)
set_option maxRecDepth 20000 in
theorem w_X6_hasRoomForHouse_0 {D : va_G} {cI cL : ClassId} {b : Nat} {Z : State → Heap → Prop} {q : Nat} (hq : z_Str q)  (μ : z_M) : z_w (zEc D cI cL b Z) (RX6, cX6_hasRoomForHouse, 1, (some .boolean), 0) z_ei 0 [(0, .ref (b + q))] [] μ (z_oP μ (f_X6_hasRoomForHouse q μ)) := by
  unfold f_X6_hasRoomForHouse
  refine z_aload_n (pc := 0) dX6_hasRoomForHouse_0 rfl ?_
  refine zgI_X6_40 (pc := 1) hq.1 rfl dX6_hasRoomForHouse_1 ?_
  refine z_bipush (pc := 4) dX6_hasRoomForHouse_4 zcb_8 ?_
  refine z_outIf ?_
  refine z_icmp_ge (pc := 6) (tgt := 13) dX6_hasRoomForHouse_6 (by decide) (fun _ => ?_) (fun _ => ?_)
  · refine z_iconst (pc := 9) dX6_hasRoomForHouse_9 zci_1 ?_
    refine z_goto (pc := 10) (tgt := 14) dX6_hasRoomForHouse_10 (by decide) ?_
    exact z_zret (pc := 14) rfl dX6_hasRoomForHouse_14 (by decide)
  · refine z_iconst (pc := 13) dX6_hasRoomForHouse_13 zci_0 ?_
    exact z_zret (pc := 14) rfl dX6_hasRoomForHouse_14 (by decide)

set_option maxRecDepth 20000 in
theorem c_X6_hasRoomForHouse {D : va_G} {cI cL : ClassId} {b : Nat} {Z : State → Heap → Prop} {q : Nat} (hq : z_Str q)  (μ : z_M) : z_S (zEc D cI cL b Z) 0 yX6_hasRoomForHouse cX6_hasRoomForHouse 1 (some .boolean) z_ei [.ref (b + q)] μ (z_oP μ (f_X6_hasRoomForHouse q μ)) :=
  z_entry (yn := yX6_hasRoomForHouse) (by decide) (Nat.le_of_ble_eq_true rfl) rfl (w_X6_hasRoomForHouse_0 hq  μ)
set_option maxRecDepth 20000 in
theorem bl_X6_hasRoomForHouse (q : Nat)  (μ : z_M) : f_X6_hasRoomForHouse q μ = 0 ∨ f_X6_hasRoomForHouse q μ = 1 := by
  unfold f_X6_hasRoomForHouse
  repeat' (first | with_reducible exact z_bl0 | with_reducible exact z_bl1 | with_reducible refine z_blI ?_ ?_ | with_reducible refine z_blL (fun _ => ?_))

def f_X6_hasRoomForWay (q : Nat)  (μ : z_M) : Int32 :=
  if (μ.1 q 4) < 12 then (1) else (0)
set_option maxRecDepth 20000 in
theorem w_X6_hasRoomForWay_0 {D : va_G} {cI cL : ClassId} {b : Nat} {Z : State → Heap → Prop} {q : Nat} (hq : z_Str q)  (μ : z_M) : z_w (zEc D cI cL b Z) (RX6, cX6_hasRoomForWay, 1, (some .boolean), 0) z_ei 0 [(0, .ref (b + q))] [] μ (z_oP μ (f_X6_hasRoomForWay q μ)) := by
  unfold f_X6_hasRoomForWay
  refine z_aload_n (pc := 0) dX6_hasRoomForWay_0 rfl ?_
  refine zgI_X6_43 (pc := 1) hq.1 rfl dX6_hasRoomForWay_1 ?_
  refine z_bipush (pc := 4) dX6_hasRoomForWay_4 zcb_12 ?_
  refine z_outIf ?_
  refine z_icmp_ge (pc := 6) (tgt := 13) dX6_hasRoomForWay_6 (by decide) (fun _ => ?_) (fun _ => ?_)
  · refine z_iconst (pc := 9) dX6_hasRoomForWay_9 zci_1 ?_
    refine z_goto (pc := 10) (tgt := 14) dX6_hasRoomForWay_10 (by decide) ?_
    exact z_zret (pc := 14) rfl dX6_hasRoomForWay_14 (by decide)
  · refine z_iconst (pc := 13) dX6_hasRoomForWay_13 zci_0 ?_
    exact z_zret (pc := 14) rfl dX6_hasRoomForWay_14 (by decide)

set_option maxRecDepth 20000 in
theorem c_X6_hasRoomForWay {D : va_G} {cI cL : ClassId} {b : Nat} {Z : State → Heap → Prop} {q : Nat} (hq : z_Str q)  (μ : z_M) : z_S (zEc D cI cL b Z) 0 yX6_hasRoomForWay cX6_hasRoomForWay 1 (some .boolean) z_ei [.ref (b + q)] μ (z_oP μ (f_X6_hasRoomForWay q μ)) :=
  z_entry (yn := yX6_hasRoomForWay) (by decide) (Nat.le_of_ble_eq_true rfl) rfl (w_X6_hasRoomForWay_0 hq  μ)
set_option maxRecDepth 20000 in
theorem bl_X6_hasRoomForWay (q : Nat)  (μ : z_M) : f_X6_hasRoomForWay q μ = 0 ∨ f_X6_hasRoomForWay q μ = 1 := by
  unfold f_X6_hasRoomForWay
  repeat' (first | with_reducible exact z_bl0 | with_reducible exact z_bl1 | with_reducible refine z_blI ?_ ?_ | with_reducible refine z_blL (fun _ => ?_))

def f_X6_hasBird (q : Nat)  (μ : z_M) : Int32 :=
  if (μ.1 q 6) = (-1) then (0) else (1)
set_option maxRecDepth 20000 in
theorem w_X6_hasBird_0 {D : va_G} {cI cL : ClassId} {b : Nat} {Z : State → Heap → Prop} {q : Nat} (hq : z_Str q)  (μ : z_M) : z_w (zEc D cI cL b Z) (RX6, cX6_hasBird, 1, (some .boolean), 0) z_ei 0 [(0, .ref (b + q))] [] μ (z_oP μ (f_X6_hasBird q μ)) := by
  unfold f_X6_hasBird
  refine z_aload_n (pc := 0) dX6_hasBird_0 rfl ?_
  refine zgI_X6_30 (pc := 1) hq.1 rfl dX6_hasBird_1 ?_
  refine z_iconst (pc := 4) dX6_hasBird_4 zci_m1 ?_
  refine z_outIf ?_
  refine z_icmp_eq (pc := 5) (tgt := 12) dX6_hasBird_5 (by decide) (fun _ => ?_) (fun _ => ?_)
  · refine z_iconst (pc := 12) dX6_hasBird_12 zci_0 ?_
    exact z_zret (pc := 13) rfl dX6_hasBird_13 (by decide)
  · refine z_iconst (pc := 8) dX6_hasBird_8 zci_1 ?_
    refine z_goto (pc := 9) (tgt := 13) dX6_hasBird_9 (by decide) ?_
    exact z_zret (pc := 13) rfl dX6_hasBird_13 (by decide)

set_option maxRecDepth 20000 in
theorem c_X6_hasBird {D : va_G} {cI cL : ClassId} {b : Nat} {Z : State → Heap → Prop} {q : Nat} (hq : z_Str q)  (μ : z_M) : z_S (zEc D cI cL b Z) 0 yX6_hasBird cX6_hasBird 1 (some .boolean) z_ei [.ref (b + q)] μ (z_oP μ (f_X6_hasBird q μ)) :=
  z_entry (yn := yX6_hasBird) (by decide) (Nat.le_of_ble_eq_true rfl) rfl (w_X6_hasBird_0 hq  μ)
set_option maxRecDepth 20000 in
theorem bl_X6_hasBird (q : Nat)  (μ : z_M) : f_X6_hasBird q μ = 0 ∨ f_X6_hasBird q μ = 1 := by
  unfold f_X6_hasBird
  repeat' (first | with_reducible exact z_bl0 | with_reducible exact z_bl1 | with_reducible refine z_blI ?_ ?_ | with_reducible refine z_blL (fun _ => ?_))

def f_X6_lagNow (q : Nat)  (μ : z_M) : Int32 :=
  (μ.1 q 5)
set_option maxRecDepth 20000 in
theorem w_X6_lagNow_0 {D : va_G} {cI cL : ClassId} {b : Nat} {Z : State → Heap → Prop} {q : Nat} (hq : z_Str q)  (μ : z_M) : z_w (zEc D cI cL b Z) (RX6, cX6_lagNow, 1, (some .int), 0) z_ei 0 [(0, .ref (b + q))] [] μ (z_oP μ (f_X6_lagNow q μ)) := by
  unfold f_X6_lagNow
  refine z_aload_n (pc := 0) dX6_lagNow_0 rfl ?_
  refine zgI_X6_26 (pc := 1) hq.1 rfl dX6_lagNow_1 ?_
  exact z_iret (pc := 4) rfl dX6_lagNow_4

set_option maxRecDepth 20000 in
theorem c_X6_lagNow {D : va_G} {cI cL : ClassId} {b : Nat} {Z : State → Heap → Prop} {q : Nat} (hq : z_Str q)  (μ : z_M) : z_S (zEc D cI cL b Z) 0 yX6_lagNow cX6_lagNow 1 (some .int) z_ei [.ref (b + q)] μ (z_oP μ (f_X6_lagNow q μ)) :=
  z_entry (yn := yX6_lagNow) (by decide) (Nat.le_of_ble_eq_true rfl) rfl (w_X6_lagNow_0 hq  μ)

def f_X6_birdAt (q : Nat)  (μ : z_M) : Int32 :=
  (μ.1 q 6)
set_option maxRecDepth 20000 in
theorem w_X6_birdAt_0 {D : va_G} {cI cL : ClassId} {b : Nat} {Z : State → Heap → Prop} {q : Nat} (hq : z_Str q)  (μ : z_M) : z_w (zEc D cI cL b Z) (RX6, cX6_birdAt, 1, (some .int), 0) z_ei 0 [(0, .ref (b + q))] [] μ (z_oP μ (f_X6_birdAt q μ)) := by
  unfold f_X6_birdAt
  refine z_aload_n (pc := 0) dX6_birdAt_0 rfl ?_
  refine zgI_X6_30 (pc := 1) hq.1 rfl dX6_birdAt_1 ?_
  exact z_iret (pc := 4) rfl dX6_birdAt_4

set_option maxRecDepth 20000 in
theorem c_X6_birdAt {D : va_G} {cI cL : ClassId} {b : Nat} {Z : State → Heap → Prop} {q : Nat} (hq : z_Str q)  (μ : z_M) : z_S (zEc D cI cL b Z) 0 yX6_birdAt cX6_birdAt 1 (some .int) z_ei [.ref (b + q)] μ (z_oP μ (f_X6_birdAt q μ)) :=
  z_entry (yn := yX6_birdAt) (by decide) (Nat.le_of_ble_eq_true rfl) rfl (w_X6_birdAt_0 hq  μ)

def f_X6_ofHouse (q : Nat) (a1 : Int32) (a2 : Int32) (μ : z_M) : Int32 :=
  (g_get (q + 2) 40 ((a1 * 5) + a2) μ)
set_option maxRecDepth 20000 in
theorem w_X6_ofHouse_0 {D : va_G} {cI cL : ClassId} {b : Nat} {Z : State → Heap → Prop} {q : Nat} (hq : z_Str q) (a1 : Int32) (a2 : Int32) (μ : z_M) : z_w (zEc D cI cL b Z) (RX6, cX6_ofHouse, 3, (some .int), 1) z_ei 0 [(0, .ref (b + q)), (1, .int a1), (2, .int a2)] [] μ (z_oP μ (f_X6_ofHouse q a1 a2 μ)) := by
  unfold f_X6_ofHouse
  refine z_aload_n (pc := 0) dX6_ofHouse_0 rfl ?_
  refine zgR_X6_16 (pc := 1) hq.1 rfl dX6_ofHouse_1 ?_
  refine z_iload_n (pc := 4) dX6_ofHouse_4 rfl ?_
  refine z_iconst (pc := 5) dX6_ofHouse_5 zci_5 ?_
  refine z_imul (pc := 6) dX6_ofHouse_6 ?_
  refine z_iload_n (pc := 7) dX6_ofHouse_7 rfl ?_
  refine z_iadd (pc := 8) dX6_ofHouse_8 ?_
  refine z_callVi (pc := 9) (As := [.int ((a1 * 5) + a2)]) (S := []) (g_X1_get hq.2.1 hq.2.2.1 (Nat.le_of_ble_eq_true rfl) ((a1 * 5) + a2) μ) rfl zw_X1_get zv_X1_get zm_X6_52 (n := 1) (by decide) rfl (z_recv hq.2.1 (T := TX1) (N := 1) rfl) rfl (Nat.le_of_ble_eq_true rfl) (by decide) (by decide) dX6_ofHouse_9 ?_
  exact z_iret (pc := 12) rfl dX6_ofHouse_12

set_option maxRecDepth 20000 in
theorem c_X6_ofHouse {D : va_G} {cI cL : ClassId} {b : Nat} {Z : State → Heap → Prop} {q : Nat} (hq : z_Str q) (a1 : Int32) (a2 : Int32) (μ : z_M) : z_S (zEc D cI cL b Z) 1 yX6_ofHouse cX6_ofHouse 3 (some .int) z_ei [.ref (b + q), .int a1, .int a2] μ (z_oP μ (f_X6_ofHouse q a1 a2 μ)) :=
  z_entry (yn := yX6_ofHouse) (by decide) (Nat.le_of_ble_eq_true rfl) rfl (w_X6_ofHouse_0 hq a1 a2 μ)

def f_X6_keepOfHouse (q : Nat) (a1 : Int32) (a2 : Int32) (a3 : Int32) (μ : z_M) : z_M :=
  z_let (g_put (q + 2) 40 ((a1 * 5) + a2) a3 μ) (fun m1 => m1)
set_option maxRecDepth 20000 in
theorem w_X6_keepOfHouse_0 {D : va_G} {cI cL : ClassId} {b : Nat} {Z : State → Heap → Prop} {q : Nat} (hq : z_Str q) (a1 : Int32) (a2 : Int32) (a3 : Int32) (μ : z_M) : z_w (zEc D cI cL b Z) (RX6, cX6_keepOfHouse, 4, none, 1) z_ev 0 [(0, .ref (b + q)), (1, .int a1), (2, .int a2), (3, .int a3)] [] μ (z_oV (f_X6_keepOfHouse q a1 a2 a3 μ)) := by
  unfold f_X6_keepOfHouse
  refine z_aload_n (pc := 0) dX6_keepOfHouse_0 rfl ?_
  refine zgR_X6_16 (pc := 1) hq.1 rfl dX6_keepOfHouse_1 ?_
  refine z_iload_n (pc := 4) dX6_keepOfHouse_4 rfl ?_
  refine z_iconst (pc := 5) dX6_keepOfHouse_5 zci_5 ?_
  refine z_imul (pc := 6) dX6_keepOfHouse_6 ?_
  refine z_iload_n (pc := 7) dX6_keepOfHouse_7 rfl ?_
  refine z_iadd (pc := 8) dX6_keepOfHouse_8 ?_
  refine z_iload_n (pc := 9) dX6_keepOfHouse_9 rfl ?_
  refine z_letP (fun m1 hm1 => ?_)
  refine z_callVv (pc := 10) (As := [.int ((a1 * 5) + a2), .int a3]) (S := []) (g_X1_keep hq.2.1 hq.2.2.1 (Nat.le_of_ble_eq_true rfl) ((a1 * 5) + a2) a3 μ) (z_pV hm1) zw_X1_keep zv_X1_keep zm_X6_56 (n := 2) (by decide) rfl (z_recv hq.2.1 (T := TX1) (N := 1) rfl) rfl (Nat.le_of_ble_eq_true rfl) (by decide) (by decide) dX6_keepOfHouse_10 ?_
  exact z_vret (pc := 13) rfl dX6_keepOfHouse_13

set_option maxRecDepth 20000 in
theorem c_X6_keepOfHouse {D : va_G} {cI cL : ClassId} {b : Nat} {Z : State → Heap → Prop} {q : Nat} (hq : z_Str q) (a1 : Int32) (a2 : Int32) (a3 : Int32) (μ : z_M) : z_S (zEc D cI cL b Z) 1 yX6_keepOfHouse cX6_keepOfHouse 4 none z_ev [.ref (b + q), .int a1, .int a2, .int a3] μ (z_oV (f_X6_keepOfHouse q a1 a2 a3 μ)) :=
  z_entry (yn := yX6_keepOfHouse) (by decide) (Nat.le_of_ble_eq_true rfl) rfl (w_X6_keepOfHouse_0 hq a1 a2 a3 μ)

def f_X6_ofWay (q : Nat) (a1 : Int32) (a2 : Int32) (μ : z_M) : Int32 :=
  (g_get (q + 4) 48 ((a1 * 4) + a2) μ)
set_option maxRecDepth 20000 in
theorem w_X6_ofWay_0 {D : va_G} {cI cL : ClassId} {b : Nat} {Z : State → Heap → Prop} {q : Nat} (hq : z_Str q) (a1 : Int32) (a2 : Int32) (μ : z_M) : z_w (zEc D cI cL b Z) (RX6, cX6_ofWay, 3, (some .int), 1) z_ei 0 [(0, .ref (b + q)), (1, .int a1), (2, .int a2)] [] μ (z_oP μ (f_X6_ofWay q a1 a2 μ)) := by
  unfold f_X6_ofWay
  refine z_aload_n (pc := 0) dX6_ofWay_0 rfl ?_
  refine zgR_X6_20 (pc := 1) hq.1 rfl dX6_ofWay_1 ?_
  refine z_iload_n (pc := 4) dX6_ofWay_4 rfl ?_
  refine z_iconst (pc := 5) dX6_ofWay_5 zci_4 ?_
  refine z_imul (pc := 6) dX6_ofWay_6 ?_
  refine z_iload_n (pc := 7) dX6_ofWay_7 rfl ?_
  refine z_iadd (pc := 8) dX6_ofWay_8 ?_
  refine z_callVi (pc := 9) (As := [.int ((a1 * 4) + a2)]) (S := []) (g_X1_get hq.2.2.2.1 hq.2.2.2.2.1 (Nat.le_of_ble_eq_true rfl) ((a1 * 4) + a2) μ) rfl zw_X1_get zv_X1_get zm_X6_52 (n := 1) (by decide) rfl (z_recv hq.2.2.2.1 (T := TX1) (N := 1) rfl) rfl (Nat.le_of_ble_eq_true rfl) (by decide) (by decide) dX6_ofWay_9 ?_
  exact z_iret (pc := 12) rfl dX6_ofWay_12

set_option maxRecDepth 20000 in
theorem c_X6_ofWay {D : va_G} {cI cL : ClassId} {b : Nat} {Z : State → Heap → Prop} {q : Nat} (hq : z_Str q) (a1 : Int32) (a2 : Int32) (μ : z_M) : z_S (zEc D cI cL b Z) 1 yX6_ofWay cX6_ofWay 3 (some .int) z_ei [.ref (b + q), .int a1, .int a2] μ (z_oP μ (f_X6_ofWay q a1 a2 μ)) :=
  z_entry (yn := yX6_ofWay) (by decide) (Nat.le_of_ble_eq_true rfl) rfl (w_X6_ofWay_0 hq a1 a2 μ)

def f_X6_keepOfWay (q : Nat) (a1 : Int32) (a2 : Int32) (a3 : Int32) (μ : z_M) : z_M :=
  z_let (g_put (q + 4) 48 ((a1 * 4) + a2) a3 μ) (fun m1 => m1)
set_option maxRecDepth 20000 in
theorem w_X6_keepOfWay_0 {D : va_G} {cI cL : ClassId} {b : Nat} {Z : State → Heap → Prop} {q : Nat} (hq : z_Str q) (a1 : Int32) (a2 : Int32) (a3 : Int32) (μ : z_M) : z_w (zEc D cI cL b Z) (RX6, cX6_keepOfWay, 4, none, 1) z_ev 0 [(0, .ref (b + q)), (1, .int a1), (2, .int a2), (3, .int a3)] [] μ (z_oV (f_X6_keepOfWay q a1 a2 a3 μ)) := by
  unfold f_X6_keepOfWay
  refine z_aload_n (pc := 0) dX6_keepOfWay_0 rfl ?_
  refine zgR_X6_20 (pc := 1) hq.1 rfl dX6_keepOfWay_1 ?_
  refine z_iload_n (pc := 4) dX6_keepOfWay_4 rfl ?_
  refine z_iconst (pc := 5) dX6_keepOfWay_5 zci_4 ?_
  refine z_imul (pc := 6) dX6_keepOfWay_6 ?_
  refine z_iload_n (pc := 7) dX6_keepOfWay_7 rfl ?_
  refine z_iadd (pc := 8) dX6_keepOfWay_8 ?_
  refine z_iload_n (pc := 9) dX6_keepOfWay_9 rfl ?_
  refine z_letP (fun m1 hm1 => ?_)
  refine z_callVv (pc := 10) (As := [.int ((a1 * 4) + a2), .int a3]) (S := []) (g_X1_keep hq.2.2.2.1 hq.2.2.2.2.1 (Nat.le_of_ble_eq_true rfl) ((a1 * 4) + a2) a3 μ) (z_pV hm1) zw_X1_keep zv_X1_keep zm_X6_56 (n := 2) (by decide) rfl (z_recv hq.2.2.2.1 (T := TX1) (N := 1) rfl) rfl (Nat.le_of_ble_eq_true rfl) (by decide) (by decide) dX6_keepOfWay_10 ?_
  exact z_vret (pc := 13) rfl dX6_keepOfWay_13

set_option maxRecDepth 20000 in
theorem c_X6_keepOfWay {D : va_G} {cI cL : ClassId} {b : Nat} {Z : State → Heap → Prop} {q : Nat} (hq : z_Str q) (a1 : Int32) (a2 : Int32) (a3 : Int32) (μ : z_M) : z_S (zEc D cI cL b Z) 1 yX6_keepOfWay cX6_keepOfWay 4 none z_ev [.ref (b + q), .int a1, .int a2, .int a3] μ (z_oV (f_X6_keepOfWay q a1 a2 a3 μ)) :=
  z_entry (yn := yX6_keepOfWay) (by decide) (Nat.le_of_ble_eq_true rfl) rfl (w_X6_keepOfWay_0 hq a1 a2 a3 μ)

def f_X6_addHouse (q : Nat) (a1 : Int32) (a2 : Int32) (a3 : Int32) (μ : z_M) : Int32 × z_M :=
  z_let ((μ.1 q 3) : Int32) (fun x1 => z_let (f_X6_keepOfHouse q x1 0 a1 μ) (fun m2 => z_let (f_X6_keepOfHouse q x1 1 a2 m2) (fun m3 => z_let (f_X6_keepOfHouse q x1 2 a3 m3) (fun m4 => z_let (f_X6_keepOfHouse q x1 3 0 m4) (fun m5 => z_let (f_X6_keepOfHouse q x1 4 0 m5) (fun m6 => z_let (z_sI m6 q 3 ((m6.1 q 3) + 1)) (fun m7 => (x1, m7))))))))
set_option maxRecDepth 20000 in
theorem w_X6_addHouse_0 {D : va_G} {cI cL : ClassId} {b : Nat} {Z : State → Heap → Prop} {q : Nat} (hq : z_Str q) (a1 : Int32) (a2 : Int32) (a3 : Int32) (μ : z_M) : z_w (zEc D cI cL b Z) (RX6, cX6_addHouse, 5, (some .int), 2) z_ei 0 [(0, .ref (b + q)), (1, .int a1), (2, .int a2), (3, .int a3)] [] μ (z_oT (f_X6_addHouse q a1 a2 a3 μ)) := by
  unfold f_X6_addHouse
  refine z_aload_n (pc := 0) dX6_addHouse_0 rfl ?_
  refine zgI_X6_40 (pc := 1) hq.1 rfl dX6_addHouse_1 ?_
  refine z_letI (fun x1 => ?_)
  refine z_istore (pc := 4) (L' := [(0, .ref (b + q)), (1, .int a1), (2, .int a2), (3, .int a3), (4, .int x1)]) dX6_addHouse_4 (by decide) rfl ?_
  refine z_aload_n (pc := 6) dX6_addHouse_6 rfl ?_
  refine z_iload (pc := 7) dX6_addHouse_7 rfl ?_
  refine z_iconst (pc := 9) dX6_addHouse_9 zci_0 ?_
  refine z_iload_n (pc := 10) dX6_addHouse_10 rfl ?_
  refine z_letP (fun m2 hm2 => ?_)
  refine z_callVv (pc := 11) (As := [.int x1, .int 0, .int a1]) (S := []) (c_X6_keepOfHouse hq x1 0 a1 μ) (z_pV hm2) zw_X6_keepOfHouse zv_X6_keepOfHouse zm_X6_60 (n := 3) (by decide) rfl (z_recv hq.1 (T := TX6) (N := 10) rfl) rfl (Nat.le_of_ble_eq_true rfl) (by decide) (by decide) dX6_addHouse_11 ?_
  refine z_aload_n (pc := 14) dX6_addHouse_14 rfl ?_
  refine z_iload (pc := 15) dX6_addHouse_15 rfl ?_
  refine z_iconst (pc := 17) dX6_addHouse_17 zci_1 ?_
  refine z_iload_n (pc := 18) dX6_addHouse_18 rfl ?_
  refine z_letP (fun m3 hm3 => ?_)
  refine z_callVv (pc := 19) (As := [.int x1, .int 1, .int a2]) (S := []) (c_X6_keepOfHouse hq x1 1 a2 m2) (z_pV hm3) zw_X6_keepOfHouse zv_X6_keepOfHouse zm_X6_60 (n := 3) (by decide) rfl (z_recv hq.1 (T := TX6) (N := 10) rfl) rfl (Nat.le_of_ble_eq_true rfl) (by decide) (by decide) dX6_addHouse_19 ?_
  refine z_aload_n (pc := 22) dX6_addHouse_22 rfl ?_
  refine z_iload (pc := 23) dX6_addHouse_23 rfl ?_
  refine z_iconst (pc := 25) dX6_addHouse_25 zci_2 ?_
  refine z_iload_n (pc := 26) dX6_addHouse_26 rfl ?_
  refine z_letP (fun m4 hm4 => ?_)
  refine z_callVv (pc := 27) (As := [.int x1, .int 2, .int a3]) (S := []) (c_X6_keepOfHouse hq x1 2 a3 m3) (z_pV hm4) zw_X6_keepOfHouse zv_X6_keepOfHouse zm_X6_60 (n := 3) (by decide) rfl (z_recv hq.1 (T := TX6) (N := 10) rfl) rfl (Nat.le_of_ble_eq_true rfl) (by decide) (by decide) dX6_addHouse_27 ?_
  refine z_aload_n (pc := 30) dX6_addHouse_30 rfl ?_
  refine z_iload (pc := 31) dX6_addHouse_31 rfl ?_
  refine z_iconst (pc := 33) dX6_addHouse_33 zci_3 ?_
  refine z_iconst (pc := 34) dX6_addHouse_34 zci_0 ?_
  refine z_letP (fun m5 hm5 => ?_)
  refine z_callVv (pc := 35) (As := [.int x1, .int 3, .int 0]) (S := []) (c_X6_keepOfHouse hq x1 3 0 m4) (z_pV hm5) zw_X6_keepOfHouse zv_X6_keepOfHouse zm_X6_60 (n := 3) (by decide) rfl (z_recv hq.1 (T := TX6) (N := 10) rfl) rfl (Nat.le_of_ble_eq_true rfl) (by decide) (by decide) dX6_addHouse_35 ?_
  refine z_aload_n (pc := 38) dX6_addHouse_38 rfl ?_
  refine z_iload (pc := 39) dX6_addHouse_39 rfl ?_
  refine z_iconst (pc := 41) dX6_addHouse_41 zci_4 ?_
  refine z_iconst (pc := 42) dX6_addHouse_42 zci_0 ?_
  refine z_letP (fun m6 hm6 => ?_)
  refine z_callVv (pc := 43) (As := [.int x1, .int 4, .int 0]) (S := []) (c_X6_keepOfHouse hq x1 4 0 m5) (z_pV hm6) zw_X6_keepOfHouse zv_X6_keepOfHouse zm_X6_60 (n := 3) (by decide) rfl (z_recv hq.1 (T := TX6) (N := 10) rfl) rfl (Nat.le_of_ble_eq_true rfl) (by decide) (by decide) dX6_addHouse_43 ?_
  refine z_aload_n (pc := 46) dX6_addHouse_46 rfl ?_
  refine z_dup (pc := 47) dX6_addHouse_47 rfl ?_
  refine zgI_X6_40 (pc := 48) hq.1 rfl dX6_addHouse_48 ?_
  refine z_iconst (pc := 51) dX6_addHouse_51 zci_1 ?_
  refine z_iadd (pc := 52) dX6_addHouse_52 ?_
  refine zpI_X6_40 (pc := 53) hq.1 rfl dX6_addHouse_53 ?_
  refine z_letM (fun m7 => ?_)
  refine z_iload (pc := 56) dX6_addHouse_56 rfl ?_
  exact z_iret (pc := 58) rfl dX6_addHouse_58

set_option maxRecDepth 20000 in
theorem c_X6_addHouse {D : va_G} {cI cL : ClassId} {b : Nat} {Z : State → Heap → Prop} {q : Nat} (hq : z_Str q) (a1 : Int32) (a2 : Int32) (a3 : Int32) (μ : z_M) : z_S (zEc D cI cL b Z) 2 yX6_addHouse cX6_addHouse 5 (some .int) z_ei [.ref (b + q), .int a1, .int a2, .int a3] μ (z_oT (f_X6_addHouse q a1 a2 a3 μ)) :=
  z_entry (yn := yX6_addHouse) (by decide) (Nat.le_of_ble_eq_true rfl) rfl (w_X6_addHouse_0 hq a1 a2 a3 μ)

def f_X6_addWay (q : Nat) (a1 : Int32) (a2 : Int32) (a3 : Int32) (μ : z_M) : Int32 × z_M :=
  z_let ((μ.1 q 4) : Int32) (fun x1 => z_let (f_X6_keepOfWay q x1 0 a1 μ) (fun m2 => z_let (f_X6_keepOfWay q x1 1 a2 m2) (fun m3 => z_let (f_X6_keepOfWay q x1 2 a3 m3) (fun m4 => z_let (f_X6_keepOfWay q x1 3 0 m4) (fun m5 => z_let (z_sI m5 q 4 ((m5.1 q 4) + 1)) (fun m6 => (x1, m6)))))))
set_option maxRecDepth 20000 in
theorem w_X6_addWay_0 {D : va_G} {cI cL : ClassId} {b : Nat} {Z : State → Heap → Prop} {q : Nat} (hq : z_Str q) (a1 : Int32) (a2 : Int32) (a3 : Int32) (μ : z_M) : z_w (zEc D cI cL b Z) (RX6, cX6_addWay, 5, (some .int), 2) z_ei 0 [(0, .ref (b + q)), (1, .int a1), (2, .int a2), (3, .int a3)] [] μ (z_oT (f_X6_addWay q a1 a2 a3 μ)) := by
  unfold f_X6_addWay
  refine z_aload_n (pc := 0) dX6_addWay_0 rfl ?_
  refine zgI_X6_43 (pc := 1) hq.1 rfl dX6_addWay_1 ?_
  refine z_letI (fun x1 => ?_)
  refine z_istore (pc := 4) (L' := [(0, .ref (b + q)), (1, .int a1), (2, .int a2), (3, .int a3), (4, .int x1)]) dX6_addWay_4 (by decide) rfl ?_
  refine z_aload_n (pc := 6) dX6_addWay_6 rfl ?_
  refine z_iload (pc := 7) dX6_addWay_7 rfl ?_
  refine z_iconst (pc := 9) dX6_addWay_9 zci_0 ?_
  refine z_iload_n (pc := 10) dX6_addWay_10 rfl ?_
  refine z_letP (fun m2 hm2 => ?_)
  refine z_callVv (pc := 11) (As := [.int x1, .int 0, .int a1]) (S := []) (c_X6_keepOfWay hq x1 0 a1 μ) (z_pV hm2) zw_X6_keepOfWay zv_X6_keepOfWay zm_X6_64 (n := 3) (by decide) rfl (z_recv hq.1 (T := TX6) (N := 10) rfl) rfl (Nat.le_of_ble_eq_true rfl) (by decide) (by decide) dX6_addWay_11 ?_
  refine z_aload_n (pc := 14) dX6_addWay_14 rfl ?_
  refine z_iload (pc := 15) dX6_addWay_15 rfl ?_
  refine z_iconst (pc := 17) dX6_addWay_17 zci_1 ?_
  refine z_iload_n (pc := 18) dX6_addWay_18 rfl ?_
  refine z_letP (fun m3 hm3 => ?_)
  refine z_callVv (pc := 19) (As := [.int x1, .int 1, .int a2]) (S := []) (c_X6_keepOfWay hq x1 1 a2 m2) (z_pV hm3) zw_X6_keepOfWay zv_X6_keepOfWay zm_X6_64 (n := 3) (by decide) rfl (z_recv hq.1 (T := TX6) (N := 10) rfl) rfl (Nat.le_of_ble_eq_true rfl) (by decide) (by decide) dX6_addWay_19 ?_
  refine z_aload_n (pc := 22) dX6_addWay_22 rfl ?_
  refine z_iload (pc := 23) dX6_addWay_23 rfl ?_
  refine z_iconst (pc := 25) dX6_addWay_25 zci_2 ?_
  refine z_iload_n (pc := 26) dX6_addWay_26 rfl ?_
  refine z_letP (fun m4 hm4 => ?_)
  refine z_callVv (pc := 27) (As := [.int x1, .int 2, .int a3]) (S := []) (c_X6_keepOfWay hq x1 2 a3 m3) (z_pV hm4) zw_X6_keepOfWay zv_X6_keepOfWay zm_X6_64 (n := 3) (by decide) rfl (z_recv hq.1 (T := TX6) (N := 10) rfl) rfl (Nat.le_of_ble_eq_true rfl) (by decide) (by decide) dX6_addWay_27 ?_
  refine z_aload_n (pc := 30) dX6_addWay_30 rfl ?_
  refine z_iload (pc := 31) dX6_addWay_31 rfl ?_
  refine z_iconst (pc := 33) dX6_addWay_33 zci_3 ?_
  refine z_iconst (pc := 34) dX6_addWay_34 zci_0 ?_
  refine z_letP (fun m5 hm5 => ?_)
  refine z_callVv (pc := 35) (As := [.int x1, .int 3, .int 0]) (S := []) (c_X6_keepOfWay hq x1 3 0 m4) (z_pV hm5) zw_X6_keepOfWay zv_X6_keepOfWay zm_X6_64 (n := 3) (by decide) rfl (z_recv hq.1 (T := TX6) (N := 10) rfl) rfl (Nat.le_of_ble_eq_true rfl) (by decide) (by decide) dX6_addWay_35 ?_
  refine z_aload_n (pc := 38) dX6_addWay_38 rfl ?_
  refine z_dup (pc := 39) dX6_addWay_39 rfl ?_
  refine zgI_X6_43 (pc := 40) hq.1 rfl dX6_addWay_40 ?_
  refine z_iconst (pc := 43) dX6_addWay_43 zci_1 ?_
  refine z_iadd (pc := 44) dX6_addWay_44 ?_
  refine zpI_X6_43 (pc := 45) hq.1 rfl dX6_addWay_45 ?_
  refine z_letM (fun m6 => ?_)
  refine z_iload (pc := 48) dX6_addWay_48 rfl ?_
  exact z_iret (pc := 50) rfl dX6_addWay_50

set_option maxRecDepth 20000 in
theorem c_X6_addWay {D : va_G} {cI cL : ClassId} {b : Nat} {Z : State → Heap → Prop} {q : Nat} (hq : z_Str q) (a1 : Int32) (a2 : Int32) (a3 : Int32) (μ : z_M) : z_S (zEc D cI cL b Z) 2 yX6_addWay cX6_addWay 5 (some .int) z_ei [.ref (b + q), .int a1, .int a2, .int a3] μ (z_oT (f_X6_addWay q a1 a2 a3 μ)) :=
  z_entry (yn := yX6_addWay) (by decide) (Nat.le_of_ble_eq_true rfl) rfl (w_X6_addWay_0 hq a1 a2 a3 μ)

def f_X6_changeShut_b9 (q : Nat) (l1 : Int32) (s0 : Int32) (μ : z_M) : Int32 × z_M :=
  if (f_X6_ofWay q l1 3 μ) = s0 then ((0, μ)) else (z_let (f_X6_keepOfWay q l1 3 s0 μ) (fun m1 => (1, m1)))
def f_X6_changeShut (q : Nat) (a1 : Int32) (a2 : Int32) (μ : z_M) : Int32 × z_M :=
  if a2 = 0 then (f_X6_changeShut_b9 q a1 0 μ) else (f_X6_changeShut_b9 q a1 1 μ)
set_option maxRecDepth 20000 in
theorem w_X6_changeShut_9 {D : va_G} {cI cL : ClassId} {b : Nat} {Z : State → Heap → Prop} {q : Nat} (hq : z_Str q) (l1 : Int32) (s0 : Int32) (μ : z_M) : z_w (zEc D cI cL b Z) (RX6, cX6_changeShut, 4, (some .boolean), 2) z_ei 9 [(0, .ref (b + q)), (1, .int l1)] [.int s0] μ (z_oT (f_X6_changeShut_b9 q l1 s0 μ)) := by
  unfold f_X6_changeShut_b9
  refine z_istore_n (pc := 9) (L' := [(0, .ref (b + q)), (1, .int l1), (3, .int s0)]) dX6_changeShut_9 (by decide) rfl ?_
  refine z_aload_n (pc := 10) dX6_changeShut_10 rfl ?_
  refine z_iload_n (pc := 11) dX6_changeShut_11 rfl ?_
  refine z_iconst (pc := 12) dX6_changeShut_12 zci_3 ?_
  refine z_callVi (pc := 13) (As := [.int l1, .int 3]) (S := []) (c_X6_ofWay hq l1 3 μ) rfl zw_X6_ofWay zv_X6_ofWay zm_X6_67 (n := 2) (by decide) rfl (z_recv hq.1 (T := TX6) (N := 10) rfl) rfl (Nat.le_of_ble_eq_true rfl) (by decide) (by decide) dX6_changeShut_13 ?_
  refine z_iload_n (pc := 16) dX6_changeShut_16 rfl ?_
  refine z_outIf ?_
  refine z_icmp_ne (pc := 17) (tgt := 22) dX6_changeShut_17 (by decide) (fun _ => ?_) (fun _ => ?_)
  · refine z_iconst (pc := 20) dX6_changeShut_20 zci_0 ?_
    exact z_zret (pc := 21) rfl dX6_changeShut_21 (by decide)
  · refine z_aload_n (pc := 22) dX6_changeShut_22 rfl ?_
    refine z_iload_n (pc := 23) dX6_changeShut_23 rfl ?_
    refine z_iconst (pc := 24) dX6_changeShut_24 zci_3 ?_
    refine z_iload_n (pc := 25) dX6_changeShut_25 rfl ?_
    refine z_letP (fun m1 hm1 => ?_)
    refine z_callVv (pc := 26) (As := [.int l1, .int 3, .int s0]) (S := []) (c_X6_keepOfWay hq l1 3 s0 μ) (z_pV hm1) zw_X6_keepOfWay zv_X6_keepOfWay zm_X6_64 (n := 3) (by decide) rfl (z_recv hq.1 (T := TX6) (N := 10) rfl) rfl (Nat.le_of_ble_eq_true rfl) (by decide) (by decide) dX6_changeShut_26 ?_
    refine z_iconst (pc := 29) dX6_changeShut_29 zci_1 ?_
    exact z_zret (pc := 30) rfl dX6_changeShut_30 (by decide)

set_option maxRecDepth 20000 in
theorem w_X6_changeShut_0 {D : va_G} {cI cL : ClassId} {b : Nat} {Z : State → Heap → Prop} {q : Nat} (hq : z_Str q) (a1 : Int32) (a2 : Int32) (μ : z_M) : z_w (zEc D cI cL b Z) (RX6, cX6_changeShut, 4, (some .boolean), 2) z_ei 0 [(0, .ref (b + q)), (1, .int a1), (2, .int a2)] [] μ (z_oT (f_X6_changeShut q a1 a2 μ)) := by
  unfold f_X6_changeShut
  refine z_iload_n (pc := 0) dX6_changeShut_0 rfl ?_
  refine z_outIf ?_
  refine z_if_eq (pc := 1) (tgt := 8) dX6_changeShut_1 (by decide) (fun _ => ?_) (fun _ => ?_)
  · refine z_iconst (pc := 8) dX6_changeShut_8 zci_0 ?_
    refine z_drop (L' := [(0, .ref (b + q)), (1, .int a1)]) [0, 1] rfl ?_
    exact w_X6_changeShut_9 hq a1 0 μ
  · refine z_iconst (pc := 4) dX6_changeShut_4 zci_1 ?_
    refine z_goto (pc := 5) (tgt := 9) dX6_changeShut_5 (by decide) ?_
    refine z_drop (L' := [(0, .ref (b + q)), (1, .int a1)]) [0, 1] rfl ?_
    exact w_X6_changeShut_9 hq a1 1 μ

set_option maxRecDepth 20000 in
theorem c_X6_changeShut {D : va_G} {cI cL : ClassId} {b : Nat} {Z : State → Heap → Prop} {q : Nat} (hq : z_Str q) (a1 : Int32) (a2 : Int32) (μ : z_M) : z_S (zEc D cI cL b Z) 2 yX6_changeShut cX6_changeShut 4 (some .boolean) z_ei [.ref (b + q), .int a1, .int a2] μ (z_oT (f_X6_changeShut q a1 a2 μ)) :=
  z_entry (yn := yX6_changeShut) (by decide) (Nat.le_of_ble_eq_true rfl) rfl (w_X6_changeShut_0 hq a1 a2 μ)

def f_X6_changeLag (q : Nat) (a1 : Int32) (μ : z_M) : z_M :=
  z_let (z_sI μ q 5 a1) (fun m1 => z_let (g_clr (q + 6) 3 m1) (fun m2 => m2))
set_option maxRecDepth 20000 in
theorem w_X6_changeLag_0 {D : va_G} {cI cL : ClassId} {b : Nat} {Z : State → Heap → Prop} {q : Nat} (hq : z_Str q) (a1 : Int32) (μ : z_M) : z_w (zEc D cI cL b Z) (RX6, cX6_changeLag, 2, none, 1) z_ev 0 [(0, .ref (b + q)), (1, .int a1)] [] μ (z_oV (f_X6_changeLag q a1 μ)) := by
  unfold f_X6_changeLag
  refine z_aload_n (pc := 0) dX6_changeLag_0 rfl ?_
  refine z_iload_n (pc := 1) dX6_changeLag_1 rfl ?_
  refine zpI_X6_26 (pc := 2) hq.1 rfl dX6_changeLag_2 ?_
  refine z_letM (fun m1 => ?_)
  refine z_aload_n (pc := 5) dX6_changeLag_5 rfl ?_
  refine zgR_X6_23 (pc := 6) hq.1 rfl dX6_changeLag_6 ?_
  refine z_letP (fun m2 hm2 => ?_)
  refine z_callVv (pc := 9) (As := []) (S := []) (g_X1_clear hq.2.2.2.2.2.1 hq.2.2.2.2.2.2 (Nat.le_of_ble_eq_true rfl) m1) (z_pV hm2) zw_X1_clear zv_X1_clear zm_X6_71 (n := 0) (by decide) rfl (z_recv hq.2.2.2.2.2.1 (T := TX1) (N := 1) rfl) rfl (Nat.le_of_ble_eq_true rfl) (by decide) (by decide) dX6_changeLag_9 ?_
  exact z_vret (pc := 12) rfl dX6_changeLag_12

set_option maxRecDepth 20000 in
theorem c_X6_changeLag {D : va_G} {cI cL : ClassId} {b : Nat} {Z : State → Heap → Prop} {q : Nat} (hq : z_Str q) (a1 : Int32) (μ : z_M) : z_S (zEc D cI cL b Z) 1 yX6_changeLag cX6_changeLag 2 none z_ev [.ref (b + q), .int a1] μ (z_oV (f_X6_changeLag q a1 μ)) :=
  z_entry (yn := yX6_changeLag) (by decide) (Nat.le_of_ble_eq_true rfl) rfl (w_X6_changeLag_0 hq a1 μ)

def f_X6_saidAgo (q : Nat) (a1 : Int32) (μ : z_M) : Int32 :=
  (g_get (q + 6) 3 a1 μ)
set_option maxRecDepth 20000 in
theorem w_X6_saidAgo_0 {D : va_G} {cI cL : ClassId} {b : Nat} {Z : State → Heap → Prop} {q : Nat} (hq : z_Str q) (a1 : Int32) (μ : z_M) : z_w (zEc D cI cL b Z) (RX6, cX6_saidAgo, 2, (some .int), 1) z_ei 0 [(0, .ref (b + q)), (1, .int a1)] [] μ (z_oP μ (f_X6_saidAgo q a1 μ)) := by
  unfold f_X6_saidAgo
  refine z_aload_n (pc := 0) dX6_saidAgo_0 rfl ?_
  refine zgR_X6_23 (pc := 1) hq.1 rfl dX6_saidAgo_1 ?_
  refine z_iload_n (pc := 4) dX6_saidAgo_4 rfl ?_
  refine z_callVi (pc := 5) (As := [.int a1]) (S := []) (g_X1_get hq.2.2.2.2.2.1 hq.2.2.2.2.2.2 (Nat.le_of_ble_eq_true rfl) a1 μ) rfl zw_X1_get zv_X1_get zm_X6_52 (n := 1) (by decide) rfl (z_recv hq.2.2.2.2.2.1 (T := TX1) (N := 1) rfl) rfl (Nat.le_of_ble_eq_true rfl) (by decide) (by decide) dX6_saidAgo_5 ?_
  exact z_iret (pc := 8) rfl dX6_saidAgo_8

set_option maxRecDepth 20000 in
theorem c_X6_saidAgo {D : va_G} {cI cL : ClassId} {b : Nat} {Z : State → Heap → Prop} {q : Nat} (hq : z_Str q) (a1 : Int32) (μ : z_M) : z_S (zEc D cI cL b Z) 1 yX6_saidAgo cX6_saidAgo 2 (some .int) z_ei [.ref (b + q), .int a1] μ (z_oP μ (f_X6_saidAgo q a1 μ)) :=
  z_entry (yn := yX6_saidAgo) (by decide) (Nat.le_of_ble_eq_true rfl) rfl (w_X6_saidAgo_0 hq a1 μ)

def f_X6_spokenNext (q : Nat)  (μ : z_M) : Int32 :=
  (g_get (q + 6) 3 ((μ.1 q 5) - 1) μ)
set_option maxRecDepth 20000 in
theorem w_X6_spokenNext_0 {D : va_G} {cI cL : ClassId} {b : Nat} {Z : State → Heap → Prop} {q : Nat} (hq : z_Str q)  (μ : z_M) : z_w (zEc D cI cL b Z) (RX6, cX6_spokenNext, 1, (some .int), 1) z_ei 0 [(0, .ref (b + q))] [] μ (z_oP μ (f_X6_spokenNext q μ)) := by
  unfold f_X6_spokenNext
  refine z_aload_n (pc := 0) dX6_spokenNext_0 rfl ?_
  refine zgR_X6_23 (pc := 1) hq.1 rfl dX6_spokenNext_1 ?_
  refine z_aload_n (pc := 4) dX6_spokenNext_4 rfl ?_
  refine zgI_X6_26 (pc := 5) hq.1 rfl dX6_spokenNext_5 ?_
  refine z_iconst (pc := 8) dX6_spokenNext_8 zci_1 ?_
  refine z_isub (pc := 9) dX6_spokenNext_9 ?_
  refine z_callVi (pc := 10) (As := [.int ((μ.1 q 5) - 1)]) (S := []) (g_X1_get hq.2.2.2.2.2.1 hq.2.2.2.2.2.2 (Nat.le_of_ble_eq_true rfl) ((μ.1 q 5) - 1) μ) rfl zw_X1_get zv_X1_get zm_X6_52 (n := 1) (by decide) rfl (z_recv hq.2.2.2.2.2.1 (T := TX1) (N := 1) rfl) rfl (Nat.le_of_ble_eq_true rfl) (by decide) (by decide) dX6_spokenNext_10 ?_
  exact z_iret (pc := 13) rfl dX6_spokenNext_13

set_option maxRecDepth 20000 in
theorem c_X6_spokenNext {D : va_G} {cI cL : ClassId} {b : Nat} {Z : State → Heap → Prop} {q : Nat} (hq : z_Str q)  (μ : z_M) : z_S (zEc D cI cL b Z) 1 yX6_spokenNext cX6_spokenNext 1 (some .int) z_ei [.ref (b + q)] μ (z_oP μ (f_X6_spokenNext q μ)) :=
  z_entry (yn := yX6_spokenNext) (by decide) (Nat.le_of_ble_eq_true rfl) rfl (w_X6_spokenNext_0 hq  μ)

def f_X6_answerAfter_b62 (q : Nat) (l2 : Int32) (l4 : Int32) (l5 : Int32) (l6 : Int32) (l7 : Int32) (l8 : Int32) (s0 : Int32) (μ : z_M) : Int32 :=
  if (g_get (q + 2) 40 (l5 + 0) μ) = 1 then (0) else (if (g_get (q + 2) 40 (l5 + 0) μ) = 2 then ((l6 ||| l8)) else (if (g_get (q + 2) 40 (l5 + 0) μ) = 3 then (((l6 ||| l8) ||| l2)) else (if (g_get (q + 2) 40 (l5 + 0) μ) = 4 then (s0) else (if (g_get (q + 2) 40 (l5 + 0) μ) = 5 then ((((s0 <<< (1 &&& 31)) ||| (s0 >>> (7 &&& 31))) &&& 255)) else (if (g_get (q + 2) 40 (l5 + 0) μ) = 6 then (if ((g_get (q + 2) 40 (l5 + 4) μ) + l4) < l7 then (0) else (l6)) else (l6))))))
def f_X6_answerAfter (q : Nat) (a1 : Int32) (a2 : Int32) (a3 : Int32) (a4 : Int32) (μ : z_M) : Int32 :=
  z_let ((a1 * 5) : Int32) (fun x1 => z_let ((g_get (q + 2) 40 (x1 + 1) μ) : Int32) (fun x2 => z_let ((g_get (q + 2) 40 (x1 + 2) μ) : Int32) (fun x3 => z_let (((g_get (q + 2) 40 (x1 + 3) μ) ||| a3) : Int32) (fun x4 => if a2 = 0 then (f_X6_answerAfter_b62 q a2 a4 x1 x2 x3 x4 x2 μ) else (f_X6_answerAfter_b62 q a2 a4 x1 x2 x3 x4 (x2 &&& (x3 ^^^ (-1))) μ)))))
set_option maxRecDepth 20000 in
theorem w_X6_answerAfter_62 {D : va_G} {cI cL : ClassId} {b : Nat} {Z : State → Heap → Prop} {q : Nat} (hq : z_Str q) (l2 : Int32) (l4 : Int32) (l5 : Int32) (l6 : Int32) (l7 : Int32) (l8 : Int32) (s0 : Int32) (μ : z_M) : z_w (zEc D cI cL b Z) (RX6, cX6_answerAfter, 10, (some .int), 1) z_ei 62 [(0, .ref (b + q)), (2, .int l2), (4, .int l4), (5, .int l5), (6, .int l6), (7, .int l7), (8, .int l8)] [.int s0] μ (z_oP μ (f_X6_answerAfter_b62 q l2 l4 l5 l6 l7 l8 s0 μ)) := by
  unfold f_X6_answerAfter_b62
  refine z_istore (pc := 62) (L' := [(0, .ref (b + q)), (2, .int l2), (4, .int l4), (5, .int l5), (6, .int l6), (7, .int l7), (8, .int l8), (9, .int s0)]) dX6_answerAfter_62 (by decide) rfl ?_
  refine z_aload_n (pc := 64) dX6_answerAfter_64 rfl ?_
  refine zgR_X6_16 (pc := 65) hq.1 rfl dX6_answerAfter_65 ?_
  refine z_iload (pc := 68) dX6_answerAfter_68 rfl ?_
  refine z_iconst (pc := 70) dX6_answerAfter_70 zci_0 ?_
  refine z_iadd (pc := 71) dX6_answerAfter_71 ?_
  refine z_callVi (pc := 72) (As := [.int (l5 + 0)]) (S := []) (g_X1_get hq.2.1 hq.2.2.1 (Nat.le_of_ble_eq_true rfl) (l5 + 0) μ) rfl zw_X1_get zv_X1_get zm_X6_52 (n := 1) (by decide) rfl (z_recv hq.2.1 (T := TX1) (N := 1) rfl) rfl (Nat.le_of_ble_eq_true rfl) (by decide) (by decide) dX6_answerAfter_72 ?_
  refine z_outIf ?_
  refine z_split (fun hx => ?_) (fun hs75_0 => ?_)
  · refine z_tableIn (pc := 75) (x0 := 1) (off := 37) (tgt := 112) dX6_answerAfter_75 hx (by decide) (by decide) (by decide) (by decide) ?_
    refine z_iconst (pc := 112) dX6_answerAfter_112 zci_0 ?_
    exact z_iret (pc := 113) rfl dX6_answerAfter_113
  · refine z_outIf ?_
    refine z_split (fun hx => ?_) (fun hs75_1 => ?_)
    · refine z_tableIn (pc := 75) (x0 := 2) (off := 39) (tgt := 114) dX6_answerAfter_75 hx (by decide) (by decide) (by decide) (by decide) ?_
      refine z_iload (pc := 114) dX6_answerAfter_114 rfl ?_
      refine z_iload (pc := 116) dX6_answerAfter_116 rfl ?_
      refine z_ior (pc := 118) dX6_answerAfter_118 ?_
      exact z_iret (pc := 119) rfl dX6_answerAfter_119
    · refine z_outIf ?_
      refine z_split (fun hx => ?_) (fun hs75_2 => ?_)
      · refine z_tableIn (pc := 75) (x0 := 3) (off := 45) (tgt := 120) dX6_answerAfter_75 hx (by decide) (by decide) (by decide) (by decide) ?_
        refine z_iload (pc := 120) dX6_answerAfter_120 rfl ?_
        refine z_iload (pc := 122) dX6_answerAfter_122 rfl ?_
        refine z_ior (pc := 124) dX6_answerAfter_124 ?_
        refine z_iload_n (pc := 125) dX6_answerAfter_125 rfl ?_
        refine z_ior (pc := 126) dX6_answerAfter_126 ?_
        exact z_iret (pc := 127) rfl dX6_answerAfter_127
      · refine z_outIf ?_
        refine z_split (fun hx => ?_) (fun hs75_3 => ?_)
        · refine z_tableIn (pc := 75) (x0 := 4) (off := 53) (tgt := 128) dX6_answerAfter_75 hx (by decide) (by decide) (by decide) (by decide) ?_
          refine z_iload (pc := 128) dX6_answerAfter_128 rfl ?_
          exact z_iret (pc := 130) rfl dX6_answerAfter_130
        · refine z_outIf ?_
          refine z_split (fun hx => ?_) (fun hs75_4 => ?_)
          · refine z_tableIn (pc := 75) (x0 := 5) (off := 56) (tgt := 131) dX6_answerAfter_75 hx (by decide) (by decide) (by decide) (by decide) ?_
            refine z_iload (pc := 131) dX6_answerAfter_131 rfl ?_
            refine z_iconst (pc := 133) dX6_answerAfter_133 zci_1 ?_
            refine z_ishl (pc := 134) dX6_answerAfter_134 ?_
            refine z_iload (pc := 135) dX6_answerAfter_135 rfl ?_
            refine z_bipush (pc := 137) dX6_answerAfter_137 zcb_7 ?_
            refine z_ishr (pc := 139) dX6_answerAfter_139 ?_
            refine z_ior (pc := 140) dX6_answerAfter_140 ?_
            refine z_sipush (pc := 141) dX6_answerAfter_141 zcs_255 ?_
            refine z_iand (pc := 144) dX6_answerAfter_144 ?_
            exact z_iret (pc := 145) rfl dX6_answerAfter_145
          · refine z_outIf ?_
            refine z_split (fun hx => ?_) (fun hs75_5 => ?_)
            · refine z_tableIn (pc := 75) (x0 := 6) (off := 71) (tgt := 146) dX6_answerAfter_75 hx (by decide) (by decide) (by decide) (by decide) ?_
              refine z_aload_n (pc := 146) dX6_answerAfter_146 rfl ?_
              refine zgR_X6_16 (pc := 147) hq.1 rfl dX6_answerAfter_147 ?_
              refine z_iload (pc := 150) dX6_answerAfter_150 rfl ?_
              refine z_iconst (pc := 152) dX6_answerAfter_152 zci_4 ?_
              refine z_iadd (pc := 153) dX6_answerAfter_153 ?_
              refine z_callVi (pc := 154) (As := [.int (l5 + 4)]) (S := []) (g_X1_get hq.2.1 hq.2.2.1 (Nat.le_of_ble_eq_true rfl) (l5 + 4) μ) rfl zw_X1_get zv_X1_get zm_X6_52 (n := 1) (by decide) rfl (z_recv hq.2.1 (T := TX1) (N := 1) rfl) rfl (Nat.le_of_ble_eq_true rfl) (by decide) (by decide) dX6_answerAfter_154 ?_
              refine z_iload (pc := 157) dX6_answerAfter_157 rfl ?_
              refine z_iadd (pc := 159) dX6_answerAfter_159 ?_
              refine z_iload (pc := 160) dX6_answerAfter_160 rfl ?_
              refine z_outIf ?_
              refine z_icmp_lt (pc := 162) (tgt := 170) dX6_answerAfter_162 (by decide) (fun _ => ?_) (fun _ => ?_)
              · refine z_iconst (pc := 170) dX6_answerAfter_170 zci_0 ?_
                exact z_iret (pc := 171) rfl dX6_answerAfter_171
              · refine z_iload (pc := 165) dX6_answerAfter_165 rfl ?_
                refine z_goto (pc := 167) (tgt := 171) dX6_answerAfter_167 (by decide) ?_
                exact z_iret (pc := 171) rfl dX6_answerAfter_171
            · have hk0 := lv_neT hs75_0 (show Int32.toInt 1 = 1 by decide)
              have hk1 := lv_neT hs75_1 (show Int32.toInt 2 = 2 by decide)
              have hk2 := lv_neT hs75_2 (show Int32.toInt 3 = 3 by decide)
              have hk3 := lv_neT hs75_3 (show Int32.toInt 4 = 4 by decide)
              have hk4 := lv_neT hs75_4 (show Int32.toInt 5 = 5 by decide)
              have hk5 := lv_neT hs75_5 (show Int32.toInt 6 = 6 by decide)
              refine z_tableOut (pc := 75) (tgt := 172) dX6_answerAfter_75 (by omega) (by decide) ?_
              refine z_iload (pc := 172) dX6_answerAfter_172 rfl ?_
              exact z_iret (pc := 174) rfl dX6_answerAfter_174

set_option maxRecDepth 20000 in
theorem w_X6_answerAfter_0 {D : va_G} {cI cL : ClassId} {b : Nat} {Z : State → Heap → Prop} {q : Nat} (hq : z_Str q) (a1 : Int32) (a2 : Int32) (a3 : Int32) (a4 : Int32) (μ : z_M) : z_w (zEc D cI cL b Z) (RX6, cX6_answerAfter, 10, (some .int), 1) z_ei 0 [(0, .ref (b + q)), (1, .int a1), (2, .int a2), (3, .int a3), (4, .int a4)] [] μ (z_oP μ (f_X6_answerAfter q a1 a2 a3 a4 μ)) := by
  unfold f_X6_answerAfter
  refine z_iload_n (pc := 0) dX6_answerAfter_0 rfl ?_
  refine z_iconst (pc := 1) dX6_answerAfter_1 zci_5 ?_
  refine z_imul (pc := 2) dX6_answerAfter_2 ?_
  refine z_letI (fun x1 => ?_)
  refine z_istore (pc := 3) (L' := [(0, .ref (b + q)), (1, .int a1), (2, .int a2), (3, .int a3), (4, .int a4), (5, .int x1)]) dX6_answerAfter_3 (by decide) rfl ?_
  refine z_aload_n (pc := 5) dX6_answerAfter_5 rfl ?_
  refine zgR_X6_16 (pc := 6) hq.1 rfl dX6_answerAfter_6 ?_
  refine z_iload (pc := 9) dX6_answerAfter_9 rfl ?_
  refine z_iconst (pc := 11) dX6_answerAfter_11 zci_1 ?_
  refine z_iadd (pc := 12) dX6_answerAfter_12 ?_
  refine z_callVi (pc := 13) (As := [.int (x1 + 1)]) (S := []) (g_X1_get hq.2.1 hq.2.2.1 (Nat.le_of_ble_eq_true rfl) (x1 + 1) μ) rfl zw_X1_get zv_X1_get zm_X6_52 (n := 1) (by decide) rfl (z_recv hq.2.1 (T := TX1) (N := 1) rfl) rfl (Nat.le_of_ble_eq_true rfl) (by decide) (by decide) dX6_answerAfter_13 ?_
  refine z_letI (fun x2 => ?_)
  refine z_istore (pc := 16) (L' := [(0, .ref (b + q)), (1, .int a1), (2, .int a2), (3, .int a3), (4, .int a4), (5, .int x1), (6, .int x2)]) dX6_answerAfter_16 (by decide) rfl ?_
  refine z_aload_n (pc := 18) dX6_answerAfter_18 rfl ?_
  refine zgR_X6_16 (pc := 19) hq.1 rfl dX6_answerAfter_19 ?_
  refine z_iload (pc := 22) dX6_answerAfter_22 rfl ?_
  refine z_iconst (pc := 24) dX6_answerAfter_24 zci_2 ?_
  refine z_iadd (pc := 25) dX6_answerAfter_25 ?_
  refine z_callVi (pc := 26) (As := [.int (x1 + 2)]) (S := []) (g_X1_get hq.2.1 hq.2.2.1 (Nat.le_of_ble_eq_true rfl) (x1 + 2) μ) rfl zw_X1_get zv_X1_get zm_X6_52 (n := 1) (by decide) rfl (z_recv hq.2.1 (T := TX1) (N := 1) rfl) rfl (Nat.le_of_ble_eq_true rfl) (by decide) (by decide) dX6_answerAfter_26 ?_
  refine z_letI (fun x3 => ?_)
  refine z_istore (pc := 29) (L' := [(0, .ref (b + q)), (1, .int a1), (2, .int a2), (3, .int a3), (4, .int a4), (5, .int x1), (6, .int x2), (7, .int x3)]) dX6_answerAfter_29 (by decide) rfl ?_
  refine z_aload_n (pc := 31) dX6_answerAfter_31 rfl ?_
  refine zgR_X6_16 (pc := 32) hq.1 rfl dX6_answerAfter_32 ?_
  refine z_iload (pc := 35) dX6_answerAfter_35 rfl ?_
  refine z_iconst (pc := 37) dX6_answerAfter_37 zci_3 ?_
  refine z_iadd (pc := 38) dX6_answerAfter_38 ?_
  refine z_callVi (pc := 39) (As := [.int (x1 + 3)]) (S := []) (g_X1_get hq.2.1 hq.2.2.1 (Nat.le_of_ble_eq_true rfl) (x1 + 3) μ) rfl zw_X1_get zv_X1_get zm_X6_52 (n := 1) (by decide) rfl (z_recv hq.2.1 (T := TX1) (N := 1) rfl) rfl (Nat.le_of_ble_eq_true rfl) (by decide) (by decide) dX6_answerAfter_39 ?_
  refine z_iload_n (pc := 42) dX6_answerAfter_42 rfl ?_
  refine z_ior (pc := 43) dX6_answerAfter_43 ?_
  refine z_letI (fun x4 => ?_)
  refine z_istore (pc := 44) (L' := [(0, .ref (b + q)), (1, .int a1), (2, .int a2), (3, .int a3), (4, .int a4), (5, .int x1), (6, .int x2), (7, .int x3), (8, .int x4)]) dX6_answerAfter_44 (by decide) rfl ?_
  refine z_iload_n (pc := 46) dX6_answerAfter_46 rfl ?_
  refine z_outIf ?_
  refine z_if_ne (pc := 47) (tgt := 55) dX6_answerAfter_47 (by decide) (fun _ => ?_) (fun _ => ?_)
  · refine z_iload (pc := 50) dX6_answerAfter_50 rfl ?_
    refine z_goto (pc := 52) (tgt := 62) dX6_answerAfter_52 (by decide) ?_
    refine z_drop (L' := [(0, .ref (b + q)), (2, .int a2), (4, .int a4), (5, .int x1), (6, .int x2), (7, .int x3), (8, .int x4)]) [0, 2, 4, 5, 6, 7, 8] rfl ?_
    exact w_X6_answerAfter_62 hq a2 a4 x1 x2 x3 x4 x2 μ
  · refine z_iload (pc := 55) dX6_answerAfter_55 rfl ?_
    refine z_iload (pc := 57) dX6_answerAfter_57 rfl ?_
    refine z_iconst (pc := 59) dX6_answerAfter_59 zci_m1 ?_
    refine z_ixor (pc := 60) dX6_answerAfter_60 ?_
    refine z_iand (pc := 61) dX6_answerAfter_61 ?_
    refine z_drop (L' := [(0, .ref (b + q)), (2, .int a2), (4, .int a4), (5, .int x1), (6, .int x2), (7, .int x3), (8, .int x4)]) [0, 2, 4, 5, 6, 7, 8] rfl ?_
    exact w_X6_answerAfter_62 hq a2 a4 x1 x2 x3 x4 (x2 &&& (x3 ^^^ (-1))) μ

set_option maxRecDepth 20000 in
theorem c_X6_answerAfter {D : va_G} {cI cL : ClassId} {b : Nat} {Z : State → Heap → Prop} {q : Nat} (hq : z_Str q) (a1 : Int32) (a2 : Int32) (a3 : Int32) (a4 : Int32) (μ : z_M) : z_S (zEc D cI cL b Z) 1 yX6_answerAfter cX6_answerAfter 10 (some .int) z_ei [.ref (b + q), .int a1, .int a2, .int a3, .int a4] μ (z_oP μ (f_X6_answerAfter q a1 a2 a3 a4 μ)) :=
  z_entry (yn := yX6_answerAfter) (by decide) (Nat.le_of_ble_eq_true rfl) rfl (w_X6_answerAfter_0 hq a1 a2 a3 a4 μ)

def f_X6_visit_h45 (q : Nat) : Nat → Int32 → Int32 → Int32 → Int32 → z_M → Option (Int32 × z_M)
  | 0, _, _, _, _, _ => none
  | n + 1, l1, l2, l3, l4, μ =>
    if (0 : Int32) < l4 then (z_let (g_put (q + 6) 3 l4 (g_get (q + 6) 3 (l4 - 1) μ) μ) (fun m5 => f_X6_visit_h45 q n l1 l2 l3 (l4 + (-1)) m5)) else (z_let (g_put (q + 6) 3 0 l3 μ) (fun m6 => z_let (z_sI m6 q 6 l1) (fun m7 => z_let (z_sI m7 q 8 ((m7.1 q 8) + 1)) (fun m8 => some (l2, m8)))))
def f_X6_visit (q : Nat) (n : Nat) (a1 : Int32) (μ : z_M) : Option (Int32 × z_M) :=
  z_let ((f_X6_spokenNext q μ) : Int32) (fun x1 => z_let ((f_X6_answerAfter q a1 x1 0 0 μ) : Int32) (fun x2 => z_let (f_X6_keepOfHouse q a1 3 ((f_X6_ofHouse q a1 3 μ) ||| x1) μ) (fun m3 => z_let (f_X6_keepOfHouse q a1 4 ((f_X6_ofHouse q a1 4 m3) + 1) m3) (fun m4 => f_X6_visit_h45 q n a1 x1 x2 2 m4))))
set_option maxRecDepth 20000 in
theorem w_X6_visit_45 {D : va_G} {cI cL : ClassId} {b : Nat} {Z : State → Heap → Prop} {q : Nat} (hq : z_Str q) : ∀ (n : Nat) (l1 : Int32) (l2 : Int32) (l3 : Int32) (l4 : Int32) (μ : z_M), z_w (zEc D cI cL b Z) (RX6, cX6_visit, 5, (some .int), 2) z_ei 45 [(0, .ref (b + q)), (1, .int l1), (2, .int l2), (3, .int l3), (4, .int l4)] [] μ (f_X6_visit_h45 q n l1 l2 l3 l4 μ) := by
  intro n
  induction n with
  | zero =>
    intro l1 l2 l3 l4 μ
    exact z_none
  | succ n ih =>
    intro l1 l2 l3 l4 μ
    unfold f_X6_visit_h45
    refine z_iload (pc := 45) dX6_visit_45 rfl ?_
    refine z_if_le (pc := 47) (tgt := 76) dX6_visit_47 (by decide) (fun _ => ?_) (fun _ => ?_)
    · refine z_aload_n (pc := 50) dX6_visit_50 rfl ?_
      refine zgR_X6_23 (pc := 51) hq.1 rfl dX6_visit_51 ?_
      refine z_iload (pc := 54) dX6_visit_54 rfl ?_
      refine z_aload_n (pc := 56) dX6_visit_56 rfl ?_
      refine zgR_X6_23 (pc := 57) hq.1 rfl dX6_visit_57 ?_
      refine z_iload (pc := 60) dX6_visit_60 rfl ?_
      refine z_iconst (pc := 62) dX6_visit_62 zci_1 ?_
      refine z_isub (pc := 63) dX6_visit_63 ?_
      refine z_callVi (pc := 64) (As := [.int (l4 - 1)]) (S := [.int l4, .ref (b + (q + 5))]) (g_X1_get hq.2.2.2.2.2.1 hq.2.2.2.2.2.2 (Nat.le_of_ble_eq_true rfl) (l4 - 1) μ) rfl zw_X1_get zv_X1_get zm_X6_52 (n := 1) (by decide) rfl (z_recv hq.2.2.2.2.2.1 (T := TX1) (N := 1) rfl) rfl (Nat.le_of_ble_eq_true rfl) (by decide) (by decide) dX6_visit_64 ?_
      refine z_letPO (fun m5 hm5 => ?_)
      refine z_callVv (pc := 67) (As := [.int l4, .int (g_get (q + 6) 3 (l4 - 1) μ)]) (S := []) (g_X1_keep hq.2.2.2.2.2.1 hq.2.2.2.2.2.2 (Nat.le_of_ble_eq_true rfl) l4 (g_get (q + 6) 3 (l4 - 1) μ) μ) (z_pV hm5) zw_X1_keep zv_X1_keep zm_X6_56 (n := 2) (by decide) rfl (z_recv hq.2.2.2.2.2.1 (T := TX1) (N := 1) rfl) rfl (Nat.le_of_ble_eq_true rfl) (by decide) (by decide) dX6_visit_67 ?_
      refine z_iinc (pc := 70) (v := (l4 + (-1))) (L' := [(0, .ref (b + q)), (1, .int l1), (2, .int l2), (3, .int l3), (4, .int (l4 + (-1)))]) dX6_visit_70 rfl (by decide) rfl rfl ?_
      refine z_goto (pc := 73) (tgt := 45) dX6_visit_73 (by decide) ?_
      exact ih l1 l2 l3 (l4 + (-1)) m5
    · refine z_aload_n (pc := 76) dX6_visit_76 rfl ?_
      refine zgR_X6_23 (pc := 77) hq.1 rfl dX6_visit_77 ?_
      refine z_iconst (pc := 80) dX6_visit_80 zci_0 ?_
      refine z_iload_n (pc := 81) dX6_visit_81 rfl ?_
      refine z_letPO (fun m6 hm6 => ?_)
      refine z_callVv (pc := 82) (As := [.int 0, .int l3]) (S := []) (g_X1_keep hq.2.2.2.2.2.1 hq.2.2.2.2.2.2 (Nat.le_of_ble_eq_true rfl) 0 l3 μ) (z_pV hm6) zw_X1_keep zv_X1_keep zm_X6_56 (n := 2) (by decide) rfl (z_recv hq.2.2.2.2.2.1 (T := TX1) (N := 1) rfl) rfl (Nat.le_of_ble_eq_true rfl) (by decide) (by decide) dX6_visit_82 ?_
      refine z_aload_n (pc := 85) dX6_visit_85 rfl ?_
      refine z_iload_n (pc := 86) dX6_visit_86 rfl ?_
      refine zpI_X6_30 (pc := 87) hq.1 rfl dX6_visit_87 ?_
      refine z_letMO (fun m7 => ?_)
      refine z_aload_n (pc := 90) dX6_visit_90 rfl ?_
      refine z_dup (pc := 91) dX6_visit_91 rfl ?_
      refine zgI_X6_49 (pc := 92) hq.1 rfl dX6_visit_92 ?_
      refine z_iconst (pc := 95) dX6_visit_95 zci_1 ?_
      refine z_iadd (pc := 96) dX6_visit_96 ?_
      refine zpI_X6_49 (pc := 97) hq.1 rfl dX6_visit_97 ?_
      refine z_letMO (fun m8 => ?_)
      refine z_iload_n (pc := 100) dX6_visit_100 rfl ?_
      exact z_iret (pc := 101) rfl dX6_visit_101

set_option maxRecDepth 20000 in
theorem w_X6_visit_0 {D : va_G} {cI cL : ClassId} {b : Nat} {Z : State → Heap → Prop} {q : Nat} (hq : z_Str q) (n : Nat) (a1 : Int32) (μ : z_M) : z_w (zEc D cI cL b Z) (RX6, cX6_visit, 5, (some .int), 2) z_ei 0 [(0, .ref (b + q)), (1, .int a1)] [] μ ((f_X6_visit q n a1 μ)) := by
  unfold f_X6_visit
  refine z_aload_n (pc := 0) dX6_visit_0 rfl ?_
  refine z_callVi (pc := 1) (As := []) (S := []) (c_X6_spokenNext hq μ) rfl zw_X6_spokenNext zv_X6_spokenNext zm_X6_86 (n := 0) (by decide) rfl (z_recv hq.1 (T := TX6) (N := 10) rfl) rfl (Nat.le_of_ble_eq_true rfl) (by decide) (by decide) dX6_visit_1 ?_
  refine z_letIO (fun x1 => ?_)
  refine z_istore_n (pc := 4) (L' := [(0, .ref (b + q)), (1, .int a1), (2, .int x1)]) dX6_visit_4 (by decide) rfl ?_
  refine z_aload_n (pc := 5) dX6_visit_5 rfl ?_
  refine z_iload_n (pc := 6) dX6_visit_6 rfl ?_
  refine z_iload_n (pc := 7) dX6_visit_7 rfl ?_
  refine z_iconst (pc := 8) dX6_visit_8 zci_0 ?_
  refine z_iconst (pc := 9) dX6_visit_9 zci_0 ?_
  refine z_callVi (pc := 10) (As := [.int a1, .int x1, .int 0, .int 0]) (S := []) (c_X6_answerAfter hq a1 x1 0 0 μ) rfl zw_X6_answerAfter zv_X6_answerAfter zm_X6_82 (n := 4) (by decide) rfl (z_recv hq.1 (T := TX6) (N := 10) rfl) rfl (Nat.le_of_ble_eq_true rfl) (by decide) (by decide) dX6_visit_10 ?_
  refine z_letIO (fun x2 => ?_)
  refine z_istore_n (pc := 13) (L' := [(0, .ref (b + q)), (1, .int a1), (2, .int x1), (3, .int x2)]) dX6_visit_13 (by decide) rfl ?_
  refine z_aload_n (pc := 14) dX6_visit_14 rfl ?_
  refine z_iload_n (pc := 15) dX6_visit_15 rfl ?_
  refine z_iconst (pc := 16) dX6_visit_16 zci_3 ?_
  refine z_aload_n (pc := 17) dX6_visit_17 rfl ?_
  refine z_iload_n (pc := 18) dX6_visit_18 rfl ?_
  refine z_iconst (pc := 19) dX6_visit_19 zci_3 ?_
  refine z_callVi (pc := 20) (As := [.int a1, .int 3]) (S := [.int 3, .int a1, .ref (b + q)]) (c_X6_ofHouse hq a1 3 μ) rfl zw_X6_ofHouse zv_X6_ofHouse zm_X6_74 (n := 2) (by decide) rfl (z_recv hq.1 (T := TX6) (N := 10) rfl) rfl (Nat.le_of_ble_eq_true rfl) (by decide) (by decide) dX6_visit_20 ?_
  refine z_iload_n (pc := 23) dX6_visit_23 rfl ?_
  refine z_ior (pc := 24) dX6_visit_24 ?_
  refine z_letPO (fun m3 hm3 => ?_)
  refine z_callVv (pc := 25) (As := [.int a1, .int 3, .int ((f_X6_ofHouse q a1 3 μ) ||| x1)]) (S := []) (c_X6_keepOfHouse hq a1 3 ((f_X6_ofHouse q a1 3 μ) ||| x1) μ) (z_pV hm3) zw_X6_keepOfHouse zv_X6_keepOfHouse zm_X6_60 (n := 3) (by decide) rfl (z_recv hq.1 (T := TX6) (N := 10) rfl) rfl (Nat.le_of_ble_eq_true rfl) (by decide) (by decide) dX6_visit_25 ?_
  refine z_aload_n (pc := 28) dX6_visit_28 rfl ?_
  refine z_iload_n (pc := 29) dX6_visit_29 rfl ?_
  refine z_iconst (pc := 30) dX6_visit_30 zci_4 ?_
  refine z_aload_n (pc := 31) dX6_visit_31 rfl ?_
  refine z_iload_n (pc := 32) dX6_visit_32 rfl ?_
  refine z_iconst (pc := 33) dX6_visit_33 zci_4 ?_
  refine z_callVi (pc := 34) (As := [.int a1, .int 4]) (S := [.int 4, .int a1, .ref (b + q)]) (c_X6_ofHouse hq a1 4 m3) rfl zw_X6_ofHouse zv_X6_ofHouse zm_X6_74 (n := 2) (by decide) rfl (z_recv hq.1 (T := TX6) (N := 10) rfl) rfl (Nat.le_of_ble_eq_true rfl) (by decide) (by decide) dX6_visit_34 ?_
  refine z_iconst (pc := 37) dX6_visit_37 zci_1 ?_
  refine z_iadd (pc := 38) dX6_visit_38 ?_
  refine z_letPO (fun m4 hm4 => ?_)
  refine z_callVv (pc := 39) (As := [.int a1, .int 4, .int ((f_X6_ofHouse q a1 4 m3) + 1)]) (S := []) (c_X6_keepOfHouse hq a1 4 ((f_X6_ofHouse q a1 4 m3) + 1) m3) (z_pV hm4) zw_X6_keepOfHouse zv_X6_keepOfHouse zm_X6_60 (n := 3) (by decide) rfl (z_recv hq.1 (T := TX6) (N := 10) rfl) rfl (Nat.le_of_ble_eq_true rfl) (by decide) (by decide) dX6_visit_39 ?_
  refine z_iconst (pc := 42) dX6_visit_42 zci_2 ?_
  refine z_istore (pc := 43) (L' := [(0, .ref (b + q)), (1, .int a1), (2, .int x1), (3, .int x2), (4, .int 2)]) dX6_visit_43 (by decide) rfl ?_
  exact w_X6_visit_45 hq n a1 x1 x2 2 m4

set_option maxRecDepth 20000 in
theorem c_X6_visit {D : va_G} {cI cL : ClassId} {b : Nat} {Z : State → Heap → Prop} {q : Nat} (hq : z_Str q) (n : Nat) (a1 : Int32) (μ : z_M) : z_S (zEc D cI cL b Z) 2 yX6_visit cX6_visit 5 (some .int) z_ei [.ref (b + q), .int a1] μ ((f_X6_visit q n a1 μ)) :=
  z_entry (yn := yX6_visit) (by decide) (Nat.le_of_ble_eq_true rfl) rfl (w_X6_visit_0 hq n a1 μ)

def f_X6_isOpen (q : Nat) (a1 : Int32) (μ : z_M) : Int32 :=
  if (f_X6_isWay q a1 μ) = 0 then (0) else (if (f_X6_ofWay q a1 3 μ) = 0 then (1) else (0))
set_option maxRecDepth 20000 in
theorem w_X6_isOpen_0 {D : va_G} {cI cL : ClassId} {b : Nat} {Z : State → Heap → Prop} {q : Nat} (hq : z_Str q) (a1 : Int32) (μ : z_M) : z_w (zEc D cI cL b Z) (RX6, cX6_isOpen, 2, (some .boolean), 2) z_ei 0 [(0, .ref (b + q)), (1, .int a1)] [] μ (z_oP μ (f_X6_isOpen q a1 μ)) := by
  unfold f_X6_isOpen
  refine z_aload_n (pc := 0) dX6_isOpen_0 rfl ?_
  refine z_iload_n (pc := 1) dX6_isOpen_1 rfl ?_
  refine z_callVi (pc := 2) (As := [.int a1]) (S := []) (c_X6_isWay hq a1 μ) rfl zw_X6_isWay zv_X6_isWay zm_X6_90 (n := 1) (by decide) rfl (z_recv hq.1 (T := TX6) (N := 10) rfl) rfl (Nat.le_of_ble_eq_true rfl) (by decide) (by decide) dX6_isOpen_2 ?_
  refine z_outIf ?_
  refine z_if_eq (pc := 5) (tgt := 21) dX6_isOpen_5 (by decide) (fun _ => ?_) (fun _ => ?_)
  · refine z_iconst (pc := 21) dX6_isOpen_21 zci_0 ?_
    exact z_zret (pc := 22) rfl dX6_isOpen_22 (by decide)
  · refine z_aload_n (pc := 8) dX6_isOpen_8 rfl ?_
    refine z_iload_n (pc := 9) dX6_isOpen_9 rfl ?_
    refine z_iconst (pc := 10) dX6_isOpen_10 zci_3 ?_
    refine z_callVi (pc := 11) (As := [.int a1, .int 3]) (S := []) (c_X6_ofWay hq a1 3 μ) rfl zw_X6_ofWay zv_X6_ofWay zm_X6_67 (n := 2) (by decide) rfl (z_recv hq.1 (T := TX6) (N := 10) rfl) rfl (Nat.le_of_ble_eq_true rfl) (by decide) (by decide) dX6_isOpen_11 ?_
    refine z_outIf ?_
    refine z_if_ne (pc := 14) (tgt := 21) dX6_isOpen_14 (by decide) (fun _ => ?_) (fun _ => ?_)
    · refine z_iconst (pc := 17) dX6_isOpen_17 zci_1 ?_
      refine z_goto (pc := 18) (tgt := 22) dX6_isOpen_18 (by decide) ?_
      exact z_zret (pc := 22) rfl dX6_isOpen_22 (by decide)
    · refine z_iconst (pc := 21) dX6_isOpen_21 zci_0 ?_
      exact z_zret (pc := 22) rfl dX6_isOpen_22 (by decide)

set_option maxRecDepth 20000 in
theorem c_X6_isOpen {D : va_G} {cI cL : ClassId} {b : Nat} {Z : State → Heap → Prop} {q : Nat} (hq : z_Str q) (a1 : Int32) (μ : z_M) : z_S (zEc D cI cL b Z) 2 yX6_isOpen cX6_isOpen 2 (some .boolean) z_ei [.ref (b + q), .int a1] μ (z_oP μ (f_X6_isOpen q a1 μ)) :=
  z_entry (yn := yX6_isOpen) (by decide) (Nat.le_of_ble_eq_true rfl) rfl (w_X6_isOpen_0 hq a1 μ)
set_option maxRecDepth 20000 in
theorem bl_X6_isOpen (q : Nat) (a1 : Int32) (μ : z_M) : f_X6_isOpen q a1 μ = 0 ∨ f_X6_isOpen q a1 μ = 1 := by
  unfold f_X6_isOpen
  repeat' (first | with_reducible exact z_bl0 | with_reducible exact z_bl1 | with_reducible apply bl_X6_isWay | with_reducible refine z_blI ?_ ?_ | with_reducible refine z_blL (fun _ => ?_))

def f_X6_isOpenAt_b25 (q : Nat) (l1 : Int32) (s0 : Int32) (μ : z_M) : Int32 :=
  if (f_X6_isWay q l1 μ) = 0 then (0) else (if s0 = 0 then (0) else (if (f_X6_ofWay q l1 3 μ) = 0 then (1) else (0)))
def f_X6_isOpenAt_b20 (q : Nat) (l1 : Int32) (μ : z_M) : Int32 :=
  f_X6_isOpenAt_b25 q l1 1 μ
def f_X6_isOpenAt (q : Nat) (a1 : Int32) (a2 : Int32) (μ : z_M) : Int32 :=
  if (f_X6_ofWay q a1 0 μ) = a2 then (f_X6_isOpenAt_b20 q a1 μ) else (if (f_X6_ofWay q a1 1 μ) = a2 then (f_X6_isOpenAt_b20 q a1 μ) else (f_X6_isOpenAt_b25 q a1 0 μ))
set_option maxRecDepth 20000 in
theorem w_X6_isOpenAt_25 {D : va_G} {cI cL : ClassId} {b : Nat} {Z : State → Heap → Prop} {q : Nat} (hq : z_Str q) (l1 : Int32) (s0 : Int32) (μ : z_M) : z_w (zEc D cI cL b Z) (RX6, cX6_isOpenAt, 4, (some .boolean), 2) z_ei 25 [(0, .ref (b + q)), (1, .int l1)] [.int s0] μ (z_oP μ (f_X6_isOpenAt_b25 q l1 s0 μ)) := by
  unfold f_X6_isOpenAt_b25
  refine z_istore_n (pc := 25) (L' := [(0, .ref (b + q)), (1, .int l1), (3, .int s0)]) dX6_isOpenAt_25 (by decide) rfl ?_
  refine z_aload_n (pc := 26) dX6_isOpenAt_26 rfl ?_
  refine z_iload_n (pc := 27) dX6_isOpenAt_27 rfl ?_
  refine z_callVi (pc := 28) (As := [.int l1]) (S := []) (c_X6_isWay hq l1 μ) rfl zw_X6_isWay zv_X6_isWay zm_X6_90 (n := 1) (by decide) rfl (z_recv hq.1 (T := TX6) (N := 10) rfl) rfl (Nat.le_of_ble_eq_true rfl) (by decide) (by decide) dX6_isOpenAt_28 ?_
  refine z_outIf ?_
  refine z_if_eq (pc := 31) (tgt := 51) dX6_isOpenAt_31 (by decide) (fun _ => ?_) (fun _ => ?_)
  · refine z_iconst (pc := 51) dX6_isOpenAt_51 zci_0 ?_
    exact z_zret (pc := 52) rfl dX6_isOpenAt_52 (by decide)
  · refine z_iload_n (pc := 34) dX6_isOpenAt_34 rfl ?_
    refine z_outIf ?_
    refine z_if_eq (pc := 35) (tgt := 51) dX6_isOpenAt_35 (by decide) (fun _ => ?_) (fun _ => ?_)
    · refine z_iconst (pc := 51) dX6_isOpenAt_51 zci_0 ?_
      exact z_zret (pc := 52) rfl dX6_isOpenAt_52 (by decide)
    · refine z_aload_n (pc := 38) dX6_isOpenAt_38 rfl ?_
      refine z_iload_n (pc := 39) dX6_isOpenAt_39 rfl ?_
      refine z_iconst (pc := 40) dX6_isOpenAt_40 zci_3 ?_
      refine z_callVi (pc := 41) (As := [.int l1, .int 3]) (S := []) (c_X6_ofWay hq l1 3 μ) rfl zw_X6_ofWay zv_X6_ofWay zm_X6_67 (n := 2) (by decide) rfl (z_recv hq.1 (T := TX6) (N := 10) rfl) rfl (Nat.le_of_ble_eq_true rfl) (by decide) (by decide) dX6_isOpenAt_41 ?_
      refine z_outIf ?_
      refine z_if_ne (pc := 44) (tgt := 51) dX6_isOpenAt_44 (by decide) (fun _ => ?_) (fun _ => ?_)
      · refine z_iconst (pc := 47) dX6_isOpenAt_47 zci_1 ?_
        refine z_goto (pc := 48) (tgt := 52) dX6_isOpenAt_48 (by decide) ?_
        exact z_zret (pc := 52) rfl dX6_isOpenAt_52 (by decide)
      · refine z_iconst (pc := 51) dX6_isOpenAt_51 zci_0 ?_
        exact z_zret (pc := 52) rfl dX6_isOpenAt_52 (by decide)

set_option maxRecDepth 20000 in
theorem w_X6_isOpenAt_20 {D : va_G} {cI cL : ClassId} {b : Nat} {Z : State → Heap → Prop} {q : Nat} (hq : z_Str q) (l1 : Int32) (μ : z_M) : z_w (zEc D cI cL b Z) (RX6, cX6_isOpenAt, 4, (some .boolean), 2) z_ei 20 [(0, .ref (b + q)), (1, .int l1)] [] μ (z_oP μ (f_X6_isOpenAt_b20 q l1 μ)) := by
  unfold f_X6_isOpenAt_b20
  refine z_iconst (pc := 20) dX6_isOpenAt_20 zci_1 ?_
  refine z_goto (pc := 21) (tgt := 25) dX6_isOpenAt_21 (by decide) ?_
  exact w_X6_isOpenAt_25 hq l1 1 μ

set_option maxRecDepth 20000 in
theorem w_X6_isOpenAt_0 {D : va_G} {cI cL : ClassId} {b : Nat} {Z : State → Heap → Prop} {q : Nat} (hq : z_Str q) (a1 : Int32) (a2 : Int32) (μ : z_M) : z_w (zEc D cI cL b Z) (RX6, cX6_isOpenAt, 4, (some .boolean), 2) z_ei 0 [(0, .ref (b + q)), (1, .int a1), (2, .int a2)] [] μ (z_oP μ (f_X6_isOpenAt q a1 a2 μ)) := by
  unfold f_X6_isOpenAt
  refine z_aload_n (pc := 0) dX6_isOpenAt_0 rfl ?_
  refine z_iload_n (pc := 1) dX6_isOpenAt_1 rfl ?_
  refine z_iconst (pc := 2) dX6_isOpenAt_2 zci_0 ?_
  refine z_callVi (pc := 3) (As := [.int a1, .int 0]) (S := []) (c_X6_ofWay hq a1 0 μ) rfl zw_X6_ofWay zv_X6_ofWay zm_X6_67 (n := 2) (by decide) rfl (z_recv hq.1 (T := TX6) (N := 10) rfl) rfl (Nat.le_of_ble_eq_true rfl) (by decide) (by decide) dX6_isOpenAt_3 ?_
  refine z_iload_n (pc := 6) dX6_isOpenAt_6 rfl ?_
  refine z_outIf ?_
  refine z_icmp_eq (pc := 7) (tgt := 20) dX6_isOpenAt_7 (by decide) (fun _ => ?_) (fun _ => ?_)
  · refine z_drop (L' := [(0, .ref (b + q)), (1, .int a1)]) [0, 1] rfl ?_
    exact w_X6_isOpenAt_20 hq a1 μ
  · refine z_aload_n (pc := 10) dX6_isOpenAt_10 rfl ?_
    refine z_iload_n (pc := 11) dX6_isOpenAt_11 rfl ?_
    refine z_iconst (pc := 12) dX6_isOpenAt_12 zci_1 ?_
    refine z_callVi (pc := 13) (As := [.int a1, .int 1]) (S := []) (c_X6_ofWay hq a1 1 μ) rfl zw_X6_ofWay zv_X6_ofWay zm_X6_67 (n := 2) (by decide) rfl (z_recv hq.1 (T := TX6) (N := 10) rfl) rfl (Nat.le_of_ble_eq_true rfl) (by decide) (by decide) dX6_isOpenAt_13 ?_
    refine z_iload_n (pc := 16) dX6_isOpenAt_16 rfl ?_
    refine z_outIf ?_
    refine z_icmp_ne (pc := 17) (tgt := 24) dX6_isOpenAt_17 (by decide) (fun _ => ?_) (fun _ => ?_)
    · refine z_drop (L' := [(0, .ref (b + q)), (1, .int a1)]) [0, 1] rfl ?_
      exact w_X6_isOpenAt_20 hq a1 μ
    · refine z_iconst (pc := 24) dX6_isOpenAt_24 zci_0 ?_
      refine z_drop (L' := [(0, .ref (b + q)), (1, .int a1)]) [0, 1] rfl ?_
      exact w_X6_isOpenAt_25 hq a1 0 μ

set_option maxRecDepth 20000 in
theorem c_X6_isOpenAt {D : va_G} {cI cL : ClassId} {b : Nat} {Z : State → Heap → Prop} {q : Nat} (hq : z_Str q) (a1 : Int32) (a2 : Int32) (μ : z_M) : z_S (zEc D cI cL b Z) 2 yX6_isOpenAt cX6_isOpenAt 4 (some .boolean) z_ei [.ref (b + q), .int a1, .int a2] μ (z_oP μ (f_X6_isOpenAt q a1 a2 μ)) :=
  z_entry (yn := yX6_isOpenAt) (by decide) (Nat.le_of_ble_eq_true rfl) rfl (w_X6_isOpenAt_0 hq a1 a2 μ)
set_option maxRecDepth 20000 in
theorem bl_X6_isOpenAt (q : Nat) (a1 : Int32) (a2 : Int32) (μ : z_M) : f_X6_isOpenAt q a1 a2 μ = 0 ∨ f_X6_isOpenAt q a1 a2 μ = 1 := by
  unfold f_X6_isOpenAt
  try simp only [f_X6_isOpenAt_b20, f_X6_isOpenAt_b25]
  repeat' (first | with_reducible exact z_bl0 | with_reducible exact z_bl1 | with_reducible apply bl_X6_isWay | with_reducible refine z_blI ?_ ?_ | with_reducible refine z_blL (fun _ => ?_))

def f_X6_canGoBy (q : Nat) (a1 : Int32) (μ : z_M) : Int32 :=
  if (f_X6_hasBird q μ) = 0 then (0) else (if (f_X6_isOpenAt q a1 (μ.1 q 6) μ) = 0 then (0) else (1))
set_option maxRecDepth 20000 in
theorem w_X6_canGoBy_0 {D : va_G} {cI cL : ClassId} {b : Nat} {Z : State → Heap → Prop} {q : Nat} (hq : z_Str q) (a1 : Int32) (μ : z_M) : z_w (zEc D cI cL b Z) (RX6, cX6_canGoBy, 2, (some .boolean), 3) z_ei 0 [(0, .ref (b + q)), (1, .int a1)] [] μ (z_oP μ (f_X6_canGoBy q a1 μ)) := by
  unfold f_X6_canGoBy
  refine z_aload_n (pc := 0) dX6_canGoBy_0 rfl ?_
  refine z_callVi (pc := 1) (As := []) (S := []) (c_X6_hasBird hq μ) rfl zw_X6_hasBird zv_X6_hasBird zm_X6_94 (n := 0) (by decide) rfl (z_recv hq.1 (T := TX6) (N := 10) rfl) rfl (Nat.le_of_ble_eq_true rfl) (by decide) (by decide) dX6_canGoBy_1 ?_
  refine z_outIf ?_
  refine z_if_eq (pc := 4) (tgt := 23) dX6_canGoBy_4 (by decide) (fun _ => ?_) (fun _ => ?_)
  · refine z_iconst (pc := 23) dX6_canGoBy_23 zci_0 ?_
    exact z_zret (pc := 24) rfl dX6_canGoBy_24 (by decide)
  · refine z_aload_n (pc := 7) dX6_canGoBy_7 rfl ?_
    refine z_iload_n (pc := 8) dX6_canGoBy_8 rfl ?_
    refine z_aload_n (pc := 9) dX6_canGoBy_9 rfl ?_
    refine zgI_X6_30 (pc := 10) hq.1 rfl dX6_canGoBy_10 ?_
    refine z_callVi (pc := 13) (As := [.int a1, .int (μ.1 q 6)]) (S := []) (c_X6_isOpenAt hq a1 (μ.1 q 6) μ) rfl zw_X6_isOpenAt zv_X6_isOpenAt zm_X6_98 (n := 2) (by decide) rfl (z_recv hq.1 (T := TX6) (N := 10) rfl) rfl (Nat.le_of_ble_eq_true rfl) (by decide) (by decide) dX6_canGoBy_13 ?_
    refine z_outIf ?_
    refine z_if_eq (pc := 16) (tgt := 23) dX6_canGoBy_16 (by decide) (fun _ => ?_) (fun _ => ?_)
    · refine z_iconst (pc := 23) dX6_canGoBy_23 zci_0 ?_
      exact z_zret (pc := 24) rfl dX6_canGoBy_24 (by decide)
    · refine z_iconst (pc := 19) dX6_canGoBy_19 zci_1 ?_
      refine z_goto (pc := 20) (tgt := 24) dX6_canGoBy_20 (by decide) ?_
      exact z_zret (pc := 24) rfl dX6_canGoBy_24 (by decide)

set_option maxRecDepth 20000 in
theorem c_X6_canGoBy {D : va_G} {cI cL : ClassId} {b : Nat} {Z : State → Heap → Prop} {q : Nat} (hq : z_Str q) (a1 : Int32) (μ : z_M) : z_S (zEc D cI cL b Z) 3 yX6_canGoBy cX6_canGoBy 2 (some .boolean) z_ei [.ref (b + q), .int a1] μ (z_oP μ (f_X6_canGoBy q a1 μ)) :=
  z_entry (yn := yX6_canGoBy) (by decide) (Nat.le_of_ble_eq_true rfl) rfl (w_X6_canGoBy_0 hq a1 μ)
set_option maxRecDepth 20000 in
theorem bl_X6_canGoBy (q : Nat) (a1 : Int32) (μ : z_M) : f_X6_canGoBy q a1 μ = 0 ∨ f_X6_canGoBy q a1 μ = 1 := by
  unfold f_X6_canGoBy
  repeat' (first | with_reducible exact z_bl0 | with_reducible exact z_bl1 | with_reducible apply bl_X6_hasBird | with_reducible apply bl_X6_isOpenAt | with_reducible refine z_blI ?_ ?_ | with_reducible refine z_blL (fun _ => ?_))

def f_X6_goBy_b44 (q : Nat) (n : Nat) (s0 : Int32) (μ : z_M) : Option (Int32 × z_M) :=
  z_bind (f_X6_visit q n s0 μ) (fun p2 => some (p2.1, p2.2))
def f_X6_goBy (q : Nat) (n : Nat) (a1 : Int32) (μ : z_M) : Option (Int32 × z_M) :=
  z_let (z_sI μ q 7 ((μ.1 q 7) + (f_X6_ofWay q a1 2 μ))) (fun m1 => if (f_X6_ofWay q a1 0 m1) = (m1.1 q 6) then (f_X6_goBy_b44 q n (f_X6_ofWay q a1 1 m1) m1) else (f_X6_goBy_b44 q n (f_X6_ofWay q a1 0 m1) m1))
set_option maxRecDepth 20000 in
theorem w_X6_goBy_44 {D : va_G} {cI cL : ClassId} {b : Nat} {Z : State → Heap → Prop} {q : Nat} (hq : z_Str q) (n : Nat) (s0 : Int32) (μ : z_M) : z_w (zEc D cI cL b Z) (RX6, cX6_goBy, 2, (some .int), 3) z_ei 44 [] [.int s0, .ref (b + q)] μ ((f_X6_goBy_b44 q n s0 μ)) := by
  unfold f_X6_goBy_b44
  refine z_bindP (fun p2 hp2 => ?_)
  refine z_callVi (pc := 44) (As := [.int s0]) (S := []) (c_X6_visit hq n s0 μ) hp2 zw_X6_visit zv_X6_visit zm_X6_102 (n := 1) (by decide) rfl (z_recv hq.1 (T := TX6) (N := 10) rfl) rfl (Nat.le_of_ble_eq_true rfl) (by decide) (by decide) dX6_goBy_44 ?_
  exact z_iret (pc := 47) rfl dX6_goBy_47

set_option maxRecDepth 20000 in
theorem w_X6_goBy_0 {D : va_G} {cI cL : ClassId} {b : Nat} {Z : State → Heap → Prop} {q : Nat} (hq : z_Str q) (n : Nat) (a1 : Int32) (μ : z_M) : z_w (zEc D cI cL b Z) (RX6, cX6_goBy, 2, (some .int), 3) z_ei 0 [(0, .ref (b + q)), (1, .int a1)] [] μ ((f_X6_goBy q n a1 μ)) := by
  unfold f_X6_goBy
  refine z_aload_n (pc := 0) dX6_goBy_0 rfl ?_
  refine z_dup (pc := 1) dX6_goBy_1 rfl ?_
  refine zgI_X6_46 (pc := 2) hq.1 rfl dX6_goBy_2 ?_
  refine z_aload_n (pc := 5) dX6_goBy_5 rfl ?_
  refine z_iload_n (pc := 6) dX6_goBy_6 rfl ?_
  refine z_iconst (pc := 7) dX6_goBy_7 zci_2 ?_
  refine z_callVi (pc := 8) (As := [.int a1, .int 2]) (S := [.int (μ.1 q 7), .ref (b + q)]) (c_X6_ofWay hq a1 2 μ) rfl zw_X6_ofWay zv_X6_ofWay zm_X6_67 (n := 2) (by decide) rfl (z_recv hq.1 (T := TX6) (N := 10) rfl) rfl (Nat.le_of_ble_eq_true rfl) (by decide) (by decide) dX6_goBy_8 ?_
  refine z_iadd (pc := 11) dX6_goBy_11 ?_
  refine zpI_X6_46 (pc := 12) hq.1 rfl dX6_goBy_12 ?_
  refine z_letMO (fun m1 => ?_)
  refine z_aload_n (pc := 15) dX6_goBy_15 rfl ?_
  refine z_aload_n (pc := 16) dX6_goBy_16 rfl ?_
  refine z_iload_n (pc := 17) dX6_goBy_17 rfl ?_
  refine z_iconst (pc := 18) dX6_goBy_18 zci_0 ?_
  refine z_callVi (pc := 19) (As := [.int a1, .int 0]) (S := [.ref (b + q)]) (c_X6_ofWay hq a1 0 m1) rfl zw_X6_ofWay zv_X6_ofWay zm_X6_67 (n := 2) (by decide) rfl (z_recv hq.1 (T := TX6) (N := 10) rfl) rfl (Nat.le_of_ble_eq_true rfl) (by decide) (by decide) dX6_goBy_19 ?_
  refine z_aload_n (pc := 22) dX6_goBy_22 rfl ?_
  refine zgI_X6_30 (pc := 23) hq.1 rfl dX6_goBy_23 ?_
  refine z_icmp_ne (pc := 26) (tgt := 38) dX6_goBy_26 (by decide) (fun _ => ?_) (fun _ => ?_)
  · refine z_aload_n (pc := 29) dX6_goBy_29 rfl ?_
    refine z_iload_n (pc := 30) dX6_goBy_30 rfl ?_
    refine z_iconst (pc := 31) dX6_goBy_31 zci_1 ?_
    refine z_callVi (pc := 32) (As := [.int a1, .int 1]) (S := [.ref (b + q)]) (c_X6_ofWay hq a1 1 m1) rfl zw_X6_ofWay zv_X6_ofWay zm_X6_67 (n := 2) (by decide) rfl (z_recv hq.1 (T := TX6) (N := 10) rfl) rfl (Nat.le_of_ble_eq_true rfl) (by decide) (by decide) dX6_goBy_32 ?_
    refine z_goto (pc := 35) (tgt := 44) dX6_goBy_35 (by decide) ?_
    refine z_drop (L' := []) [] rfl ?_
    exact w_X6_goBy_44 hq n (f_X6_ofWay q a1 1 m1) m1
  · refine z_aload_n (pc := 38) dX6_goBy_38 rfl ?_
    refine z_iload_n (pc := 39) dX6_goBy_39 rfl ?_
    refine z_iconst (pc := 40) dX6_goBy_40 zci_0 ?_
    refine z_callVi (pc := 41) (As := [.int a1, .int 0]) (S := [.ref (b + q)]) (c_X6_ofWay hq a1 0 m1) rfl zw_X6_ofWay zv_X6_ofWay zm_X6_67 (n := 2) (by decide) rfl (z_recv hq.1 (T := TX6) (N := 10) rfl) rfl (Nat.le_of_ble_eq_true rfl) (by decide) (by decide) dX6_goBy_41 ?_
    refine z_drop (L' := []) [] rfl ?_
    exact w_X6_goBy_44 hq n (f_X6_ofWay q a1 0 m1) m1

set_option maxRecDepth 20000 in
theorem c_X6_goBy {D : va_G} {cI cL : ClassId} {b : Nat} {Z : State → Heap → Prop} {q : Nat} (hq : z_Str q) (n : Nat) (a1 : Int32) (μ : z_M) : z_S (zEc D cI cL b Z) 3 yX6_goBy cX6_goBy 2 (some .int) z_ei [.ref (b + q), .int a1] μ ((f_X6_goBy q n a1 μ)) :=
  z_entry (yn := yX6_goBy) (by decide) (Nat.le_of_ble_eq_true rfl) rfl (w_X6_goBy_0 hq n a1 μ)

def f_X6_openWays_b24 (q : Nat) (r4 : Int32 → Int32 → z_M → Option (Int32 × z_M)) (n : Nat) (l1 : Int32) (l2 : Int32) (μ : z_M) : Option (Int32 × z_M) :=
  r4 l1 (l2 + 1) μ
def f_X6_openWays_h4 (q : Nat) : Nat → Int32 → Int32 → z_M → Option (Int32 × z_M)
  | 0, _, _, _ => none
  | n + 1, l1, l2, μ =>
    if l2 < 12 then (if (f_X6_isOpen q l2 μ) = 0 then (f_X6_openWays_b24 q (f_X6_openWays_h4 q n) n l1 l2 μ) else (z_let ((l1 ||| (1 <<< (l2 &&& 31))) : Int32) (fun x1 => f_X6_openWays_b24 q (f_X6_openWays_h4 q n) n x1 l2 μ))) else (some (l1, μ))
def f_X6_openWays (q : Nat) (n : Nat)  (μ : z_M) : Option (Int32 × z_M) :=
  f_X6_openWays_h4 q n 0 0 μ
set_option maxRecDepth 20000 in
theorem w_X6_openWays_24 {D : va_G} {cI cL : ClassId} {b : Nat} {Z : State → Heap → Prop} {q : Nat} (hq : z_Str q) (r4 : Int32 → Int32 → z_M → Option (Int32 × z_M)) (hr4 : ∀ (l1 : Int32) (l2 : Int32) (μ : z_M), z_w (zEc D cI cL b Z) (RX6, cX6_openWays, 3, (some .int), 3) z_ei 4 [(0, .ref (b + q)), (1, .int l1), (2, .int l2)] [] μ ((r4 l1 l2 μ))) (n : Nat) (l1 : Int32) (l2 : Int32) (μ : z_M) : z_w (zEc D cI cL b Z) (RX6, cX6_openWays, 3, (some .int), 3) z_ei 24 [(0, .ref (b + q)), (1, .int l1), (2, .int l2)] [] μ ((f_X6_openWays_b24 q r4 n l1 l2 μ)) := by
  unfold f_X6_openWays_b24
  refine z_iinc (pc := 24) (v := (l2 + 1)) (L' := [(0, .ref (b + q)), (1, .int l1), (2, .int (l2 + 1))]) dX6_openWays_24 rfl (by decide) rfl rfl ?_
  refine z_goto (pc := 27) (tgt := 4) dX6_openWays_27 (by decide) ?_
  exact hr4 l1 (l2 + 1) μ

set_option maxRecDepth 20000 in
theorem w_X6_openWays_4 {D : va_G} {cI cL : ClassId} {b : Nat} {Z : State → Heap → Prop} {q : Nat} (hq : z_Str q) : ∀ (n : Nat) (l1 : Int32) (l2 : Int32) (μ : z_M), z_w (zEc D cI cL b Z) (RX6, cX6_openWays, 3, (some .int), 3) z_ei 4 [(0, .ref (b + q)), (1, .int l1), (2, .int l2)] [] μ (f_X6_openWays_h4 q n l1 l2 μ) := by
  intro n
  induction n with
  | zero =>
    intro l1 l2 μ
    exact z_none
  | succ n ih =>
    intro l1 l2 μ
    unfold f_X6_openWays_h4
    refine z_iload_n (pc := 4) dX6_openWays_4 rfl ?_
    refine z_bipush (pc := 5) dX6_openWays_5 zcb_12 ?_
    refine z_icmp_ge (pc := 7) (tgt := 30) dX6_openWays_7 (by decide) (fun _ => ?_) (fun _ => ?_)
    · refine z_aload_n (pc := 10) dX6_openWays_10 rfl ?_
      refine z_iload_n (pc := 11) dX6_openWays_11 rfl ?_
      refine z_callVi (pc := 12) (As := [.int l2]) (S := []) (c_X6_isOpen hq l2 μ) rfl zw_X6_isOpen zv_X6_isOpen zm_X6_105 (n := 1) (by decide) rfl (z_recv hq.1 (T := TX6) (N := 10) rfl) rfl (Nat.le_of_ble_eq_true rfl) (by decide) (by decide) dX6_openWays_12 ?_
      refine z_if_eq (pc := 15) (tgt := 24) dX6_openWays_15 (by decide) (fun _ => ?_) (fun _ => ?_)
      · exact w_X6_openWays_24 hq _ ih n l1 l2 μ
      · refine z_iload_n (pc := 18) dX6_openWays_18 rfl ?_
        refine z_iconst (pc := 19) dX6_openWays_19 zci_1 ?_
        refine z_iload_n (pc := 20) dX6_openWays_20 rfl ?_
        refine z_ishl (pc := 21) dX6_openWays_21 ?_
        refine z_ior (pc := 22) dX6_openWays_22 ?_
        refine z_letIO (fun x1 => ?_)
        refine z_istore_n (pc := 23) (L' := [(0, .ref (b + q)), (1, .int x1), (2, .int l2)]) dX6_openWays_23 (by decide) rfl ?_
        exact w_X6_openWays_24 hq _ ih n x1 l2 μ
    · refine z_iload_n (pc := 30) dX6_openWays_30 rfl ?_
      exact z_iret (pc := 31) rfl dX6_openWays_31

set_option maxRecDepth 20000 in
theorem w_X6_openWays_0 {D : va_G} {cI cL : ClassId} {b : Nat} {Z : State → Heap → Prop} {q : Nat} (hq : z_Str q) (n : Nat)  (μ : z_M) : z_w (zEc D cI cL b Z) (RX6, cX6_openWays, 3, (some .int), 3) z_ei 0 [(0, .ref (b + q))] [] μ ((f_X6_openWays q n μ)) := by
  unfold f_X6_openWays
  refine z_iconst (pc := 0) dX6_openWays_0 zci_0 ?_
  refine z_istore_n (pc := 1) (L' := [(0, .ref (b + q)), (1, .int 0)]) dX6_openWays_1 (by decide) rfl ?_
  refine z_iconst (pc := 2) dX6_openWays_2 zci_0 ?_
  refine z_istore_n (pc := 3) (L' := [(0, .ref (b + q)), (1, .int 0), (2, .int 0)]) dX6_openWays_3 (by decide) rfl ?_
  exact w_X6_openWays_4 hq n 0 0 μ

set_option maxRecDepth 20000 in
theorem c_X6_openWays {D : va_G} {cI cL : ClassId} {b : Nat} {Z : State → Heap → Prop} {q : Nat} (hq : z_Str q) (n : Nat)  (μ : z_M) : z_S (zEc D cI cL b Z) 3 yX6_openWays cX6_openWays 3 (some .int) z_ei [.ref (b + q)] μ ((f_X6_openWays q n μ)) :=
  z_entry (yn := yX6_openWays) (by decide) (Nat.le_of_ble_eq_true rfl) rfl (w_X6_openWays_0 hq n  μ)

def f_X6_openWaysAt_b22 (q : Nat) (r4 : Int32 → Int32 → Int32 → z_M → Option (Int32 × z_M)) (n : Nat) (l1 : Int32) (l2 : Int32) (l3 : Int32) (μ : z_M) : Option (Int32 × z_M) :=
  r4 l1 l2 (l3 + 1) μ
def f_X6_openWaysAt_h4 (q : Nat) : Nat → Int32 → Int32 → Int32 → z_M → Option (Int32 × z_M)
  | 0, _, _, _, _ => none
  | n + 1, l1, l2, l3, μ =>
    if l3 < 12 then (if (f_X6_isOpenAt q l3 l1 μ) = 0 then (f_X6_openWaysAt_b22 q (f_X6_openWaysAt_h4 q n) n l1 l2 l3 μ) else (f_X6_openWaysAt_b22 q (f_X6_openWaysAt_h4 q n) n l1 (l2 + 1) l3 μ)) else (some (l2, μ))
def f_X6_openWaysAt (q : Nat) (n : Nat) (a1 : Int32) (μ : z_M) : Option (Int32 × z_M) :=
  f_X6_openWaysAt_h4 q n a1 0 0 μ
set_option maxRecDepth 20000 in
theorem w_X6_openWaysAt_22 {D : va_G} {cI cL : ClassId} {b : Nat} {Z : State → Heap → Prop} {q : Nat} (hq : z_Str q) (r4 : Int32 → Int32 → Int32 → z_M → Option (Int32 × z_M)) (hr4 : ∀ (l1 : Int32) (l2 : Int32) (l3 : Int32) (μ : z_M), z_w (zEc D cI cL b Z) (RX6, cX6_openWaysAt, 4, (some .int), 3) z_ei 4 [(0, .ref (b + q)), (1, .int l1), (2, .int l2), (3, .int l3)] [] μ ((r4 l1 l2 l3 μ))) (n : Nat) (l1 : Int32) (l2 : Int32) (l3 : Int32) (μ : z_M) : z_w (zEc D cI cL b Z) (RX6, cX6_openWaysAt, 4, (some .int), 3) z_ei 22 [(0, .ref (b + q)), (1, .int l1), (2, .int l2), (3, .int l3)] [] μ ((f_X6_openWaysAt_b22 q r4 n l1 l2 l3 μ)) := by
  unfold f_X6_openWaysAt_b22
  refine z_iinc (pc := 22) (v := (l3 + 1)) (L' := [(0, .ref (b + q)), (1, .int l1), (2, .int l2), (3, .int (l3 + 1))]) dX6_openWaysAt_22 rfl (by decide) rfl rfl ?_
  refine z_goto (pc := 25) (tgt := 4) dX6_openWaysAt_25 (by decide) ?_
  exact hr4 l1 l2 (l3 + 1) μ

set_option maxRecDepth 20000 in
theorem w_X6_openWaysAt_4 {D : va_G} {cI cL : ClassId} {b : Nat} {Z : State → Heap → Prop} {q : Nat} (hq : z_Str q) : ∀ (n : Nat) (l1 : Int32) (l2 : Int32) (l3 : Int32) (μ : z_M), z_w (zEc D cI cL b Z) (RX6, cX6_openWaysAt, 4, (some .int), 3) z_ei 4 [(0, .ref (b + q)), (1, .int l1), (2, .int l2), (3, .int l3)] [] μ (f_X6_openWaysAt_h4 q n l1 l2 l3 μ) := by
  intro n
  induction n with
  | zero =>
    intro l1 l2 l3 μ
    exact z_none
  | succ n ih =>
    intro l1 l2 l3 μ
    unfold f_X6_openWaysAt_h4
    refine z_iload_n (pc := 4) dX6_openWaysAt_4 rfl ?_
    refine z_bipush (pc := 5) dX6_openWaysAt_5 zcb_12 ?_
    refine z_icmp_ge (pc := 7) (tgt := 28) dX6_openWaysAt_7 (by decide) (fun _ => ?_) (fun _ => ?_)
    · refine z_aload_n (pc := 10) dX6_openWaysAt_10 rfl ?_
      refine z_iload_n (pc := 11) dX6_openWaysAt_11 rfl ?_
      refine z_iload_n (pc := 12) dX6_openWaysAt_12 rfl ?_
      refine z_callVi (pc := 13) (As := [.int l3, .int l1]) (S := []) (c_X6_isOpenAt hq l3 l1 μ) rfl zw_X6_isOpenAt zv_X6_isOpenAt zm_X6_98 (n := 2) (by decide) rfl (z_recv hq.1 (T := TX6) (N := 10) rfl) rfl (Nat.le_of_ble_eq_true rfl) (by decide) (by decide) dX6_openWaysAt_13 ?_
      refine z_if_eq (pc := 16) (tgt := 22) dX6_openWaysAt_16 (by decide) (fun _ => ?_) (fun _ => ?_)
      · exact w_X6_openWaysAt_22 hq _ ih n l1 l2 l3 μ
      · refine z_iinc (pc := 19) (v := (l2 + 1)) (L' := [(0, .ref (b + q)), (1, .int l1), (2, .int (l2 + 1)), (3, .int l3)]) dX6_openWaysAt_19 rfl (by decide) rfl rfl ?_
        exact w_X6_openWaysAt_22 hq _ ih n l1 (l2 + 1) l3 μ
    · refine z_iload_n (pc := 28) dX6_openWaysAt_28 rfl ?_
      exact z_iret (pc := 29) rfl dX6_openWaysAt_29

set_option maxRecDepth 20000 in
theorem w_X6_openWaysAt_0 {D : va_G} {cI cL : ClassId} {b : Nat} {Z : State → Heap → Prop} {q : Nat} (hq : z_Str q) (n : Nat) (a1 : Int32) (μ : z_M) : z_w (zEc D cI cL b Z) (RX6, cX6_openWaysAt, 4, (some .int), 3) z_ei 0 [(0, .ref (b + q)), (1, .int a1)] [] μ ((f_X6_openWaysAt q n a1 μ)) := by
  unfold f_X6_openWaysAt
  refine z_iconst (pc := 0) dX6_openWaysAt_0 zci_0 ?_
  refine z_istore_n (pc := 1) (L' := [(0, .ref (b + q)), (1, .int a1), (2, .int 0)]) dX6_openWaysAt_1 (by decide) rfl ?_
  refine z_iconst (pc := 2) dX6_openWaysAt_2 zci_0 ?_
  refine z_istore_n (pc := 3) (L' := [(0, .ref (b + q)), (1, .int a1), (2, .int 0), (3, .int 0)]) dX6_openWaysAt_3 (by decide) rfl ?_
  exact w_X6_openWaysAt_4 hq n a1 0 0 μ

set_option maxRecDepth 20000 in
theorem c_X6_openWaysAt {D : va_G} {cI cL : ClassId} {b : Nat} {Z : State → Heap → Prop} {q : Nat} (hq : z_Str q) (n : Nat) (a1 : Int32) (μ : z_M) : z_S (zEc D cI cL b Z) 3 yX6_openWaysAt cX6_openWaysAt 4 (some .int) z_ei [.ref (b + q), .int a1] μ ((f_X6_openWaysAt q n a1 μ)) :=
  z_entry (yn := yX6_openWaysAt) (by decide) (Nat.le_of_ble_eq_true rfl) rfl (w_X6_openWaysAt_0 hq n a1 μ)

def f_X6_openWaysBetween_b35 (q : Nat) (r5 : Int32 → Int32 → Int32 → Int32 → z_M → Option (Int32 × z_M)) (n : Nat) (l1 : Int32) (l2 : Int32) (l3 : Int32) (l4 : Int32) (μ : z_M) : Option (Int32 × z_M) :=
  r5 l1 l2 l3 (l4 + 1) μ
def f_X6_openWaysBetween_h5 (q : Nat) : Nat → Int32 → Int32 → Int32 → Int32 → z_M → Option (Int32 × z_M)
  | 0, _, _, _, _, _ => none
  | n + 1, l1, l2, l3, l4, μ =>
    if l4 < 12 then (if (f_X6_isOpenAt q l4 l1 μ) = 0 then (f_X6_openWaysBetween_b35 q (f_X6_openWaysBetween_h5 q n) n l1 l2 l3 l4 μ) else (if (f_X6_isOpenAt q l4 l2 μ) = 0 then (f_X6_openWaysBetween_b35 q (f_X6_openWaysBetween_h5 q n) n l1 l2 l3 l4 μ) else (f_X6_openWaysBetween_b35 q (f_X6_openWaysBetween_h5 q n) n l1 l2 (l3 + 1) l4 μ))) else (some (l3, μ))
def f_X6_openWaysBetween (q : Nat) (n : Nat) (a1 : Int32) (a2 : Int32) (μ : z_M) : Option (Int32 × z_M) :=
  f_X6_openWaysBetween_h5 q n a1 a2 0 0 μ
set_option maxRecDepth 20000 in
theorem w_X6_openWaysBetween_35 {D : va_G} {cI cL : ClassId} {b : Nat} {Z : State → Heap → Prop} {q : Nat} (hq : z_Str q) (r5 : Int32 → Int32 → Int32 → Int32 → z_M → Option (Int32 × z_M)) (hr5 : ∀ (l1 : Int32) (l2 : Int32) (l3 : Int32) (l4 : Int32) (μ : z_M), z_w (zEc D cI cL b Z) (RX6, cX6_openWaysBetween, 5, (some .int), 3) z_ei 5 [(0, .ref (b + q)), (1, .int l1), (2, .int l2), (3, .int l3), (4, .int l4)] [] μ ((r5 l1 l2 l3 l4 μ))) (n : Nat) (l1 : Int32) (l2 : Int32) (l3 : Int32) (l4 : Int32) (μ : z_M) : z_w (zEc D cI cL b Z) (RX6, cX6_openWaysBetween, 5, (some .int), 3) z_ei 35 [(0, .ref (b + q)), (1, .int l1), (2, .int l2), (3, .int l3), (4, .int l4)] [] μ ((f_X6_openWaysBetween_b35 q r5 n l1 l2 l3 l4 μ)) := by
  unfold f_X6_openWaysBetween_b35
  refine z_iinc (pc := 35) (v := (l4 + 1)) (L' := [(0, .ref (b + q)), (1, .int l1), (2, .int l2), (3, .int l3), (4, .int (l4 + 1))]) dX6_openWaysBetween_35 rfl (by decide) rfl rfl ?_
  refine z_goto (pc := 38) (tgt := 5) dX6_openWaysBetween_38 (by decide) ?_
  exact hr5 l1 l2 l3 (l4 + 1) μ

set_option maxRecDepth 20000 in
theorem w_X6_openWaysBetween_5 {D : va_G} {cI cL : ClassId} {b : Nat} {Z : State → Heap → Prop} {q : Nat} (hq : z_Str q) : ∀ (n : Nat) (l1 : Int32) (l2 : Int32) (l3 : Int32) (l4 : Int32) (μ : z_M), z_w (zEc D cI cL b Z) (RX6, cX6_openWaysBetween, 5, (some .int), 3) z_ei 5 [(0, .ref (b + q)), (1, .int l1), (2, .int l2), (3, .int l3), (4, .int l4)] [] μ (f_X6_openWaysBetween_h5 q n l1 l2 l3 l4 μ) := by
  intro n
  induction n with
  | zero =>
    intro l1 l2 l3 l4 μ
    exact z_none
  | succ n ih =>
    intro l1 l2 l3 l4 μ
    unfold f_X6_openWaysBetween_h5
    refine z_iload (pc := 5) dX6_openWaysBetween_5 rfl ?_
    refine z_bipush (pc := 7) dX6_openWaysBetween_7 zcb_12 ?_
    refine z_icmp_ge (pc := 9) (tgt := 41) dX6_openWaysBetween_9 (by decide) (fun _ => ?_) (fun _ => ?_)
    · refine z_aload_n (pc := 12) dX6_openWaysBetween_12 rfl ?_
      refine z_iload (pc := 13) dX6_openWaysBetween_13 rfl ?_
      refine z_iload_n (pc := 15) dX6_openWaysBetween_15 rfl ?_
      refine z_callVi (pc := 16) (As := [.int l4, .int l1]) (S := []) (c_X6_isOpenAt hq l4 l1 μ) rfl zw_X6_isOpenAt zv_X6_isOpenAt zm_X6_98 (n := 2) (by decide) rfl (z_recv hq.1 (T := TX6) (N := 10) rfl) rfl (Nat.le_of_ble_eq_true rfl) (by decide) (by decide) dX6_openWaysBetween_16 ?_
      refine z_if_eq (pc := 19) (tgt := 35) dX6_openWaysBetween_19 (by decide) (fun _ => ?_) (fun _ => ?_)
      · exact w_X6_openWaysBetween_35 hq _ ih n l1 l2 l3 l4 μ
      · refine z_aload_n (pc := 22) dX6_openWaysBetween_22 rfl ?_
        refine z_iload (pc := 23) dX6_openWaysBetween_23 rfl ?_
        refine z_iload_n (pc := 25) dX6_openWaysBetween_25 rfl ?_
        refine z_callVi (pc := 26) (As := [.int l4, .int l2]) (S := []) (c_X6_isOpenAt hq l4 l2 μ) rfl zw_X6_isOpenAt zv_X6_isOpenAt zm_X6_98 (n := 2) (by decide) rfl (z_recv hq.1 (T := TX6) (N := 10) rfl) rfl (Nat.le_of_ble_eq_true rfl) (by decide) (by decide) dX6_openWaysBetween_26 ?_
        refine z_if_eq (pc := 29) (tgt := 35) dX6_openWaysBetween_29 (by decide) (fun _ => ?_) (fun _ => ?_)
        · exact w_X6_openWaysBetween_35 hq _ ih n l1 l2 l3 l4 μ
        · refine z_iinc (pc := 32) (v := (l3 + 1)) (L' := [(0, .ref (b + q)), (1, .int l1), (2, .int l2), (3, .int (l3 + 1)), (4, .int l4)]) dX6_openWaysBetween_32 rfl (by decide) rfl rfl ?_
          exact w_X6_openWaysBetween_35 hq _ ih n l1 l2 (l3 + 1) l4 μ
    · refine z_iload_n (pc := 41) dX6_openWaysBetween_41 rfl ?_
      exact z_iret (pc := 42) rfl dX6_openWaysBetween_42

set_option maxRecDepth 20000 in
theorem w_X6_openWaysBetween_0 {D : va_G} {cI cL : ClassId} {b : Nat} {Z : State → Heap → Prop} {q : Nat} (hq : z_Str q) (n : Nat) (a1 : Int32) (a2 : Int32) (μ : z_M) : z_w (zEc D cI cL b Z) (RX6, cX6_openWaysBetween, 5, (some .int), 3) z_ei 0 [(0, .ref (b + q)), (1, .int a1), (2, .int a2)] [] μ ((f_X6_openWaysBetween q n a1 a2 μ)) := by
  unfold f_X6_openWaysBetween
  refine z_iconst (pc := 0) dX6_openWaysBetween_0 zci_0 ?_
  refine z_istore_n (pc := 1) (L' := [(0, .ref (b + q)), (1, .int a1), (2, .int a2), (3, .int 0)]) dX6_openWaysBetween_1 (by decide) rfl ?_
  refine z_iconst (pc := 2) dX6_openWaysBetween_2 zci_0 ?_
  refine z_istore (pc := 3) (L' := [(0, .ref (b + q)), (1, .int a1), (2, .int a2), (3, .int 0), (4, .int 0)]) dX6_openWaysBetween_3 (by decide) rfl ?_
  exact w_X6_openWaysBetween_5 hq n a1 a2 0 0 μ

set_option maxRecDepth 20000 in
theorem c_X6_openWaysBetween {D : va_G} {cI cL : ClassId} {b : Nat} {Z : State → Heap → Prop} {q : Nat} (hq : z_Str q) (n : Nat) (a1 : Int32) (a2 : Int32) (μ : z_M) : z_S (zEc D cI cL b Z) 3 yX6_openWaysBetween cX6_openWaysBetween 5 (some .int) z_ei [.ref (b + q), .int a1, .int a2] μ ((f_X6_openWaysBetween q n a1 a2 μ)) :=
  z_entry (yn := yX6_openWaysBetween) (by decide) (Nat.le_of_ble_eq_true rfl) rfl (w_X6_openWaysBetween_0 hq n a1 a2 μ)

def f_X6_count (q : Nat) (n : Nat) (a1 : Int32) (μ : z_M) : Option (Int32 × z_M) :=
  if a1 = 0 then (some ((μ.1 q 3), μ)) else (if a1 = 1 then (some ((μ.1 q 4), μ)) else (if a1 = 2 then (z_bind (f_X6_openWays q n μ) (fun p1 => some (((μ.1 q 4) - (f_J6_bitCount_0f7a4 p1.1 p1.2)), p1.2))) else (if a1 = 3 then (some ((μ.1 q 5), μ)) else (if a1 = 4 then (some ((μ.1 q 7), μ)) else (if a1 = 5 then (some ((μ.1 q 8), μ)) else (if a1 = 6 then (some ((μ.1 q 9), μ)) else (some ((-1), μ))))))))
set_option maxRecDepth 20000 in
theorem w_X6_count_0 {D : va_G} {cI cL : ClassId} {b : Nat} {Z : State → Heap → Prop} {q : Nat} (hq : z_Str q) (n : Nat) (a1 : Int32) (μ : z_M) : z_w (zEc D cI cL b Z) (RX6, cX6_count, 2, (some .int), 4) z_ei 0 [(0, .ref (b + q)), (1, .int a1)] [] μ ((f_X6_count q n a1 μ)) := by
  unfold f_X6_count
  refine z_iload_n (pc := 0) dX6_count_0 rfl ?_
  refine z_split (fun hx => ?_) (fun hs1_0 => ?_)
  · refine z_tableIn (pc := 1) (x0 := 0) (off := 43) (tgt := 44) dX6_count_1 hx (by decide) (by decide) (by decide) (by decide) ?_
    refine z_aload_n (pc := 44) dX6_count_44 rfl ?_
    refine zgI_X6_40 (pc := 45) hq.1 rfl dX6_count_45 ?_
    exact z_iret (pc := 48) rfl dX6_count_48
  · refine z_split (fun hx => ?_) (fun hs1_1 => ?_)
    · refine z_tableIn (pc := 1) (x0 := 1) (off := 48) (tgt := 49) dX6_count_1 hx (by decide) (by decide) (by decide) (by decide) ?_
      refine z_aload_n (pc := 49) dX6_count_49 rfl ?_
      refine zgI_X6_43 (pc := 50) hq.1 rfl dX6_count_50 ?_
      exact z_iret (pc := 53) rfl dX6_count_53
    · refine z_split (fun hx => ?_) (fun hs1_2 => ?_)
      · refine z_tableIn (pc := 1) (x0 := 2) (off := 53) (tgt := 54) dX6_count_1 hx (by decide) (by decide) (by decide) (by decide) ?_
        refine z_aload_n (pc := 54) dX6_count_54 rfl ?_
        refine zgI_X6_43 (pc := 55) hq.1 rfl dX6_count_55 ?_
        refine z_aload_n (pc := 58) dX6_count_58 rfl ?_
        refine z_bindP (fun p1 hp1 => ?_)
        refine z_callVi (pc := 59) (As := []) (S := [.int (μ.1 q 4)]) (c_X6_openWays hq n μ) hp1 zw_X6_openWays zv_X6_openWays zm_X6_120 (n := 0) (by decide) rfl (z_recv hq.1 (T := TX6) (N := 10) rfl) rfl (Nat.le_of_ble_eq_true rfl) (by decide) (by decide) dX6_count_59 ?_
        refine z_callSi (pc := 62) (As := [.int p1.1]) (S := [.int (μ.1 q 4)]) (c_J6_bitCount_0f7a4 p1.1 p1.2) rfl zw_J6_bitCount_0f7a4 zs_J6_bitCount_0f7a4 zm_X6_115 (n := 1) (by decide) rfl rfl (Nat.le_of_ble_eq_true rfl) (by decide) (by decide) dX6_count_62 ?_
        refine z_isub (pc := 65) dX6_count_65 ?_
        exact z_iret (pc := 66) rfl dX6_count_66
      · refine z_split (fun hx => ?_) (fun hs1_3 => ?_)
        · refine z_tableIn (pc := 1) (x0 := 3) (off := 66) (tgt := 67) dX6_count_1 hx (by decide) (by decide) (by decide) (by decide) ?_
          refine z_aload_n (pc := 67) dX6_count_67 rfl ?_
          refine zgI_X6_26 (pc := 68) hq.1 rfl dX6_count_68 ?_
          exact z_iret (pc := 71) rfl dX6_count_71
        · refine z_split (fun hx => ?_) (fun hs1_4 => ?_)
          · refine z_tableIn (pc := 1) (x0 := 4) (off := 71) (tgt := 72) dX6_count_1 hx (by decide) (by decide) (by decide) (by decide) ?_
            refine z_aload_n (pc := 72) dX6_count_72 rfl ?_
            refine zgI_X6_46 (pc := 73) hq.1 rfl dX6_count_73 ?_
            exact z_iret (pc := 76) rfl dX6_count_76
          · refine z_split (fun hx => ?_) (fun hs1_5 => ?_)
            · refine z_tableIn (pc := 1) (x0 := 5) (off := 76) (tgt := 77) dX6_count_1 hx (by decide) (by decide) (by decide) (by decide) ?_
              refine z_aload_n (pc := 77) dX6_count_77 rfl ?_
              refine zgI_X6_49 (pc := 78) hq.1 rfl dX6_count_78 ?_
              exact z_iret (pc := 81) rfl dX6_count_81
            · refine z_split (fun hx => ?_) (fun hs1_6 => ?_)
              · refine z_tableIn (pc := 1) (x0 := 6) (off := 81) (tgt := 82) dX6_count_1 hx (by decide) (by decide) (by decide) (by decide) ?_
                refine z_aload_n (pc := 82) dX6_count_82 rfl ?_
                refine zgI_X6_33 (pc := 83) hq.1 rfl dX6_count_83 ?_
                exact z_iret (pc := 86) rfl dX6_count_86
              · have hk0 := lv_neT hs1_0 (show Int32.toInt 0 = 0 by decide)
                have hk1 := lv_neT hs1_1 (show Int32.toInt 1 = 1 by decide)
                have hk2 := lv_neT hs1_2 (show Int32.toInt 2 = 2 by decide)
                have hk3 := lv_neT hs1_3 (show Int32.toInt 3 = 3 by decide)
                have hk4 := lv_neT hs1_4 (show Int32.toInt 4 = 4 by decide)
                have hk5 := lv_neT hs1_5 (show Int32.toInt 5 = 5 by decide)
                have hk6 := lv_neT hs1_6 (show Int32.toInt 6 = 6 by decide)
                refine z_tableOut (pc := 1) (tgt := 87) dX6_count_1 (by omega) (by decide) ?_
                refine z_iconst (pc := 87) dX6_count_87 zci_m1 ?_
                exact z_iret (pc := 88) rfl dX6_count_88

set_option maxRecDepth 20000 in
theorem c_X6_count {D : va_G} {cI cL : ClassId} {b : Nat} {Z : State → Heap → Prop} {q : Nat} (hq : z_Str q) (n : Nat) (a1 : Int32) (μ : z_M) : z_S (zEc D cI cL b Z) 4 yX6_count cX6_count 2 (some .int) z_ei [.ref (b + q), .int a1] μ ((f_X6_count q n a1 μ)) :=
  z_entry (yn := yX6_count) (by decide) (Nat.le_of_ble_eq_true rfl) rfl (w_X6_count_0 hq n a1 μ)
