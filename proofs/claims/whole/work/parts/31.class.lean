def f_X3_faultFound  (μ : z_M) : Int32 :=
  (μ.1 45 4)
set_option maxRecDepth 20000 in
theorem w_X3_faultFound_0 {D : va_G} {cI cL : ClassId} {b : Nat} {Z : State → Heap → Prop}   (μ : z_M) : z_w (zEc D cI cL b Z) (RX3, cX3_faultFound, 1, (some .int), 0) z_ei 0 [(0, .ref (b + 45))] [] μ (z_oP μ (f_X3_faultFound μ)) := by
  unfold f_X3_faultFound
  refine z_aload_n (pc := 0) dX3_faultFound_0 rfl ?_
  refine zgI_X3_30 (pc := 1) gc_45 rfl dX3_faultFound_1 ?_
  exact z_iret (pc := 4) rfl dX3_faultFound_4

set_option maxRecDepth 20000 in
theorem c_X3_faultFound {D : va_G} {cI cL : ClassId} {b : Nat} {Z : State → Heap → Prop}   (μ : z_M) : z_S (zEc D cI cL b Z) 0 yX3_faultFound cX3_faultFound 1 (some .int) z_ei [.ref (b + 45)] μ (z_oP μ (f_X3_faultFound μ)) :=
  z_entry (yn := yX3_faultFound) (by decide) (Nat.le_of_ble_eq_true rfl) rfl (w_X3_faultFound_0  μ)

def f_X3_fail (a1 : Int32) (μ : z_M) : z_M :=
  if (μ.1 45 4) = (-1) then (z_let (z_sI μ 45 4 a1) (fun m1 => m1)) else (μ)
set_option maxRecDepth 20000 in
theorem w_X3_fail_0 {D : va_G} {cI cL : ClassId} {b : Nat} {Z : State → Heap → Prop}  (a1 : Int32) (μ : z_M) : z_w (zEc D cI cL b Z) (RX3, cX3_fail, 2, none, 0) z_ev 0 [(0, .ref (b + 45)), (1, .int a1)] [] μ (z_oV (f_X3_fail a1 μ)) := by
  unfold f_X3_fail
  refine z_aload_n (pc := 0) dX3_fail_0 rfl ?_
  refine zgI_X3_30 (pc := 1) gc_45 rfl dX3_fail_1 ?_
  refine z_iconst (pc := 4) dX3_fail_4 zci_m1 ?_
  refine z_outIf ?_
  refine z_icmp_ne (pc := 5) (tgt := 13) dX3_fail_5 (by decide) (fun _ => ?_) (fun _ => ?_)
  · refine z_aload_n (pc := 8) dX3_fail_8 rfl ?_
    refine z_iload_n (pc := 9) dX3_fail_9 rfl ?_
    refine zpI_X3_30 (pc := 10) gc_45 rfl dX3_fail_10 ?_
    refine z_letM (fun m1 => ?_)
    exact z_vret (pc := 13) rfl dX3_fail_13
  · exact z_vret (pc := 13) rfl dX3_fail_13

set_option maxRecDepth 20000 in
theorem c_X3_fail {D : va_G} {cI cL : ClassId} {b : Nat} {Z : State → Heap → Prop}  (a1 : Int32) (μ : z_M) : z_S (zEc D cI cL b Z) 0 yX3_fail cX3_fail 2 none z_ev [.ref (b + 45), .int a1] μ (z_oV (f_X3_fail a1 μ)) :=
  z_entry (yn := yX3_fail) (by decide) (Nat.le_of_ble_eq_true rfl) rfl (w_X3_fail_0 a1 μ)

def f_X3_readLetter_b36  (μ : z_M) : z_M :=
  z_let (f_X3_fail (μ.1 45 3) μ) (fun m2 => m2)
def f_X3_readLetter (a1 : Int32) (μ : z_M) : z_M :=
  if (μ.1 45 4) = (-1) then (if (g_get 47 160 (μ.1 45 3) μ) = a1 then (z_let (z_sI μ 45 3 ((μ.1 45 3) + 1)) (fun m1 => m1)) else (f_X3_readLetter_b36 μ)) else (f_X3_readLetter_b36 μ)
set_option maxRecDepth 20000 in
theorem w_X3_readLetter_36 {D : va_G} {cI cL : ClassId} {b : Nat} {Z : State → Heap → Prop}   (μ : z_M) : z_w (zEc D cI cL b Z) (RX3, cX3_readLetter, 2, none, 1) z_ev 36 [(0, .ref (b + 45))] [] μ (z_oV (f_X3_readLetter_b36 μ)) := by
  unfold f_X3_readLetter_b36
  refine z_aload_n (pc := 36) dX3_readLetter_36 rfl ?_
  refine z_aload_n (pc := 37) dX3_readLetter_37 rfl ?_
  refine zgI_X3_46 (pc := 38) gc_45 rfl dX3_readLetter_38 ?_
  refine z_letP (fun m2 hm2 => ?_)
  refine z_callVv (pc := 41) (As := [.int (μ.1 45 3)]) (S := []) (c_X3_fail (μ.1 45 3) μ) (z_pV hm2) zw_X3_fail zv_X3_fail zm_X3_59 (n := 1) (by decide) rfl (z_recv gc_45 (T := TX3) (N := 5) rfl) rfl (Nat.le_of_ble_eq_true rfl) (by decide) (by decide) dX3_readLetter_41 ?_
  exact z_vret (pc := 44) rfl dX3_readLetter_44

set_option maxRecDepth 20000 in
theorem w_X3_readLetter_0 {D : va_G} {cI cL : ClassId} {b : Nat} {Z : State → Heap → Prop}  (a1 : Int32) (μ : z_M) : z_w (zEc D cI cL b Z) (RX3, cX3_readLetter, 2, none, 1) z_ev 0 [(0, .ref (b + 45)), (1, .int a1)] [] μ (z_oV (f_X3_readLetter a1 μ)) := by
  unfold f_X3_readLetter
  refine z_aload_n (pc := 0) dX3_readLetter_0 rfl ?_
  refine zgI_X3_30 (pc := 1) gc_45 rfl dX3_readLetter_1 ?_
  refine z_iconst (pc := 4) dX3_readLetter_4 zci_m1 ?_
  refine z_outIf ?_
  refine z_icmp_ne (pc := 5) (tgt := 36) dX3_readLetter_5 (by decide) (fun _ => ?_) (fun _ => ?_)
  · refine z_aload_n (pc := 8) dX3_readLetter_8 rfl ?_
    refine zgR_X3_26 (pc := 9) gc_45 rfl dX3_readLetter_9 ?_
    refine z_aload_n (pc := 12) dX3_readLetter_12 rfl ?_
    refine zgI_X3_46 (pc := 13) gc_45 rfl dX3_readLetter_13 ?_
    refine z_callVi (pc := 16) (As := [.int (μ.1 45 3)]) (S := []) (g_X1_get gc_46 gc_47 (Nat.le_of_ble_eq_true rfl) (μ.1 45 3) μ) rfl zw_X1_get zv_X1_get zm_X3_56 (n := 1) (by decide) rfl (z_recv gc_46 (T := TX1) (N := 1) rfl) rfl (Nat.le_of_ble_eq_true rfl) (by decide) (by decide) dX3_readLetter_16 ?_
    refine z_iload_n (pc := 19) dX3_readLetter_19 rfl ?_
    refine z_outIf ?_
    refine z_icmp_ne (pc := 20) (tgt := 36) dX3_readLetter_20 (by decide) (fun _ => ?_) (fun _ => ?_)
    · refine z_aload_n (pc := 23) dX3_readLetter_23 rfl ?_
      refine z_dup (pc := 24) dX3_readLetter_24 rfl ?_
      refine zgI_X3_46 (pc := 25) gc_45 rfl dX3_readLetter_25 ?_
      refine z_iconst (pc := 28) dX3_readLetter_28 zci_1 ?_
      refine z_iadd (pc := 29) dX3_readLetter_29 ?_
      refine zpI_X3_46 (pc := 30) gc_45 rfl dX3_readLetter_30 ?_
      refine z_letM (fun m1 => ?_)
      refine z_goto (pc := 33) (tgt := 44) dX3_readLetter_33 (by decide) ?_
      exact z_vret (pc := 44) rfl dX3_readLetter_44
    · refine z_drop (L' := [(0, .ref (b + 45))]) [0] rfl ?_
      exact w_X3_readLetter_36 μ
  · refine z_drop (L' := [(0, .ref (b + 45))]) [0] rfl ?_
    exact w_X3_readLetter_36 μ

set_option maxRecDepth 20000 in
theorem c_X3_readLetter {D : va_G} {cI cL : ClassId} {b : Nat} {Z : State → Heap → Prop}  (a1 : Int32) (μ : z_M) : z_S (zEc D cI cL b Z) 1 yX3_readLetter cX3_readLetter 2 none z_ev [.ref (b + 45), .int a1] μ (z_oV (f_X3_readLetter a1 μ)) :=
  z_entry (yn := yX3_readLetter) (by decide) (Nat.le_of_ble_eq_true rfl) rfl (w_X3_readLetter_0 a1 μ)

def f_X3_isDigit  (μ : z_M) : Int32 :=
  if (g_get 47 160 (μ.1 45 3) μ) < 48 then (0) else (if (57 : Int32) < (g_get 47 160 (μ.1 45 3) μ) then (0) else (1))
set_option maxRecDepth 20000 in
theorem w_X3_isDigit_0 {D : va_G} {cI cL : ClassId} {b : Nat} {Z : State → Heap → Prop}   (μ : z_M) : z_w (zEc D cI cL b Z) (RX3, cX3_isDigit, 1, (some .boolean), 1) z_ei 0 [(0, .ref (b + 45))] [] μ (z_oP μ (f_X3_isDigit μ)) := by
  unfold f_X3_isDigit
  refine z_aload_n (pc := 0) dX3_isDigit_0 rfl ?_
  refine zgR_X3_26 (pc := 1) gc_45 rfl dX3_isDigit_1 ?_
  refine z_aload_n (pc := 4) dX3_isDigit_4 rfl ?_
  refine zgI_X3_46 (pc := 5) gc_45 rfl dX3_isDigit_5 ?_
  refine z_callVi (pc := 8) (As := [.int (μ.1 45 3)]) (S := []) (g_X1_get gc_46 gc_47 (Nat.le_of_ble_eq_true rfl) (μ.1 45 3) μ) rfl zw_X1_get zv_X1_get zm_X3_56 (n := 1) (by decide) rfl (z_recv gc_46 (T := TX1) (N := 1) rfl) rfl (Nat.le_of_ble_eq_true rfl) (by decide) (by decide) dX3_isDigit_8 ?_
  refine z_bipush (pc := 11) dX3_isDigit_11 zcb_48 ?_
  refine z_outIf ?_
  refine z_icmp_lt (pc := 13) (tgt := 36) dX3_isDigit_13 (by decide) (fun _ => ?_) (fun _ => ?_)
  · refine z_iconst (pc := 36) dX3_isDigit_36 zci_0 ?_
    exact z_zret (pc := 37) rfl dX3_isDigit_37 (by decide)
  · refine z_aload_n (pc := 16) dX3_isDigit_16 rfl ?_
    refine zgR_X3_26 (pc := 17) gc_45 rfl dX3_isDigit_17 ?_
    refine z_aload_n (pc := 20) dX3_isDigit_20 rfl ?_
    refine zgI_X3_46 (pc := 21) gc_45 rfl dX3_isDigit_21 ?_
    refine z_callVi (pc := 24) (As := [.int (μ.1 45 3)]) (S := []) (g_X1_get gc_46 gc_47 (Nat.le_of_ble_eq_true rfl) (μ.1 45 3) μ) rfl zw_X1_get zv_X1_get zm_X3_56 (n := 1) (by decide) rfl (z_recv gc_46 (T := TX1) (N := 1) rfl) rfl (Nat.le_of_ble_eq_true rfl) (by decide) (by decide) dX3_isDigit_24 ?_
    refine z_bipush (pc := 27) dX3_isDigit_27 zcb_57 ?_
    refine z_outIf ?_
    refine z_icmp_gt (pc := 29) (tgt := 36) dX3_isDigit_29 (by decide) (fun _ => ?_) (fun _ => ?_)
    · refine z_iconst (pc := 36) dX3_isDigit_36 zci_0 ?_
      exact z_zret (pc := 37) rfl dX3_isDigit_37 (by decide)
    · refine z_iconst (pc := 32) dX3_isDigit_32 zci_1 ?_
      refine z_goto (pc := 33) (tgt := 37) dX3_isDigit_33 (by decide) ?_
      exact z_zret (pc := 37) rfl dX3_isDigit_37 (by decide)

set_option maxRecDepth 20000 in
theorem c_X3_isDigit {D : va_G} {cI cL : ClassId} {b : Nat} {Z : State → Heap → Prop}   (μ : z_M) : z_S (zEc D cI cL b Z) 1 yX3_isDigit cX3_isDigit 1 (some .boolean) z_ei [.ref (b + 45)] μ (z_oP μ (f_X3_isDigit μ)) :=
  z_entry (yn := yX3_isDigit) (by decide) (Nat.le_of_ble_eq_true rfl) rfl (w_X3_isDigit_0  μ)
set_option maxRecDepth 20000 in
theorem bl_X3_isDigit  (μ : z_M) : f_X3_isDigit μ = 0 ∨ f_X3_isDigit μ = 1 := by
  unfold f_X3_isDigit
  repeat' (first | with_reducible exact z_bl0 | with_reducible exact z_bl1 | with_reducible refine z_blI ?_ ?_ | with_reducible refine z_blL (fun _ => ?_))

def f_X3_readNumber_b104 (n : Nat) (l4 : Int32) (l5 : Int32) (μ : z_M) : Option (Int32 × z_M) :=
  z_let (f_X3_fail l4 μ) (fun m3 => some (l5, m3))
def f_X3_readNumber_b77 (n : Nat) (l1 : Int32) (l2 : Int32) (l3 : Int32) (l4 : Int32) (l5 : Int32) (μ : z_M) : Option (Int32 × z_M) :=
  if (μ.1 45 3) = l4 then (f_X3_readNumber_b104 n l4 l5 μ) else (if l5 < l1 then (f_X3_readNumber_b104 n l4 l5 μ) else (if l2 < l5 then (f_X3_readNumber_b104 n l4 l5 μ) else (if l5 = l3 then (f_X3_readNumber_b104 n l4 l5 μ) else (some (l5, μ)))))
def f_X3_readNumber_h18 : Nat → Int32 → Int32 → Int32 → Int32 → Int32 → Int32 → z_M → Option (Int32 × z_M)
  | 0, _, _, _, _, _, _, _ => none
  | n + 1, l1, l2, l3, l4, l5, l6, μ =>
    if l6 < 3 then (if (μ.1 45 4) = (-1) then (if (f_X3_isDigit μ) = 0 then (f_X3_readNumber_b77 n l1 l2 l3 l4 l5 μ) else (z_let ((((l5 * 10) + (g_get 47 160 (μ.1 45 3) μ)) - 48) : Int32) (fun x4 => z_let (z_sI μ 45 3 ((μ.1 45 3) + 1)) (fun m5 => f_X3_readNumber_h18 n l1 l2 l3 l4 x4 (l6 + 1) m5)))) else (f_X3_readNumber_b77 n l1 l2 l3 l4 l5 μ)) else (f_X3_readNumber_b77 n l1 l2 l3 l4 l5 μ)
def f_X3_readNumber (n : Nat) (a1 : Int32) (a2 : Int32) (a3 : Int32) (μ : z_M) : Option (Int32 × z_M) :=
  z_let (f_X3_readLetter 32 μ) (fun m1 => z_let ((m1.1 45 3) : Int32) (fun x2 => f_X3_readNumber_h18 n a1 a2 a3 x2 0 0 m1))
set_option maxRecDepth 20000 in
theorem w_X3_readNumber_104 {D : va_G} {cI cL : ClassId} {b : Nat} {Z : State → Heap → Prop}  (n : Nat) (l4 : Int32) (l5 : Int32) (μ : z_M) : z_w (zEc D cI cL b Z) (RX3, cX3_readNumber, 7, (some .int), 2) z_ei 104 [(0, .ref (b + 45)), (4, .int l4), (5, .int l5)] [] μ ((f_X3_readNumber_b104 n l4 l5 μ)) := by
  unfold f_X3_readNumber_b104
  refine z_aload_n (pc := 104) dX3_readNumber_104 rfl ?_
  refine z_iload (pc := 105) dX3_readNumber_105 rfl ?_
  refine z_letPO (fun m3 hm3 => ?_)
  refine z_callVv (pc := 107) (As := [.int l4]) (S := []) (c_X3_fail l4 μ) (z_pV hm3) zw_X3_fail zv_X3_fail zm_X3_59 (n := 1) (by decide) rfl (z_recv gc_45 (T := TX3) (N := 5) rfl) rfl (Nat.le_of_ble_eq_true rfl) (by decide) (by decide) dX3_readNumber_107 ?_
  refine z_iload (pc := 110) dX3_readNumber_110 rfl ?_
  exact z_iret (pc := 112) rfl dX3_readNumber_112

set_option maxRecDepth 20000 in
theorem w_X3_readNumber_77 {D : va_G} {cI cL : ClassId} {b : Nat} {Z : State → Heap → Prop}  (n : Nat) (l1 : Int32) (l2 : Int32) (l3 : Int32) (l4 : Int32) (l5 : Int32) (μ : z_M) : z_w (zEc D cI cL b Z) (RX3, cX3_readNumber, 7, (some .int), 2) z_ei 77 [(0, .ref (b + 45)), (1, .int l1), (2, .int l2), (3, .int l3), (4, .int l4), (5, .int l5)] [] μ ((f_X3_readNumber_b77 n l1 l2 l3 l4 l5 μ)) := by
  unfold f_X3_readNumber_b77
  refine z_aload_n (pc := 77) dX3_readNumber_77 rfl ?_
  refine zgI_X3_46 (pc := 78) gc_45 rfl dX3_readNumber_78 ?_
  refine z_iload (pc := 81) dX3_readNumber_81 rfl ?_
  refine z_icmp_eq (pc := 83) (tgt := 104) dX3_readNumber_83 (by decide) (fun _ => ?_) (fun _ => ?_)
  · refine z_drop (L' := [(0, .ref (b + 45)), (4, .int l4), (5, .int l5)]) [0, 4, 5] rfl ?_
    exact w_X3_readNumber_104 n l4 l5 μ
  · refine z_iload (pc := 86) dX3_readNumber_86 rfl ?_
    refine z_iload_n (pc := 88) dX3_readNumber_88 rfl ?_
    refine z_icmp_lt (pc := 89) (tgt := 104) dX3_readNumber_89 (by decide) (fun _ => ?_) (fun _ => ?_)
    · refine z_drop (L' := [(0, .ref (b + 45)), (4, .int l4), (5, .int l5)]) [0, 4, 5] rfl ?_
      exact w_X3_readNumber_104 n l4 l5 μ
    · refine z_iload (pc := 92) dX3_readNumber_92 rfl ?_
      refine z_iload_n (pc := 94) dX3_readNumber_94 rfl ?_
      refine z_icmp_gt (pc := 95) (tgt := 104) dX3_readNumber_95 (by decide) (fun _ => ?_) (fun _ => ?_)
      · refine z_drop (L' := [(0, .ref (b + 45)), (4, .int l4), (5, .int l5)]) [0, 4, 5] rfl ?_
        exact w_X3_readNumber_104 n l4 l5 μ
      · refine z_iload (pc := 98) dX3_readNumber_98 rfl ?_
        refine z_iload_n (pc := 100) dX3_readNumber_100 rfl ?_
        refine z_icmp_ne (pc := 101) (tgt := 110) dX3_readNumber_101 (by decide) (fun _ => ?_) (fun _ => ?_)
        · refine z_drop (L' := [(0, .ref (b + 45)), (4, .int l4), (5, .int l5)]) [0, 4, 5] rfl ?_
          exact w_X3_readNumber_104 n l4 l5 μ
        · refine z_iload (pc := 110) dX3_readNumber_110 rfl ?_
          exact z_iret (pc := 112) rfl dX3_readNumber_112

set_option maxRecDepth 20000 in
theorem w_X3_readNumber_18 {D : va_G} {cI cL : ClassId} {b : Nat} {Z : State → Heap → Prop}  : ∀ (n : Nat) (l1 : Int32) (l2 : Int32) (l3 : Int32) (l4 : Int32) (l5 : Int32) (l6 : Int32) (μ : z_M), z_w (zEc D cI cL b Z) (RX3, cX3_readNumber, 7, (some .int), 2) z_ei 18 [(0, .ref (b + 45)), (1, .int l1), (2, .int l2), (3, .int l3), (4, .int l4), (5, .int l5), (6, .int l6)] [] μ (f_X3_readNumber_h18 n l1 l2 l3 l4 l5 l6 μ) := by
  intro n
  induction n with
  | zero =>
    intro l1 l2 l3 l4 l5 l6 μ
    exact z_none
  | succ n ih =>
    intro l1 l2 l3 l4 l5 l6 μ
    unfold f_X3_readNumber_h18
    refine z_iload (pc := 18) dX3_readNumber_18 rfl ?_
    refine z_iconst (pc := 20) dX3_readNumber_20 zci_3 ?_
    refine z_icmp_ge (pc := 21) (tgt := 77) dX3_readNumber_21 (by decide) (fun _ => ?_) (fun _ => ?_)
    · refine z_aload_n (pc := 24) dX3_readNumber_24 rfl ?_
      refine zgI_X3_30 (pc := 25) gc_45 rfl dX3_readNumber_25 ?_
      refine z_iconst (pc := 28) dX3_readNumber_28 zci_m1 ?_
      refine z_icmp_ne (pc := 29) (tgt := 77) dX3_readNumber_29 (by decide) (fun _ => ?_) (fun _ => ?_)
      · refine z_aload_n (pc := 32) dX3_readNumber_32 rfl ?_
        refine z_callVi (pc := 33) (As := []) (S := []) (c_X3_isDigit μ) rfl zw_X3_isDigit zv_X3_isDigit zm_X3_72 (n := 0) (by decide) rfl (z_recv gc_45 (T := TX3) (N := 5) rfl) rfl (Nat.le_of_ble_eq_true rfl) (by decide) (by decide) dX3_readNumber_33 ?_
        refine z_if_eq (pc := 36) (tgt := 77) dX3_readNumber_36 (by decide) (fun _ => ?_) (fun _ => ?_)
        · refine z_drop (L' := [(0, .ref (b + 45)), (1, .int l1), (2, .int l2), (3, .int l3), (4, .int l4), (5, .int l5)]) [0, 1, 2, 3, 4, 5] rfl ?_
          exact w_X3_readNumber_77 n l1 l2 l3 l4 l5 μ
        · refine z_iload (pc := 39) dX3_readNumber_39 rfl ?_
          refine z_bipush (pc := 41) dX3_readNumber_41 zcb_10 ?_
          refine z_imul (pc := 43) dX3_readNumber_43 ?_
          refine z_aload_n (pc := 44) dX3_readNumber_44 rfl ?_
          refine zgR_X3_26 (pc := 45) gc_45 rfl dX3_readNumber_45 ?_
          refine z_aload_n (pc := 48) dX3_readNumber_48 rfl ?_
          refine zgI_X3_46 (pc := 49) gc_45 rfl dX3_readNumber_49 ?_
          refine z_callVi (pc := 52) (As := [.int (μ.1 45 3)]) (S := [.int (l5 * 10)]) (g_X1_get gc_46 gc_47 (Nat.le_of_ble_eq_true rfl) (μ.1 45 3) μ) rfl zw_X1_get zv_X1_get zm_X3_56 (n := 1) (by decide) rfl (z_recv gc_46 (T := TX1) (N := 1) rfl) rfl (Nat.le_of_ble_eq_true rfl) (by decide) (by decide) dX3_readNumber_52 ?_
          refine z_iadd (pc := 55) dX3_readNumber_55 ?_
          refine z_bipush (pc := 56) dX3_readNumber_56 zcb_48 ?_
          refine z_isub (pc := 58) dX3_readNumber_58 ?_
          refine z_letIO (fun x4 => ?_)
          refine z_istore (pc := 59) (L' := [(0, .ref (b + 45)), (1, .int l1), (2, .int l2), (3, .int l3), (4, .int l4), (5, .int x4), (6, .int l6)]) dX3_readNumber_59 (by decide) rfl ?_
          refine z_aload_n (pc := 61) dX3_readNumber_61 rfl ?_
          refine z_dup (pc := 62) dX3_readNumber_62 rfl ?_
          refine zgI_X3_46 (pc := 63) gc_45 rfl dX3_readNumber_63 ?_
          refine z_iconst (pc := 66) dX3_readNumber_66 zci_1 ?_
          refine z_iadd (pc := 67) dX3_readNumber_67 ?_
          refine zpI_X3_46 (pc := 68) gc_45 rfl dX3_readNumber_68 ?_
          refine z_letMO (fun m5 => ?_)
          refine z_iinc (pc := 71) (v := (l6 + 1)) (L' := [(0, .ref (b + 45)), (1, .int l1), (2, .int l2), (3, .int l3), (4, .int l4), (5, .int x4), (6, .int (l6 + 1))]) dX3_readNumber_71 rfl (by decide) rfl rfl ?_
          refine z_goto (pc := 74) (tgt := 18) dX3_readNumber_74 (by decide) ?_
          exact ih l1 l2 l3 l4 x4 (l6 + 1) m5
      · refine z_drop (L' := [(0, .ref (b + 45)), (1, .int l1), (2, .int l2), (3, .int l3), (4, .int l4), (5, .int l5)]) [0, 1, 2, 3, 4, 5] rfl ?_
        exact w_X3_readNumber_77 n l1 l2 l3 l4 l5 μ
    · refine z_drop (L' := [(0, .ref (b + 45)), (1, .int l1), (2, .int l2), (3, .int l3), (4, .int l4), (5, .int l5)]) [0, 1, 2, 3, 4, 5] rfl ?_
      exact w_X3_readNumber_77 n l1 l2 l3 l4 l5 μ

set_option maxRecDepth 20000 in
theorem w_X3_readNumber_0 {D : va_G} {cI cL : ClassId} {b : Nat} {Z : State → Heap → Prop}  (n : Nat) (a1 : Int32) (a2 : Int32) (a3 : Int32) (μ : z_M) : z_w (zEc D cI cL b Z) (RX3, cX3_readNumber, 7, (some .int), 2) z_ei 0 [(0, .ref (b + 45)), (1, .int a1), (2, .int a2), (3, .int a3)] [] μ ((f_X3_readNumber n a1 a2 a3 μ)) := by
  unfold f_X3_readNumber
  refine z_aload_n (pc := 0) dX3_readNumber_0 rfl ?_
  refine z_bipush (pc := 1) dX3_readNumber_1 zcb_32 ?_
  refine z_letPO (fun m1 hm1 => ?_)
  refine z_callVv (pc := 3) (As := [.int 32]) (S := []) (c_X3_readLetter 32 μ) (z_pV hm1) zw_X3_readLetter zv_X3_readLetter zm_X3_52 (n := 1) (by decide) rfl (z_recv gc_45 (T := TX3) (N := 5) rfl) rfl (Nat.le_of_ble_eq_true rfl) (by decide) (by decide) dX3_readNumber_3 ?_
  refine z_aload_n (pc := 6) dX3_readNumber_6 rfl ?_
  refine zgI_X3_46 (pc := 7) gc_45 rfl dX3_readNumber_7 ?_
  refine z_letIO (fun x2 => ?_)
  refine z_istore (pc := 10) (L' := [(0, .ref (b + 45)), (1, .int a1), (2, .int a2), (3, .int a3), (4, .int x2)]) dX3_readNumber_10 (by decide) rfl ?_
  refine z_iconst (pc := 12) dX3_readNumber_12 zci_0 ?_
  refine z_istore (pc := 13) (L' := [(0, .ref (b + 45)), (1, .int a1), (2, .int a2), (3, .int a3), (4, .int x2), (5, .int 0)]) dX3_readNumber_13 (by decide) rfl ?_
  refine z_iconst (pc := 15) dX3_readNumber_15 zci_0 ?_
  refine z_istore (pc := 16) (L' := [(0, .ref (b + 45)), (1, .int a1), (2, .int a2), (3, .int a3), (4, .int x2), (5, .int 0), (6, .int 0)]) dX3_readNumber_16 (by decide) rfl ?_
  exact w_X3_readNumber_18 n a1 a2 a3 x2 0 0 m1

set_option maxRecDepth 20000 in
theorem c_X3_readNumber {D : va_G} {cI cL : ClassId} {b : Nat} {Z : State → Heap → Prop}  (n : Nat) (a1 : Int32) (a2 : Int32) (a3 : Int32) (μ : z_M) : z_S (zEc D cI cL b Z) 2 yX3_readNumber cX3_readNumber 7 (some .int) z_ei [.ref (b + 45), .int a1, .int a2, .int a3] μ ((f_X3_readNumber n a1 a2 a3 μ)) :=
  z_entry (yn := yX3_readNumber) (by decide) (Nat.le_of_ble_eq_true rfl) rfl (w_X3_readNumber_0 n a1 a2 a3 μ)

def f_X3_readWord_h14 (si : Nat) : Nat → Int32 → z_M → Option (Unit × z_M)
  | 0, _, _ => none
  | n + 1, l3, μ =>
    if l3 < (z_slen si μ) then (z_bind (z_sch si l3 μ) (fun p2 => z_let (f_X3_readLetter p2.1 p2.2) (fun m3 => f_X3_readWord_h14 si n (l3 + 1) m3))) else (some ((), μ))
def f_X3_readWord_b12 (si : Nat) (n : Nat)  (μ : z_M) : Option (Unit × z_M) :=
  f_X3_readWord_h14 si n 0 μ
def f_X3_readWord (si : Nat) (n : Nat) (a2 : Int32) (μ : z_M) : Option (Unit × z_M) :=
  if a2 = 0 then (z_let (f_X3_fail (μ.1 45 3) μ) (fun m1 => f_X3_readWord_b12 si n m1)) else (f_X3_readWord_b12 si n μ)
set_option maxRecDepth 20000 in
theorem w_X3_readWord_14 {D : va_G} {cI cL : ClassId} {b : Nat} {Z : State → Heap → Prop} {adK adV : Nat → Nat} {w : Option Nat} (hZ : ∀ s H, (zEc D cI cL b Z).2.1 s H → z_ZS adK adV w (zEc D cI cL b Z).2.2 s H) {si : Nat} (hsi : si < 5) : ∀ (n : Nat) (l3 : Int32) (μ : z_M), z_w (zEc D cI cL b Z) (RX3, cX3_readWord, 4, none, 4) z_ev 14 [(0, .ref (b + 45)), (1, .ref (adK si)), (3, .int l3)] [] μ (f_X3_readWord_h14 si n l3 μ) := by
  intro n
  induction n with
  | zero =>
    intro l3 μ
    exact z_none
  | succ n ih =>
    intro l3 μ
    unfold f_X3_readWord_h14
    refine z_iload_n (pc := 14) dX3_readWord_14 rfl ?_
    refine z_aload_n (pc := 15) dX3_readWord_15 rfl ?_
    refine z_callVi (pc := 16) (As := []) (S := [.int l3]) (c_slen hZ hsi μ) rfl zw_J0_length_8abf5 zv_J0_length_8abf5 zm_X3_62 (n := 0) (by decide) rfl (z_strRecv hZ hsi _) rfl (Nat.le_of_ble_eq_true rfl) (by decide) (by decide) dX3_readWord_16 ?_
    refine z_icmp_ge (pc := 19) (tgt := 37) dX3_readWord_19 (by decide) (fun _ => ?_) (fun _ => ?_)
    · refine z_aload_n (pc := 22) dX3_readWord_22 rfl ?_
      refine z_aload_n (pc := 23) dX3_readWord_23 rfl ?_
      refine z_iload_n (pc := 24) dX3_readWord_24 rfl ?_
      refine z_bindP (fun p2 hp2 => ?_)
      refine z_callVi (pc := 25) (As := [.int l3]) (S := [.ref (b + 45)]) (c_sch hZ hsi l3 μ) hp2 zw_J0_charAt_5068e zv_J0_charAt_5068e zm_X3_68 (n := 1) (by decide) rfl (z_strRecv hZ hsi _) rfl (Nat.le_of_ble_eq_true rfl) (by decide) (by decide) dX3_readWord_25 ?_
      refine z_letPO (fun m3 hm3 => ?_)
      refine z_callVv (pc := 28) (As := [.int p2.1]) (S := []) (c_X3_readLetter p2.1 p2.2) (z_pV hm3) zw_X3_readLetter zv_X3_readLetter zm_X3_52 (n := 1) (by decide) rfl (z_recv gc_45 (T := TX3) (N := 5) rfl) rfl (Nat.le_of_ble_eq_true rfl) (by decide) (by decide) dX3_readWord_28 ?_
      refine z_iinc (pc := 31) (v := (l3 + 1)) (L' := [(0, .ref (b + 45)), (1, .ref (adK si)), (3, .int (l3 + 1))]) dX3_readWord_31 rfl (by decide) rfl rfl ?_
      refine z_goto (pc := 34) (tgt := 14) dX3_readWord_34 (by decide) ?_
      exact ih (l3 + 1) m3
    · exact z_vret (pc := 37) rfl dX3_readWord_37

set_option maxRecDepth 20000 in
theorem w_X3_readWord_12 {D : va_G} {cI cL : ClassId} {b : Nat} {Z : State → Heap → Prop} {adK adV : Nat → Nat} {w : Option Nat} (hZ : ∀ s H, (zEc D cI cL b Z).2.1 s H → z_ZS adK adV w (zEc D cI cL b Z).2.2 s H) {si : Nat} (hsi : si < 5) (n : Nat)  (μ : z_M) : z_w (zEc D cI cL b Z) (RX3, cX3_readWord, 4, none, 4) z_ev 12 [(0, .ref (b + 45)), (1, .ref (adK si))] [] μ ((f_X3_readWord_b12 si n μ)) := by
  unfold f_X3_readWord_b12
  refine z_iconst (pc := 12) dX3_readWord_12 zci_0 ?_
  refine z_istore_n (pc := 13) (L' := [(0, .ref (b + 45)), (1, .ref (adK si)), (3, .int 0)]) dX3_readWord_13 (by decide) rfl ?_
  exact w_X3_readWord_14 hZ hsi n 0 μ

set_option maxRecDepth 20000 in
theorem w_X3_readWord_0 {D : va_G} {cI cL : ClassId} {b : Nat} {Z : State → Heap → Prop} {adK adV : Nat → Nat} {w : Option Nat} (hZ : ∀ s H, (zEc D cI cL b Z).2.1 s H → z_ZS adK adV w (zEc D cI cL b Z).2.2 s H) {si : Nat} (hsi : si < 5) (n : Nat) (a2 : Int32) (μ : z_M) : z_w (zEc D cI cL b Z) (RX3, cX3_readWord, 4, none, 4) z_ev 0 [(0, .ref (b + 45)), (1, .ref (adK si)), (2, .int a2)] [] μ ((f_X3_readWord si n a2 μ)) := by
  unfold f_X3_readWord
  refine z_iload_n (pc := 0) dX3_readWord_0 rfl ?_
  refine z_if_ne (pc := 1) (tgt := 12) dX3_readWord_1 (by decide) (fun _ => ?_) (fun _ => ?_)
  · refine z_aload_n (pc := 4) dX3_readWord_4 rfl ?_
    refine z_aload_n (pc := 5) dX3_readWord_5 rfl ?_
    refine zgI_X3_46 (pc := 6) gc_45 rfl dX3_readWord_6 ?_
    refine z_letPO (fun m1 hm1 => ?_)
    refine z_callVv (pc := 9) (As := [.int (μ.1 45 3)]) (S := []) (c_X3_fail (μ.1 45 3) μ) (z_pV hm1) zw_X3_fail zv_X3_fail zm_X3_59 (n := 1) (by decide) rfl (z_recv gc_45 (T := TX3) (N := 5) rfl) rfl (Nat.le_of_ble_eq_true rfl) (by decide) (by decide) dX3_readWord_9 ?_
    refine z_drop (L' := [(0, .ref (b + 45)), (1, .ref (adK si))]) [0, 1] rfl ?_
    exact w_X3_readWord_12 hZ hsi n m1
  · refine z_drop (L' := [(0, .ref (b + 45)), (1, .ref (adK si))]) [0, 1] rfl ?_
    exact w_X3_readWord_12 hZ hsi n μ

set_option maxRecDepth 20000 in
theorem c_X3_readWord {D : va_G} {cI cL : ClassId} {b : Nat} {Z : State → Heap → Prop} {adK adV : Nat → Nat} {w : Option Nat} (hZ : ∀ s H, (zEc D cI cL b Z).2.1 s H → z_ZS adK adV w (zEc D cI cL b Z).2.2 s H) {si : Nat} (hsi : si < 5) (n : Nat) (a2 : Int32) (μ : z_M) : z_S (zEc D cI cL b Z) 4 yX3_readWord cX3_readWord 4 none z_ev [.ref (b + 45), .ref (adK si), .int a2] μ ((f_X3_readWord si n a2 μ)) :=
  z_entry (yn := yX3_readWord) (by decide) (Nat.le_of_ble_eq_true rfl) rfl (w_X3_readWord_0 hZ hsi n a2 μ)

def f_X3_readHouse (n : Nat)  (μ : z_M) : Option (Unit × z_M) :=
  z_bind (f_X3_readWord 0 n (f_X6_hasRoomForHouse 15 μ) μ) (fun p1 => z_bind (f_X3_readNumber n 0 6 (-1) p1.2) (fun p2 => z_bind (f_X3_readNumber n 0 255 (-1) p2.2) (fun p3 => z_bind (f_X3_readNumber n 0 255 (-1) p3.2) (fun p4 => if (p4.2.1 45 4) = (-1) then (z_let (f_X6_addHouse 15 p2.1 p3.1 p4.1 p4.2) (fun p5 => some ((), p5.2))) else (some ((), p4.2))))))
set_option maxRecDepth 20000 in
theorem w_X3_readHouse_0 {D : va_G} {cI cL : ClassId} {b : Nat} {Z : State → Heap → Prop} {adK adV : Nat → Nat} {w : Option Nat} (hZ : ∀ s H, (zEc D cI cL b Z).2.1 s H → z_ZS adK adV w (zEc D cI cL b Z).2.2 s H) (n : Nat)  (μ : z_M) : z_w (zEc D cI cL b Z) (RX3, cX3_readHouse, 4, none, 5) z_ev 0 [(0, .ref (b + 45))] [] μ ((f_X3_readHouse n μ)) := by
  unfold f_X3_readHouse
  refine z_aload_n (pc := 0) dX3_readHouse_0 rfl ?_
  refine z_ldcS (pc := 1) (fun s H h => (hZ s H h).2.1.1) dX3_readHouse_1 ?_
  refine z_aload_n (pc := 3) dX3_readHouse_3 rfl ?_
  refine zgR_X3_15 (pc := 4) gc_45 rfl dX3_readHouse_4 ?_
  refine z_callVi (pc := 7) (As := []) (S := [.ref (adK 0), .ref (b + 45)]) (c_X6_hasRoomForHouse zstr_15 μ) rfl zw_X6_hasRoomForHouse zv_X6_hasRoomForHouse zm_X3_93 (n := 0) (by decide) rfl (z_recv gc_15 (T := TX6) (N := 10) rfl) rfl (Nat.le_of_ble_eq_true rfl) (by decide) (by decide) dX3_readHouse_7 ?_
  refine z_bindP (fun p1 hp1 => ?_)
  refine z_callVv (pc := 10) (As := [.ref (adK 0), .int (f_X6_hasRoomForHouse 15 μ)]) (S := []) (c_X3_readWord hZ (by decide) n (f_X6_hasRoomForHouse 15 μ) μ) hp1 zw_X3_readWord zv_X3_readWord zm_X3_98 (n := 2) (by decide) rfl (z_recv gc_45 (T := TX3) (N := 5) rfl) rfl (Nat.le_of_ble_eq_true rfl) (by decide) (by decide) dX3_readHouse_10 ?_
  refine z_aload_n (pc := 13) dX3_readHouse_13 rfl ?_
  refine z_iconst (pc := 14) dX3_readHouse_14 zci_0 ?_
  refine z_bipush (pc := 15) dX3_readHouse_15 zcb_6 ?_
  refine z_iconst (pc := 17) dX3_readHouse_17 zci_m1 ?_
  refine z_bindP (fun p2 hp2 => ?_)
  refine z_callVi (pc := 18) (As := [.int 0, .int 6, .int (-1)]) (S := []) (c_X3_readNumber n 0 6 (-1) p1.2) hp2 zw_X3_readNumber zv_X3_readNumber zm_X3_104 (n := 3) (by decide) rfl (z_recv gc_45 (T := TX3) (N := 5) rfl) rfl (Nat.le_of_ble_eq_true rfl) (by decide) (by decide) dX3_readHouse_18 ?_
  refine z_istore_n (pc := 21) (L' := [(0, .ref (b + 45)), (1, .int p2.1)]) dX3_readHouse_21 (by decide) rfl ?_
  refine z_aload_n (pc := 22) dX3_readHouse_22 rfl ?_
  refine z_iconst (pc := 23) dX3_readHouse_23 zci_0 ?_
  refine z_sipush (pc := 24) dX3_readHouse_24 zcs_255 ?_
  refine z_iconst (pc := 27) dX3_readHouse_27 zci_m1 ?_
  refine z_bindP (fun p3 hp3 => ?_)
  refine z_callVi (pc := 28) (As := [.int 0, .int 255, .int (-1)]) (S := []) (c_X3_readNumber n 0 255 (-1) p2.2) hp3 zw_X3_readNumber zv_X3_readNumber zm_X3_104 (n := 3) (by decide) rfl (z_recv gc_45 (T := TX3) (N := 5) rfl) rfl (Nat.le_of_ble_eq_true rfl) (by decide) (by decide) dX3_readHouse_28 ?_
  refine z_istore_n (pc := 31) (L' := [(0, .ref (b + 45)), (1, .int p2.1), (2, .int p3.1)]) dX3_readHouse_31 (by decide) rfl ?_
  refine z_aload_n (pc := 32) dX3_readHouse_32 rfl ?_
  refine z_iconst (pc := 33) dX3_readHouse_33 zci_0 ?_
  refine z_sipush (pc := 34) dX3_readHouse_34 zcs_255 ?_
  refine z_iconst (pc := 37) dX3_readHouse_37 zci_m1 ?_
  refine z_bindP (fun p4 hp4 => ?_)
  refine z_callVi (pc := 38) (As := [.int 0, .int 255, .int (-1)]) (S := []) (c_X3_readNumber n 0 255 (-1) p3.2) hp4 zw_X3_readNumber zv_X3_readNumber zm_X3_104 (n := 3) (by decide) rfl (z_recv gc_45 (T := TX3) (N := 5) rfl) rfl (Nat.le_of_ble_eq_true rfl) (by decide) (by decide) dX3_readHouse_38 ?_
  refine z_istore_n (pc := 41) (L' := [(0, .ref (b + 45)), (1, .int p2.1), (2, .int p3.1), (3, .int p4.1)]) dX3_readHouse_41 (by decide) rfl ?_
  refine z_aload_n (pc := 42) dX3_readHouse_42 rfl ?_
  refine zgI_X3_30 (pc := 43) gc_45 rfl dX3_readHouse_43 ?_
  refine z_iconst (pc := 46) dX3_readHouse_46 zci_m1 ?_
  refine z_icmp_ne (pc := 47) (tgt := 61) dX3_readHouse_47 (by decide) (fun _ => ?_) (fun _ => ?_)
  · refine z_aload_n (pc := 50) dX3_readHouse_50 rfl ?_
    refine zgR_X3_15 (pc := 51) gc_45 rfl dX3_readHouse_51 ?_
    refine z_iload_n (pc := 54) dX3_readHouse_54 rfl ?_
    refine z_iload_n (pc := 55) dX3_readHouse_55 rfl ?_
    refine z_iload_n (pc := 56) dX3_readHouse_56 rfl ?_
    refine z_letPO (fun p5 hp5 => ?_)
    refine z_callVi (pc := 57) (As := [.int p2.1, .int p3.1, .int p4.1]) (S := []) (c_X6_addHouse zstr_15 p2.1 p3.1 p4.1 p4.2) (z_pT hp5) zw_X6_addHouse zv_X6_addHouse zm_X3_108 (n := 3) (by decide) rfl (z_recv gc_15 (T := TX6) (N := 10) rfl) rfl (Nat.le_of_ble_eq_true rfl) (by decide) (by decide) dX3_readHouse_57 ?_
    refine z_pop (pc := 60) dX3_readHouse_60 rfl ?_
    exact z_vret (pc := 61) rfl dX3_readHouse_61
  · exact z_vret (pc := 61) rfl dX3_readHouse_61

set_option maxRecDepth 20000 in
theorem c_X3_readHouse {D : va_G} {cI cL : ClassId} {b : Nat} {Z : State → Heap → Prop} {adK adV : Nat → Nat} {w : Option Nat} (hZ : ∀ s H, (zEc D cI cL b Z).2.1 s H → z_ZS adK adV w (zEc D cI cL b Z).2.2 s H) (n : Nat)  (μ : z_M) : z_S (zEc D cI cL b Z) 5 yX3_readHouse cX3_readHouse 4 none z_ev [.ref (b + 45)] μ ((f_X3_readHouse n μ)) :=
  z_entry (yn := yX3_readHouse) (by decide) (Nat.le_of_ble_eq_true rfl) rfl (w_X3_readHouse_0 hZ n  μ)

def f_X3_readWay (n : Nat)  (μ : z_M) : Option (Unit × z_M) :=
  z_bind (f_X3_readWord 1 n (f_X6_hasRoomForWay 15 μ) μ) (fun p1 => z_bind (f_X3_readNumber n 0 ((f_X6_houseCount 15 p1.2) - 1) (-1) p1.2) (fun p2 => z_bind (f_X3_readNumber n 0 ((f_X6_houseCount 15 p2.2) - 1) p2.1 p2.2) (fun p3 => z_bind (f_X3_readNumber n 1 60 (-1) p3.2) (fun p4 => if (p4.2.1 45 4) = (-1) then (z_let (f_X6_addWay 15 p2.1 p3.1 p4.1 p4.2) (fun p5 => some ((), p5.2))) else (some ((), p4.2))))))
set_option maxRecDepth 20000 in
theorem w_X3_readWay_0 {D : va_G} {cI cL : ClassId} {b : Nat} {Z : State → Heap → Prop} {adK adV : Nat → Nat} {w : Option Nat} (hZ : ∀ s H, (zEc D cI cL b Z).2.1 s H → z_ZS adK adV w (zEc D cI cL b Z).2.2 s H) (n : Nat)  (μ : z_M) : z_w (zEc D cI cL b Z) (RX3, cX3_readWay, 4, none, 5) z_ev 0 [(0, .ref (b + 45))] [] μ ((f_X3_readWay n μ)) := by
  unfold f_X3_readWay
  refine z_aload_n (pc := 0) dX3_readWay_0 rfl ?_
  refine z_ldcS (pc := 1) (fun s H h => (hZ s H h).2.1.2.1) dX3_readWay_1 ?_
  refine z_aload_n (pc := 3) dX3_readWay_3 rfl ?_
  refine zgR_X3_15 (pc := 4) gc_45 rfl dX3_readWay_4 ?_
  refine z_callVi (pc := 7) (As := []) (S := [.ref (adK 1), .ref (b + 45)]) (c_X6_hasRoomForWay zstr_15 μ) rfl zw_X6_hasRoomForWay zv_X6_hasRoomForWay zm_X3_113 (n := 0) (by decide) rfl (z_recv gc_15 (T := TX6) (N := 10) rfl) rfl (Nat.le_of_ble_eq_true rfl) (by decide) (by decide) dX3_readWay_7 ?_
  refine z_bindP (fun p1 hp1 => ?_)
  refine z_callVv (pc := 10) (As := [.ref (adK 1), .int (f_X6_hasRoomForWay 15 μ)]) (S := []) (c_X3_readWord hZ (by decide) n (f_X6_hasRoomForWay 15 μ) μ) hp1 zw_X3_readWord zv_X3_readWord zm_X3_98 (n := 2) (by decide) rfl (z_recv gc_45 (T := TX3) (N := 5) rfl) rfl (Nat.le_of_ble_eq_true rfl) (by decide) (by decide) dX3_readWay_10 ?_
  refine z_aload_n (pc := 13) dX3_readWay_13 rfl ?_
  refine z_iconst (pc := 14) dX3_readWay_14 zci_0 ?_
  refine z_aload_n (pc := 15) dX3_readWay_15 rfl ?_
  refine zgR_X3_15 (pc := 16) gc_45 rfl dX3_readWay_16 ?_
  refine z_callVi (pc := 19) (As := []) (S := [.int 0, .ref (b + 45)]) (c_X6_houseCount zstr_15 p1.2) rfl zw_X6_houseCount zv_X6_houseCount zm_X3_116 (n := 0) (by decide) rfl (z_recv gc_15 (T := TX6) (N := 10) rfl) rfl (Nat.le_of_ble_eq_true rfl) (by decide) (by decide) dX3_readWay_19 ?_
  refine z_iconst (pc := 22) dX3_readWay_22 zci_1 ?_
  refine z_isub (pc := 23) dX3_readWay_23 ?_
  refine z_iconst (pc := 24) dX3_readWay_24 zci_m1 ?_
  refine z_bindP (fun p2 hp2 => ?_)
  refine z_callVi (pc := 25) (As := [.int 0, .int ((f_X6_houseCount 15 p1.2) - 1), .int (-1)]) (S := []) (c_X3_readNumber n 0 ((f_X6_houseCount 15 p1.2) - 1) (-1) p1.2) hp2 zw_X3_readNumber zv_X3_readNumber zm_X3_104 (n := 3) (by decide) rfl (z_recv gc_45 (T := TX3) (N := 5) rfl) rfl (Nat.le_of_ble_eq_true rfl) (by decide) (by decide) dX3_readWay_25 ?_
  refine z_istore_n (pc := 28) (L' := [(0, .ref (b + 45)), (1, .int p2.1)]) dX3_readWay_28 (by decide) rfl ?_
  refine z_aload_n (pc := 29) dX3_readWay_29 rfl ?_
  refine z_iconst (pc := 30) dX3_readWay_30 zci_0 ?_
  refine z_aload_n (pc := 31) dX3_readWay_31 rfl ?_
  refine zgR_X3_15 (pc := 32) gc_45 rfl dX3_readWay_32 ?_
  refine z_callVi (pc := 35) (As := []) (S := [.int 0, .ref (b + 45)]) (c_X6_houseCount zstr_15 p2.2) rfl zw_X6_houseCount zv_X6_houseCount zm_X3_116 (n := 0) (by decide) rfl (z_recv gc_15 (T := TX6) (N := 10) rfl) rfl (Nat.le_of_ble_eq_true rfl) (by decide) (by decide) dX3_readWay_35 ?_
  refine z_iconst (pc := 38) dX3_readWay_38 zci_1 ?_
  refine z_isub (pc := 39) dX3_readWay_39 ?_
  refine z_iload_n (pc := 40) dX3_readWay_40 rfl ?_
  refine z_bindP (fun p3 hp3 => ?_)
  refine z_callVi (pc := 41) (As := [.int 0, .int ((f_X6_houseCount 15 p2.2) - 1), .int p2.1]) (S := []) (c_X3_readNumber n 0 ((f_X6_houseCount 15 p2.2) - 1) p2.1 p2.2) hp3 zw_X3_readNumber zv_X3_readNumber zm_X3_104 (n := 3) (by decide) rfl (z_recv gc_45 (T := TX3) (N := 5) rfl) rfl (Nat.le_of_ble_eq_true rfl) (by decide) (by decide) dX3_readWay_41 ?_
  refine z_istore_n (pc := 44) (L' := [(0, .ref (b + 45)), (1, .int p2.1), (2, .int p3.1)]) dX3_readWay_44 (by decide) rfl ?_
  refine z_aload_n (pc := 45) dX3_readWay_45 rfl ?_
  refine z_iconst (pc := 46) dX3_readWay_46 zci_1 ?_
  refine z_bipush (pc := 47) dX3_readWay_47 zcb_60 ?_
  refine z_iconst (pc := 49) dX3_readWay_49 zci_m1 ?_
  refine z_bindP (fun p4 hp4 => ?_)
  refine z_callVi (pc := 50) (As := [.int 1, .int 60, .int (-1)]) (S := []) (c_X3_readNumber n 1 60 (-1) p3.2) hp4 zw_X3_readNumber zv_X3_readNumber zm_X3_104 (n := 3) (by decide) rfl (z_recv gc_45 (T := TX3) (N := 5) rfl) rfl (Nat.le_of_ble_eq_true rfl) (by decide) (by decide) dX3_readWay_50 ?_
  refine z_istore_n (pc := 53) (L' := [(0, .ref (b + 45)), (1, .int p2.1), (2, .int p3.1), (3, .int p4.1)]) dX3_readWay_53 (by decide) rfl ?_
  refine z_aload_n (pc := 54) dX3_readWay_54 rfl ?_
  refine zgI_X3_30 (pc := 55) gc_45 rfl dX3_readWay_55 ?_
  refine z_iconst (pc := 58) dX3_readWay_58 zci_m1 ?_
  refine z_icmp_ne (pc := 59) (tgt := 73) dX3_readWay_59 (by decide) (fun _ => ?_) (fun _ => ?_)
  · refine z_aload_n (pc := 62) dX3_readWay_62 rfl ?_
    refine zgR_X3_15 (pc := 63) gc_45 rfl dX3_readWay_63 ?_
    refine z_iload_n (pc := 66) dX3_readWay_66 rfl ?_
    refine z_iload_n (pc := 67) dX3_readWay_67 rfl ?_
    refine z_iload_n (pc := 68) dX3_readWay_68 rfl ?_
    refine z_letPO (fun p5 hp5 => ?_)
    refine z_callVi (pc := 69) (As := [.int p2.1, .int p3.1, .int p4.1]) (S := []) (c_X6_addWay zstr_15 p2.1 p3.1 p4.1 p4.2) (z_pT hp5) zw_X6_addWay zv_X6_addWay zm_X3_119 (n := 3) (by decide) rfl (z_recv gc_15 (T := TX6) (N := 10) rfl) rfl (Nat.le_of_ble_eq_true rfl) (by decide) (by decide) dX3_readWay_69 ?_
    refine z_pop (pc := 72) dX3_readWay_72 rfl ?_
    exact z_vret (pc := 73) rfl dX3_readWay_73
  · exact z_vret (pc := 73) rfl dX3_readWay_73

set_option maxRecDepth 20000 in
theorem c_X3_readWay {D : va_G} {cI cL : ClassId} {b : Nat} {Z : State → Heap → Prop} {adK adV : Nat → Nat} {w : Option Nat} (hZ : ∀ s H, (zEc D cI cL b Z).2.1 s H → z_ZS adK adV w (zEc D cI cL b Z).2.2 s H) (n : Nat)  (μ : z_M) : z_S (zEc D cI cL b Z) 5 yX3_readWay cX3_readWay 4 none z_ev [.ref (b + 45)] μ ((f_X3_readWay n μ)) :=
  z_entry (yn := yX3_readWay) (by decide) (Nat.le_of_ble_eq_true rfl) rfl (w_X3_readWay_0 hZ n  μ)

def f_X3_readShut (n : Nat)  (μ : z_M) : Option (Unit × z_M) :=
  z_bind (f_X3_readWord 2 n 1 μ) (fun p1 => z_bind (f_X3_readNumber n 0 ((f_X6_wayCount 15 p1.2) - 1) (-1) p1.2) (fun p2 => if (p2.2.1 45 4) = (-1) then (z_let (f_X6_changeShut 15 p2.1 1 p2.2) (fun p3 => some ((), p3.2))) else (some ((), p2.2))))
set_option maxRecDepth 20000 in
theorem w_X3_readShut_0 {D : va_G} {cI cL : ClassId} {b : Nat} {Z : State → Heap → Prop} {adK adV : Nat → Nat} {w : Option Nat} (hZ : ∀ s H, (zEc D cI cL b Z).2.1 s H → z_ZS adK adV w (zEc D cI cL b Z).2.2 s H) (n : Nat)  (μ : z_M) : z_w (zEc D cI cL b Z) (RX3, cX3_readShut, 2, none, 5) z_ev 0 [(0, .ref (b + 45))] [] μ ((f_X3_readShut n μ)) := by
  unfold f_X3_readShut
  refine z_aload_n (pc := 0) dX3_readShut_0 rfl ?_
  refine z_ldcS (pc := 1) (fun s H h => (hZ s H h).2.1.2.2.1) dX3_readShut_1 ?_
  refine z_iconst (pc := 3) dX3_readShut_3 zci_1 ?_
  refine z_bindP (fun p1 hp1 => ?_)
  refine z_callVv (pc := 4) (As := [.ref (adK 2), .int 1]) (S := []) (c_X3_readWord hZ (by decide) n 1 μ) hp1 zw_X3_readWord zv_X3_readWord zm_X3_98 (n := 2) (by decide) rfl (z_recv gc_45 (T := TX3) (N := 5) rfl) rfl (Nat.le_of_ble_eq_true rfl) (by decide) (by decide) dX3_readShut_4 ?_
  refine z_aload_n (pc := 7) dX3_readShut_7 rfl ?_
  refine z_iconst (pc := 8) dX3_readShut_8 zci_0 ?_
  refine z_aload_n (pc := 9) dX3_readShut_9 rfl ?_
  refine zgR_X3_15 (pc := 10) gc_45 rfl dX3_readShut_10 ?_
  refine z_callVi (pc := 13) (As := []) (S := [.int 0, .ref (b + 45)]) (c_X6_wayCount zstr_15 p1.2) rfl zw_X6_wayCount zv_X6_wayCount zm_X3_124 (n := 0) (by decide) rfl (z_recv gc_15 (T := TX6) (N := 10) rfl) rfl (Nat.le_of_ble_eq_true rfl) (by decide) (by decide) dX3_readShut_13 ?_
  refine z_iconst (pc := 16) dX3_readShut_16 zci_1 ?_
  refine z_isub (pc := 17) dX3_readShut_17 ?_
  refine z_iconst (pc := 18) dX3_readShut_18 zci_m1 ?_
  refine z_bindP (fun p2 hp2 => ?_)
  refine z_callVi (pc := 19) (As := [.int 0, .int ((f_X6_wayCount 15 p1.2) - 1), .int (-1)]) (S := []) (c_X3_readNumber n 0 ((f_X6_wayCount 15 p1.2) - 1) (-1) p1.2) hp2 zw_X3_readNumber zv_X3_readNumber zm_X3_104 (n := 3) (by decide) rfl (z_recv gc_45 (T := TX3) (N := 5) rfl) rfl (Nat.le_of_ble_eq_true rfl) (by decide) (by decide) dX3_readShut_19 ?_
  refine z_istore_n (pc := 22) (L' := [(0, .ref (b + 45)), (1, .int p2.1)]) dX3_readShut_22 (by decide) rfl ?_
  refine z_aload_n (pc := 23) dX3_readShut_23 rfl ?_
  refine zgI_X3_30 (pc := 24) gc_45 rfl dX3_readShut_24 ?_
  refine z_iconst (pc := 27) dX3_readShut_27 zci_m1 ?_
  refine z_icmp_ne (pc := 28) (tgt := 41) dX3_readShut_28 (by decide) (fun _ => ?_) (fun _ => ?_)
  · refine z_aload_n (pc := 31) dX3_readShut_31 rfl ?_
    refine zgR_X3_15 (pc := 32) gc_45 rfl dX3_readShut_32 ?_
    refine z_iload_n (pc := 35) dX3_readShut_35 rfl ?_
    refine z_iconst (pc := 36) dX3_readShut_36 zci_1 ?_
    refine z_letPO (fun p3 hp3 => ?_)
    refine z_callVi (pc := 37) (As := [.int p2.1, .int 1]) (S := []) (c_X6_changeShut zstr_15 p2.1 1 p2.2) (z_pT hp3) zw_X6_changeShut zv_X6_changeShut zm_X3_127 (n := 2) (by decide) rfl (z_recv gc_15 (T := TX6) (N := 10) rfl) rfl (Nat.le_of_ble_eq_true rfl) (by decide) (by decide) dX3_readShut_37 ?_
    refine z_pop (pc := 40) dX3_readShut_40 rfl ?_
    exact z_vret (pc := 41) rfl dX3_readShut_41
  · exact z_vret (pc := 41) rfl dX3_readShut_41

set_option maxRecDepth 20000 in
theorem c_X3_readShut {D : va_G} {cI cL : ClassId} {b : Nat} {Z : State → Heap → Prop} {adK adV : Nat → Nat} {w : Option Nat} (hZ : ∀ s H, (zEc D cI cL b Z).2.1 s H → z_ZS adK adV w (zEc D cI cL b Z).2.2 s H) (n : Nat)  (μ : z_M) : z_S (zEc D cI cL b Z) 5 yX3_readShut cX3_readShut 2 none z_ev [.ref (b + 45)] μ ((f_X3_readShut n μ)) :=
  z_entry (yn := yX3_readShut) (by decide) (Nat.le_of_ble_eq_true rfl) rfl (w_X3_readShut_0 hZ n  μ)

def f_X3_readLag (n : Nat)  (μ : z_M) : Option (Unit × z_M) :=
  z_bind (f_X3_readWord 3 n 1 μ) (fun p1 => z_bind (f_X3_readNumber n 1 3 (-1) p1.2) (fun p2 => if (p2.2.1 45 4) = (-1) then (z_let (f_X6_changeLag 15 p2.1 p2.2) (fun m3 => some ((), m3))) else (some ((), p2.2))))
set_option maxRecDepth 20000 in
theorem w_X3_readLag_0 {D : va_G} {cI cL : ClassId} {b : Nat} {Z : State → Heap → Prop} {adK adV : Nat → Nat} {w : Option Nat} (hZ : ∀ s H, (zEc D cI cL b Z).2.1 s H → z_ZS adK adV w (zEc D cI cL b Z).2.2 s H) (n : Nat)  (μ : z_M) : z_w (zEc D cI cL b Z) (RX3, cX3_readLag, 2, none, 5) z_ev 0 [(0, .ref (b + 45))] [] μ ((f_X3_readLag n μ)) := by
  unfold f_X3_readLag
  refine z_aload_n (pc := 0) dX3_readLag_0 rfl ?_
  refine z_ldcS (pc := 1) (fun s H h => (hZ s H h).2.1.2.2.2.1) dX3_readLag_1 ?_
  refine z_iconst (pc := 3) dX3_readLag_3 zci_1 ?_
  refine z_bindP (fun p1 hp1 => ?_)
  refine z_callVv (pc := 4) (As := [.ref (adK 3), .int 1]) (S := []) (c_X3_readWord hZ (by decide) n 1 μ) hp1 zw_X3_readWord zv_X3_readWord zm_X3_98 (n := 2) (by decide) rfl (z_recv gc_45 (T := TX3) (N := 5) rfl) rfl (Nat.le_of_ble_eq_true rfl) (by decide) (by decide) dX3_readLag_4 ?_
  refine z_aload_n (pc := 7) dX3_readLag_7 rfl ?_
  refine z_iconst (pc := 8) dX3_readLag_8 zci_1 ?_
  refine z_iconst (pc := 9) dX3_readLag_9 zci_3 ?_
  refine z_iconst (pc := 10) dX3_readLag_10 zci_m1 ?_
  refine z_bindP (fun p2 hp2 => ?_)
  refine z_callVi (pc := 11) (As := [.int 1, .int 3, .int (-1)]) (S := []) (c_X3_readNumber n 1 3 (-1) p1.2) hp2 zw_X3_readNumber zv_X3_readNumber zm_X3_104 (n := 3) (by decide) rfl (z_recv gc_45 (T := TX3) (N := 5) rfl) rfl (Nat.le_of_ble_eq_true rfl) (by decide) (by decide) dX3_readLag_11 ?_
  refine z_istore_n (pc := 14) (L' := [(0, .ref (b + 45)), (1, .int p2.1)]) dX3_readLag_14 (by decide) rfl ?_
  refine z_aload_n (pc := 15) dX3_readLag_15 rfl ?_
  refine zgI_X3_30 (pc := 16) gc_45 rfl dX3_readLag_16 ?_
  refine z_iconst (pc := 19) dX3_readLag_19 zci_m1 ?_
  refine z_icmp_ne (pc := 20) (tgt := 31) dX3_readLag_20 (by decide) (fun _ => ?_) (fun _ => ?_)
  · refine z_aload_n (pc := 23) dX3_readLag_23 rfl ?_
    refine zgR_X3_15 (pc := 24) gc_45 rfl dX3_readLag_24 ?_
    refine z_iload_n (pc := 27) dX3_readLag_27 rfl ?_
    refine z_letPO (fun m3 hm3 => ?_)
    refine z_callVv (pc := 28) (As := [.int p2.1]) (S := []) (c_X6_changeLag zstr_15 p2.1 p2.2) (z_pV hm3) zw_X6_changeLag zv_X6_changeLag zm_X3_133 (n := 1) (by decide) rfl (z_recv gc_15 (T := TX6) (N := 10) rfl) rfl (Nat.le_of_ble_eq_true rfl) (by decide) (by decide) dX3_readLag_28 ?_
    exact z_vret (pc := 31) rfl dX3_readLag_31
  · exact z_vret (pc := 31) rfl dX3_readLag_31

set_option maxRecDepth 20000 in
theorem c_X3_readLag {D : va_G} {cI cL : ClassId} {b : Nat} {Z : State → Heap → Prop} {adK adV : Nat → Nat} {w : Option Nat} (hZ : ∀ s H, (zEc D cI cL b Z).2.1 s H → z_ZS adK adV w (zEc D cI cL b Z).2.2 s H) (n : Nat)  (μ : z_M) : z_S (zEc D cI cL b Z) 5 yX3_readLag cX3_readLag 2 none z_ev [.ref (b + 45)] μ ((f_X3_readLag n μ)) :=
  z_entry (yn := yX3_readLag) (by decide) (Nat.le_of_ble_eq_true rfl) rfl (w_X3_readLag_0 hZ n  μ)

def f_X3_readBird (n : Nat)  (μ : z_M) : Option (Unit × z_M) :=
  z_bind (f_X3_readWord 4 n 1 μ) (fun p1 => z_bind (f_X3_readNumber n 0 ((f_X6_houseCount 15 p1.2) - 1) (-1) p1.2) (fun p2 => if (p2.2.1 45 4) = (-1) then (z_let (f_X6_setBird 15 p2.1 p2.2) (fun m3 => some ((), m3))) else (some ((), p2.2))))
set_option maxRecDepth 20000 in
theorem w_X3_readBird_0 {D : va_G} {cI cL : ClassId} {b : Nat} {Z : State → Heap → Prop} {adK adV : Nat → Nat} {w : Option Nat} (hZ : ∀ s H, (zEc D cI cL b Z).2.1 s H → z_ZS adK adV w (zEc D cI cL b Z).2.2 s H) (n : Nat)  (μ : z_M) : z_w (zEc D cI cL b Z) (RX3, cX3_readBird, 2, none, 5) z_ev 0 [(0, .ref (b + 45))] [] μ ((f_X3_readBird n μ)) := by
  unfold f_X3_readBird
  refine z_aload_n (pc := 0) dX3_readBird_0 rfl ?_
  refine z_ldcS (pc := 1) (fun s H h => (hZ s H h).2.1.2.2.2.2) dX3_readBird_1 ?_
  refine z_iconst (pc := 3) dX3_readBird_3 zci_1 ?_
  refine z_bindP (fun p1 hp1 => ?_)
  refine z_callVv (pc := 4) (As := [.ref (adK 4), .int 1]) (S := []) (c_X3_readWord hZ (by decide) n 1 μ) hp1 zw_X3_readWord zv_X3_readWord zm_X3_98 (n := 2) (by decide) rfl (z_recv gc_45 (T := TX3) (N := 5) rfl) rfl (Nat.le_of_ble_eq_true rfl) (by decide) (by decide) dX3_readBird_4 ?_
  refine z_aload_n (pc := 7) dX3_readBird_7 rfl ?_
  refine z_iconst (pc := 8) dX3_readBird_8 zci_0 ?_
  refine z_aload_n (pc := 9) dX3_readBird_9 rfl ?_
  refine zgR_X3_15 (pc := 10) gc_45 rfl dX3_readBird_10 ?_
  refine z_callVi (pc := 13) (As := []) (S := [.int 0, .ref (b + 45)]) (c_X6_houseCount zstr_15 p1.2) rfl zw_X6_houseCount zv_X6_houseCount zm_X3_116 (n := 0) (by decide) rfl (z_recv gc_15 (T := TX6) (N := 10) rfl) rfl (Nat.le_of_ble_eq_true rfl) (by decide) (by decide) dX3_readBird_13 ?_
  refine z_iconst (pc := 16) dX3_readBird_16 zci_1 ?_
  refine z_isub (pc := 17) dX3_readBird_17 ?_
  refine z_iconst (pc := 18) dX3_readBird_18 zci_m1 ?_
  refine z_bindP (fun p2 hp2 => ?_)
  refine z_callVi (pc := 19) (As := [.int 0, .int ((f_X6_houseCount 15 p1.2) - 1), .int (-1)]) (S := []) (c_X3_readNumber n 0 ((f_X6_houseCount 15 p1.2) - 1) (-1) p1.2) hp2 zw_X3_readNumber zv_X3_readNumber zm_X3_104 (n := 3) (by decide) rfl (z_recv gc_45 (T := TX3) (N := 5) rfl) rfl (Nat.le_of_ble_eq_true rfl) (by decide) (by decide) dX3_readBird_19 ?_
  refine z_istore_n (pc := 22) (L' := [(0, .ref (b + 45)), (1, .int p2.1)]) dX3_readBird_22 (by decide) rfl ?_
  refine z_aload_n (pc := 23) dX3_readBird_23 rfl ?_
  refine zgI_X3_30 (pc := 24) gc_45 rfl dX3_readBird_24 ?_
  refine z_iconst (pc := 27) dX3_readBird_27 zci_m1 ?_
  refine z_icmp_ne (pc := 28) (tgt := 39) dX3_readBird_28 (by decide) (fun _ => ?_) (fun _ => ?_)
  · refine z_aload_n (pc := 31) dX3_readBird_31 rfl ?_
    refine zgR_X3_15 (pc := 32) gc_45 rfl dX3_readBird_32 ?_
    refine z_iload_n (pc := 35) dX3_readBird_35 rfl ?_
    refine z_letPO (fun m3 hm3 => ?_)
    refine z_callVv (pc := 36) (As := [.int p2.1]) (S := []) (c_X6_setBird zstr_15 p2.1 p2.2) (z_pV hm3) zw_X6_setBird zv_X6_setBird zm_X3_138 (n := 1) (by decide) rfl (z_recv gc_15 (T := TX6) (N := 10) rfl) rfl (Nat.le_of_ble_eq_true rfl) (by decide) (by decide) dX3_readBird_36 ?_
    exact z_vret (pc := 39) rfl dX3_readBird_39
  · exact z_vret (pc := 39) rfl dX3_readBird_39

set_option maxRecDepth 20000 in
theorem c_X3_readBird {D : va_G} {cI cL : ClassId} {b : Nat} {Z : State → Heap → Prop} {adK adV : Nat → Nat} {w : Option Nat} (hZ : ∀ s H, (zEc D cI cL b Z).2.1 s H → z_ZS adK adV w (zEc D cI cL b Z).2.2 s H) (n : Nat)  (μ : z_M) : z_S (zEc D cI cL b Z) 5 yX3_readBird cX3_readBird 2 none z_ev [.ref (b + 45)] μ ((f_X3_readBird n μ)) :=
  z_entry (yn := yX3_readBird) (by decide) (Nat.le_of_ble_eq_true rfl) rfl (w_X3_readBird_0 hZ n  μ)

def f_X3_readItem (n : Nat)  (μ : z_M) : Option (Unit × z_M) :=
  if (μ.1 45 4) = (-1) then (if (g_get 47 160 (μ.1 45 3) μ) = 98 then (z_bind (f_X3_readBird n μ) (fun p1 => some ((), p1.2))) else (if (g_get 47 160 (μ.1 45 3) μ) = 104 then (z_bind (f_X3_readHouse n μ) (fun p2 => some ((), p2.2))) else (if (g_get 47 160 (μ.1 45 3) μ) = 108 then (z_bind (f_X3_readLag n μ) (fun p3 => some ((), p3.2))) else (if (g_get 47 160 (μ.1 45 3) μ) = 115 then (z_bind (f_X3_readShut n μ) (fun p4 => some ((), p4.2))) else (if (g_get 47 160 (μ.1 45 3) μ) = 119 then (z_bind (f_X3_readWay n μ) (fun p5 => some ((), p5.2))) else (z_let (f_X3_fail (μ.1 45 3) μ) (fun m6 => some ((), m6)))))))) else (some ((), μ))
set_option maxRecDepth 20000 in
theorem w_X3_readItem_0 {D : va_G} {cI cL : ClassId} {b : Nat} {Z : State → Heap → Prop} {adK adV : Nat → Nat} {w : Option Nat} (hZ : ∀ s H, (zEc D cI cL b Z).2.1 s H → z_ZS adK adV w (zEc D cI cL b Z).2.2 s H) (n : Nat)  (μ : z_M) : z_w (zEc D cI cL b Z) (RX3, cX3_readItem, 1, none, 6) z_ev 0 [(0, .ref (b + 45))] [] μ ((f_X3_readItem n μ)) := by
  unfold f_X3_readItem
  refine z_aload_n (pc := 0) dX3_readItem_0 rfl ?_
  refine zgI_X3_30 (pc := 1) gc_45 rfl dX3_readItem_1 ?_
  refine z_iconst (pc := 4) dX3_readItem_4 zci_m1 ?_
  refine z_icmp_eq (pc := 5) (tgt := 9) dX3_readItem_5 (by decide) (fun _ => ?_) (fun _ => ?_)
  · refine z_aload_n (pc := 9) dX3_readItem_9 rfl ?_
    refine zgR_X3_26 (pc := 10) gc_45 rfl dX3_readItem_10 ?_
    refine z_aload_n (pc := 13) dX3_readItem_13 rfl ?_
    refine zgI_X3_46 (pc := 14) gc_45 rfl dX3_readItem_14 ?_
    refine z_callVi (pc := 17) (As := [.int (μ.1 45 3)]) (S := []) (g_X1_get gc_46 gc_47 (Nat.le_of_ble_eq_true rfl) (μ.1 45 3) μ) rfl zw_X1_get zv_X1_get zm_X3_56 (n := 1) (by decide) rfl (z_recv gc_46 (T := TX1) (N := 1) rfl) rfl (Nat.le_of_ble_eq_true rfl) (by decide) (by decide) dX3_readItem_17 ?_
    refine z_split (fun hx => ?_) (fun hs20_0 => ?_)
    · refine z_lookup (pc := 20) (off := 80) (tgt := 100) dX3_readItem_20 (by decide) (by rw [hx]; decide) (by decide) ?_
      refine z_aload_n (pc := 100) dX3_readItem_100 rfl ?_
      refine z_bindP (fun p1 hp1 => ?_)
      refine z_callVv (pc := 101) (As := []) (S := []) (c_X3_readBird hZ n μ) hp1 zw_X3_readBird zv_X3_readBird zm_X3_88 (n := 0) (by decide) rfl (z_recv gc_45 (T := TX3) (N := 5) rfl) rfl (Nat.le_of_ble_eq_true rfl) (by decide) (by decide) dX3_readItem_101 ?_
      refine z_goto (pc := 104) (tgt := 115) dX3_readItem_104 (by decide) ?_
      exact z_vret (pc := 115) rfl dX3_readItem_115
    · refine z_split (fun hx => ?_) (fun hs20_1 => ?_)
      · refine z_lookup (pc := 20) (off := 52) (tgt := 72) dX3_readItem_20 (by decide) (by rw [hx]; decide) (by decide) ?_
        refine z_aload_n (pc := 72) dX3_readItem_72 rfl ?_
        refine z_bindP (fun p2 hp2 => ?_)
        refine z_callVv (pc := 73) (As := []) (S := []) (c_X3_readHouse hZ n μ) hp2 zw_X3_readHouse zv_X3_readHouse zm_X3_76 (n := 0) (by decide) rfl (z_recv gc_45 (T := TX3) (N := 5) rfl) rfl (Nat.le_of_ble_eq_true rfl) (by decide) (by decide) dX3_readItem_73 ?_
        refine z_goto (pc := 76) (tgt := 115) dX3_readItem_76 (by decide) ?_
        exact z_vret (pc := 115) rfl dX3_readItem_115
      · refine z_split (fun hx => ?_) (fun hs20_2 => ?_)
        · refine z_lookup (pc := 20) (off := 73) (tgt := 93) dX3_readItem_20 (by decide) (by rw [hx]; decide) (by decide) ?_
          refine z_aload_n (pc := 93) dX3_readItem_93 rfl ?_
          refine z_bindP (fun p3 hp3 => ?_)
          refine z_callVv (pc := 94) (As := []) (S := []) (c_X3_readLag hZ n μ) hp3 zw_X3_readLag zv_X3_readLag zm_X3_85 (n := 0) (by decide) rfl (z_recv gc_45 (T := TX3) (N := 5) rfl) rfl (Nat.le_of_ble_eq_true rfl) (by decide) (by decide) dX3_readItem_94 ?_
          refine z_goto (pc := 97) (tgt := 115) dX3_readItem_97 (by decide) ?_
          exact z_vret (pc := 115) rfl dX3_readItem_115
        · refine z_split (fun hx => ?_) (fun hs20_3 => ?_)
          · refine z_lookup (pc := 20) (off := 66) (tgt := 86) dX3_readItem_20 (by decide) (by rw [hx]; decide) (by decide) ?_
            refine z_aload_n (pc := 86) dX3_readItem_86 rfl ?_
            refine z_bindP (fun p4 hp4 => ?_)
            refine z_callVv (pc := 87) (As := []) (S := []) (c_X3_readShut hZ n μ) hp4 zw_X3_readShut zv_X3_readShut zm_X3_82 (n := 0) (by decide) rfl (z_recv gc_45 (T := TX3) (N := 5) rfl) rfl (Nat.le_of_ble_eq_true rfl) (by decide) (by decide) dX3_readItem_87 ?_
            refine z_goto (pc := 90) (tgt := 115) dX3_readItem_90 (by decide) ?_
            exact z_vret (pc := 115) rfl dX3_readItem_115
          · refine z_split (fun hx => ?_) (fun hs20_4 => ?_)
            · refine z_lookup (pc := 20) (off := 59) (tgt := 79) dX3_readItem_20 (by decide) (by rw [hx]; decide) (by decide) ?_
              refine z_aload_n (pc := 79) dX3_readItem_79 rfl ?_
              refine z_bindP (fun p5 hp5 => ?_)
              refine z_callVv (pc := 80) (As := []) (S := []) (c_X3_readWay hZ n μ) hp5 zw_X3_readWay zv_X3_readWay zm_X3_79 (n := 0) (by decide) rfl (z_recv gc_45 (T := TX3) (N := 5) rfl) rfl (Nat.le_of_ble_eq_true rfl) (by decide) (by decide) dX3_readItem_80 ?_
              refine z_goto (pc := 83) (tgt := 115) dX3_readItem_83 (by decide) ?_
              exact z_vret (pc := 115) rfl dX3_readItem_115
            · refine z_lookup (pc := 20) (off := 87) (tgt := 107) dX3_readItem_20 (by decide) (by rw [lv_osw hs20_0 (by decide), lv_osw hs20_1 (by decide), lv_osw hs20_2 (by decide), lv_osw hs20_3 (by decide), lv_osw hs20_4 (by decide)]; rfl) (by decide) ?_
              refine z_aload_n (pc := 107) dX3_readItem_107 rfl ?_
              refine z_aload_n (pc := 108) dX3_readItem_108 rfl ?_
              refine zgI_X3_46 (pc := 109) gc_45 rfl dX3_readItem_109 ?_
              refine z_letPO (fun m6 hm6 => ?_)
              refine z_callVv (pc := 112) (As := [.int (μ.1 45 3)]) (S := []) (c_X3_fail (μ.1 45 3) μ) (z_pV hm6) zw_X3_fail zv_X3_fail zm_X3_59 (n := 1) (by decide) rfl (z_recv gc_45 (T := TX3) (N := 5) rfl) rfl (Nat.le_of_ble_eq_true rfl) (by decide) (by decide) dX3_readItem_112 ?_
              exact z_vret (pc := 115) rfl dX3_readItem_115
  · exact z_vret (pc := 8) rfl dX3_readItem_8

set_option maxRecDepth 20000 in
theorem c_X3_readItem {D : va_G} {cI cL : ClassId} {b : Nat} {Z : State → Heap → Prop} {adK adV : Nat → Nat} {w : Option Nat} (hZ : ∀ s H, (zEc D cI cL b Z).2.1 s H → z_ZS adK adV w (zEc D cI cL b Z).2.2 s H) (n : Nat)  (μ : z_M) : z_S (zEc D cI cL b Z) 6 yX3_readItem cX3_readItem 1 none z_ev [.ref (b + 45)] μ ((f_X3_readItem n μ)) :=
  z_entry (yn := yX3_readItem) (by decide) (Nat.le_of_ble_eq_true rfl) rfl (w_X3_readItem_0 hZ n  μ)

def f_X3_readItems_h60 : Nat → Int32 → Int32 → Int32 → z_M → Option (Int32 × z_M)
  | 0, _, _, _, _ => none
  | n + 1, l2, l3, l4, μ =>
    if l4 < l2 then (if (μ.1 45 4) = (-1) then (if (μ.1 45 3) < l2 then (z_let (f_X3_readLetter 59 μ) (fun m7 => z_bind (f_X3_readItem n m7) (fun p8 => f_X3_readItems_h60 n l2 (l3 + 1) (l4 + 1) p8.2))) else (some (l3, μ))) else (some (l3, μ))) else (some (l3, μ))
def f_X3_readItems_h11 : Nat → Int32 → Int32 → Int32 → z_M → Option (Int32 × z_M)
  | 0, _, _, _, _ => none
  | n + 1, l1, l2, l3, μ =>
    if l3 < 160 then (z_bind (f_X5_intAt l1 l3 μ) (fun p2 => z_let (g_put 47 160 l3 p2.1 p2.2) (fun m3 => f_X3_readItems_h11 n l1 l2 (l3 + 1) m3))) else (z_let (z_sI μ 45 3 0) (fun m4 => z_let (z_sI m4 45 4 (-1)) (fun m5 => z_bind (f_X3_readItem n m5) (fun p6 => f_X3_readItems_h60 n l2 1 0 p6.2))))
def f_X3_readItems (n : Nat) (a1 : Int32) (μ : z_M) : Option (Int32 × z_M) :=
  z_let ((f_X5_size a1 μ) : Int32) (fun x1 => f_X3_readItems_h11 n a1 x1 0 μ)
set_option maxRecDepth 20000 in
theorem w_X3_readItems_60 {D : va_G} {cI cL : ClassId} {b : Nat} {Z : State → Heap → Prop} {adK adV : Nat → Nat} {w : Option Nat} (hZ : ∀ s H, (zEc D cI cL b Z).2.1 s H → z_ZS adK adV w (zEc D cI cL b Z).2.2 s H) : ∀ (n : Nat) (l2 : Int32) (l3 : Int32) (l4 : Int32) (μ : z_M), z_w (zEc D cI cL b Z) (RX3, cX3_readItems, 5, (some .int), 7) z_ei 60 [(0, .ref (b + 45)), (2, .int l2), (3, .int l3), (4, .int l4)] [] μ (f_X3_readItems_h60 n l2 l3 l4 μ) := by
  intro n
  induction n with
  | zero =>
    intro l2 l3 l4 μ
    exact z_none
  | succ n ih =>
    intro l2 l3 l4 μ
    unfold f_X3_readItems_h60
    refine z_iload (pc := 60) dX3_readItems_60 rfl ?_
    refine z_iload_n (pc := 62) dX3_readItems_62 rfl ?_
    refine z_icmp_ge (pc := 63) (tgt := 101) dX3_readItems_63 (by decide) (fun _ => ?_) (fun _ => ?_)
    · refine z_aload_n (pc := 66) dX3_readItems_66 rfl ?_
      refine zgI_X3_30 (pc := 67) gc_45 rfl dX3_readItems_67 ?_
      refine z_iconst (pc := 70) dX3_readItems_70 zci_m1 ?_
      refine z_icmp_ne (pc := 71) (tgt := 101) dX3_readItems_71 (by decide) (fun _ => ?_) (fun _ => ?_)
      · refine z_aload_n (pc := 74) dX3_readItems_74 rfl ?_
        refine zgI_X3_46 (pc := 75) gc_45 rfl dX3_readItems_75 ?_
        refine z_iload_n (pc := 78) dX3_readItems_78 rfl ?_
        refine z_icmp_ge (pc := 79) (tgt := 101) dX3_readItems_79 (by decide) (fun _ => ?_) (fun _ => ?_)
        · refine z_aload_n (pc := 82) dX3_readItems_82 rfl ?_
          refine z_bipush (pc := 83) dX3_readItems_83 zcb_59 ?_
          refine z_letPO (fun m7 hm7 => ?_)
          refine z_callVv (pc := 85) (As := [.int 59]) (S := []) (c_X3_readLetter 59 μ) (z_pV hm7) zw_X3_readLetter zv_X3_readLetter zm_X3_52 (n := 1) (by decide) rfl (z_recv gc_45 (T := TX3) (N := 5) rfl) rfl (Nat.le_of_ble_eq_true rfl) (by decide) (by decide) dX3_readItems_85 ?_
          refine z_aload_n (pc := 88) dX3_readItems_88 rfl ?_
          refine z_bindP (fun p8 hp8 => ?_)
          refine z_callVv (pc := 89) (As := []) (S := []) (c_X3_readItem hZ n m7) hp8 zw_X3_readItem zv_X3_readItem zm_X3_49 (n := 0) (by decide) rfl (z_recv gc_45 (T := TX3) (N := 5) rfl) rfl (Nat.le_of_ble_eq_true rfl) (by decide) (by decide) dX3_readItems_89 ?_
          refine z_iinc (pc := 92) (v := (l3 + 1)) (L' := [(0, .ref (b + 45)), (2, .int l2), (3, .int (l3 + 1)), (4, .int l4)]) dX3_readItems_92 rfl (by decide) rfl rfl ?_
          refine z_iinc (pc := 95) (v := (l4 + 1)) (L' := [(0, .ref (b + 45)), (2, .int l2), (3, .int (l3 + 1)), (4, .int (l4 + 1))]) dX3_readItems_95 rfl (by decide) rfl rfl ?_
          refine z_goto (pc := 98) (tgt := 60) dX3_readItems_98 (by decide) ?_
          exact ih l2 (l3 + 1) (l4 + 1) p8.2
        · refine z_iload_n (pc := 101) dX3_readItems_101 rfl ?_
          exact z_iret (pc := 102) rfl dX3_readItems_102
      · refine z_iload_n (pc := 101) dX3_readItems_101 rfl ?_
        exact z_iret (pc := 102) rfl dX3_readItems_102
    · refine z_iload_n (pc := 101) dX3_readItems_101 rfl ?_
      exact z_iret (pc := 102) rfl dX3_readItems_102

set_option maxRecDepth 20000 in
theorem w_X3_readItems_11 {D : va_G} {cI cL : ClassId} {b : Nat} {Z : State → Heap → Prop} {adK adV : Nat → Nat} {w : Option Nat} (hZ : ∀ s H, (zEc D cI cL b Z).2.1 s H → z_ZS adK adV w (zEc D cI cL b Z).2.2 s H) : ∀ (n : Nat) (l1 : Int32) (l2 : Int32) (l3 : Int32) (μ : z_M), z_w (zEc D cI cL b Z) (RX3, cX3_readItems, 5, (some .int), 7) z_ei 11 [(0, .ref (b + 45)), (1, .int l1), (2, .int l2), (3, .int l3)] [] μ (f_X3_readItems_h11 n l1 l2 l3 μ) := by
  intro n
  induction n with
  | zero =>
    intro l1 l2 l3 μ
    exact z_none
  | succ n ih =>
    intro l1 l2 l3 μ
    unfold f_X3_readItems_h11
    refine z_iload_n (pc := 11) dX3_readItems_11 rfl ?_
    refine z_sipush (pc := 12) dX3_readItems_12 zcs_160 ?_
    refine z_icmp_ge (pc := 15) (tgt := 41) dX3_readItems_15 (by decide) (fun _ => ?_) (fun _ => ?_)
    · refine z_aload_n (pc := 18) dX3_readItems_18 rfl ?_
      refine zgR_X3_26 (pc := 19) gc_45 rfl dX3_readItems_19 ?_
      refine z_iload_n (pc := 22) dX3_readItems_22 rfl ?_
      refine z_aload_n (pc := 23) dX3_readItems_23 rfl ?_
      refine zgR_X3_9 (pc := 24) gc_45 rfl dX3_readItems_24 ?_
      refine z_iload_n (pc := 27) dX3_readItems_27 rfl ?_
      refine z_iload_n (pc := 28) dX3_readItems_28 rfl ?_
      refine z_bindP (fun p2 hp2 => ?_)
      refine z_callVi (pc := 29) (As := [.int l1, .int l3]) (S := [.int l3, .ref (b + 46)]) (c_X5_intAt l1 l3 μ) hp2 zw_X5_intAt zv_X5_intAt zm_X3_38 (n := 2) (by decide) rfl (z_recv gc_22 (T := TX5) (N := 3) rfl) rfl (Nat.le_of_ble_eq_true rfl) (by decide) (by decide) dX3_readItems_29 ?_
      refine z_letPO (fun m3 hm3 => ?_)
      refine z_callVv (pc := 32) (As := [.int l3, .int p2.1]) (S := []) (g_X1_keep gc_46 gc_47 (Nat.le_of_ble_eq_true rfl) l3 p2.1 p2.2) (z_pV hm3) zw_X1_keep zv_X1_keep zm_X3_42 (n := 2) (by decide) rfl (z_recv gc_46 (T := TX1) (N := 1) rfl) rfl (Nat.le_of_ble_eq_true rfl) (by decide) (by decide) dX3_readItems_32 ?_
      refine z_iinc (pc := 35) (v := (l3 + 1)) (L' := [(0, .ref (b + 45)), (1, .int l1), (2, .int l2), (3, .int (l3 + 1))]) dX3_readItems_35 rfl (by decide) rfl rfl ?_
      refine z_goto (pc := 38) (tgt := 11) dX3_readItems_38 (by decide) ?_
      exact ih l1 l2 (l3 + 1) m3
    · refine z_aload_n (pc := 41) dX3_readItems_41 rfl ?_
      refine z_iconst (pc := 42) dX3_readItems_42 zci_0 ?_
      refine zpI_X3_46 (pc := 43) gc_45 rfl dX3_readItems_43 ?_
      refine z_letMO (fun m4 => ?_)
      refine z_aload_n (pc := 46) dX3_readItems_46 rfl ?_
      refine z_iconst (pc := 47) dX3_readItems_47 zci_m1 ?_
      refine zpI_X3_30 (pc := 48) gc_45 rfl dX3_readItems_48 ?_
      refine z_letMO (fun m5 => ?_)
      refine z_aload_n (pc := 51) dX3_readItems_51 rfl ?_
      refine z_bindP (fun p6 hp6 => ?_)
      refine z_callVv (pc := 52) (As := []) (S := []) (c_X3_readItem hZ n m5) hp6 zw_X3_readItem zv_X3_readItem zm_X3_49 (n := 0) (by decide) rfl (z_recv gc_45 (T := TX3) (N := 5) rfl) rfl (Nat.le_of_ble_eq_true rfl) (by decide) (by decide) dX3_readItems_52 ?_
      refine z_iconst (pc := 55) dX3_readItems_55 zci_1 ?_
      refine z_istore_n (pc := 56) (L' := [(0, .ref (b + 45)), (1, .int l1), (2, .int l2), (3, .int 1)]) dX3_readItems_56 (by decide) rfl ?_
      refine z_iconst (pc := 57) dX3_readItems_57 zci_0 ?_
      refine z_istore (pc := 58) (L' := [(0, .ref (b + 45)), (1, .int l1), (2, .int l2), (3, .int 1), (4, .int 0)]) dX3_readItems_58 (by decide) rfl ?_
      refine z_drop (L' := [(0, .ref (b + 45)), (2, .int l2), (3, .int 1), (4, .int 0)]) [0, 2, 3, 4] rfl ?_
      exact w_X3_readItems_60 hZ n l2 1 0 p6.2

set_option maxRecDepth 20000 in
theorem w_X3_readItems_0 {D : va_G} {cI cL : ClassId} {b : Nat} {Z : State → Heap → Prop} {adK adV : Nat → Nat} {w : Option Nat} (hZ : ∀ s H, (zEc D cI cL b Z).2.1 s H → z_ZS adK adV w (zEc D cI cL b Z).2.2 s H) (n : Nat) (a1 : Int32) (μ : z_M) : z_w (zEc D cI cL b Z) (RX3, cX3_readItems, 5, (some .int), 7) z_ei 0 [(0, .ref (b + 45)), (1, .int a1)] [] μ ((f_X3_readItems n a1 μ)) := by
  unfold f_X3_readItems
  refine z_aload_n (pc := 0) dX3_readItems_0 rfl ?_
  refine zgR_X3_9 (pc := 1) gc_45 rfl dX3_readItems_1 ?_
  refine z_iload_n (pc := 4) dX3_readItems_4 rfl ?_
  refine z_callVi (pc := 5) (As := [.int a1]) (S := []) (c_X5_size a1 μ) rfl zw_X5_size zv_X5_size zm_X3_34 (n := 1) (by decide) rfl (z_recv gc_22 (T := TX5) (N := 3) rfl) rfl (Nat.le_of_ble_eq_true rfl) (by decide) (by decide) dX3_readItems_5 ?_
  refine z_letIO (fun x1 => ?_)
  refine z_istore_n (pc := 8) (L' := [(0, .ref (b + 45)), (1, .int a1), (2, .int x1)]) dX3_readItems_8 (by decide) rfl ?_
  refine z_iconst (pc := 9) dX3_readItems_9 zci_0 ?_
  refine z_istore_n (pc := 10) (L' := [(0, .ref (b + 45)), (1, .int a1), (2, .int x1), (3, .int 0)]) dX3_readItems_10 (by decide) rfl ?_
  exact w_X3_readItems_11 hZ n a1 x1 0 μ

set_option maxRecDepth 20000 in
theorem c_X3_readItems {D : va_G} {cI cL : ClassId} {b : Nat} {Z : State → Heap → Prop} {adK adV : Nat → Nat} {w : Option Nat} (hZ : ∀ s H, (zEc D cI cL b Z).2.1 s H → z_ZS adK adV w (zEc D cI cL b Z).2.2 s H) (n : Nat) (a1 : Int32) (μ : z_M) : z_S (zEc D cI cL b Z) 7 yX3_readItems cX3_readItems 5 (some .int) z_ei [.ref (b + 45), .int a1] μ ((f_X3_readItems n a1 μ)) :=
  z_entry (yn := yX3_readItems) (by decide) (Nat.le_of_ble_eq_true rfl) rfl (w_X3_readItems_0 hZ n a1 μ)

def f_X8_refuse (a1 : Int32) (μ : z_M) : Int32 × z_M :=
  z_let (g_put 49 8 (-a1) ((g_get 49 8 (-a1) μ) + 1) μ) (fun m1 => (a1, m1))
set_option maxRecDepth 20000 in
theorem w_X8_refuse_0 {D : va_G} {cI cL : ClassId} {b : Nat} {Z : State → Heap → Prop}  (a1 : Int32) (μ : z_M) : z_w (zEc D cI cL b Z) (RX8, cX8_refuse, 2, (some .int), 1) z_ei 0 [(0, .ref (b + 0)), (1, .int a1)] [] μ (z_oT (f_X8_refuse a1 μ)) := by
  unfold f_X8_refuse
  refine z_aload_n (pc := 0) dX8_refuse_0 rfl ?_
  refine zgR_X8_68 (pc := 1) gc_0 rfl dX8_refuse_1 ?_
  refine z_iload_n (pc := 4) dX8_refuse_4 rfl ?_
  refine z_ineg (pc := 5) dX8_refuse_5 ?_
  refine z_aload_n (pc := 6) dX8_refuse_6 rfl ?_
  refine zgR_X8_68 (pc := 7) gc_0 rfl dX8_refuse_7 ?_
  refine z_iload_n (pc := 10) dX8_refuse_10 rfl ?_
  refine z_ineg (pc := 11) dX8_refuse_11 ?_
  refine z_callVi (pc := 12) (As := [.int (-a1)]) (S := [.int (-a1), .ref (b + 48)]) (g_X1_get gc_48 gc_49 (Nat.le_of_ble_eq_true rfl) (-a1) μ) rfl zw_X1_get zv_X1_get zm_X8_80 (n := 1) (by decide) rfl (z_recv gc_48 (T := TX1) (N := 1) rfl) rfl (Nat.le_of_ble_eq_true rfl) (by decide) (by decide) dX8_refuse_12 ?_
  refine z_iconst (pc := 15) dX8_refuse_15 zci_1 ?_
  refine z_iadd (pc := 16) dX8_refuse_16 ?_
  refine z_letP (fun m1 hm1 => ?_)
  refine z_callVv (pc := 17) (As := [.int (-a1), .int ((g_get 49 8 (-a1) μ) + 1)]) (S := []) (g_X1_keep gc_48 gc_49 (Nat.le_of_ble_eq_true rfl) (-a1) ((g_get 49 8 (-a1) μ) + 1) μ) (z_pV hm1) zw_X1_keep zv_X1_keep zm_X8_84 (n := 2) (by decide) rfl (z_recv gc_48 (T := TX1) (N := 1) rfl) rfl (Nat.le_of_ble_eq_true rfl) (by decide) (by decide) dX8_refuse_17 ?_
  refine z_iload_n (pc := 20) dX8_refuse_20 rfl ?_
  exact z_iret (pc := 21) rfl dX8_refuse_21

set_option maxRecDepth 20000 in
theorem c_X8_refuse {D : va_G} {cI cL : ClassId} {b : Nat} {Z : State → Heap → Prop}  (a1 : Int32) (μ : z_M) : z_S (zEc D cI cL b Z) 1 yX8_refuse cX8_refuse 2 (some .int) z_ei [.ref (b + 0), .int a1] μ (z_oT (f_X8_refuse a1 μ)) :=
  z_entry (yn := yX8_refuse) (by decide) (Nat.le_of_ble_eq_true rfl) rfl (w_X8_refuse_0 a1 μ)

def f_X8_refuseApart (a1 : Int32) (μ : z_M) : Int32 × z_M :=
  z_let (f_X8_refuse a1 μ) (fun p1 => ((p1.1 - 10), p1.2))
set_option maxRecDepth 20000 in
theorem w_X8_refuseApart_0 {D : va_G} {cI cL : ClassId} {b : Nat} {Z : State → Heap → Prop}  (a1 : Int32) (μ : z_M) : z_w (zEc D cI cL b Z) (RX8, cX8_refuseApart, 2, (some .int), 2) z_ei 0 [(0, .ref (b + 0)), (1, .int a1)] [] μ (z_oT (f_X8_refuseApart a1 μ)) := by
  unfold f_X8_refuseApart
  refine z_aload_n (pc := 0) dX8_refuseApart_0 rfl ?_
  refine z_iload_n (pc := 1) dX8_refuseApart_1 rfl ?_
  refine z_letP (fun p1 hp1 => ?_)
  refine z_callVi (pc := 2) (As := [.int a1]) (S := []) (c_X8_refuse a1 μ) (z_pT hp1) zw_X8_refuse zv_X8_refuse zm_X8_88 (n := 1) (by decide) rfl (z_recv gc_0 (T := TX8) (N := 11) rfl) rfl (Nat.le_of_ble_eq_true rfl) (by decide) (by decide) dX8_refuseApart_2 ?_
  refine z_bipush (pc := 5) dX8_refuseApart_5 zcb_10 ?_
  refine z_isub (pc := 7) dX8_refuseApart_7 ?_
  exact z_iret (pc := 8) rfl dX8_refuseApart_8

set_option maxRecDepth 20000 in
theorem c_X8_refuseApart {D : va_G} {cI cL : ClassId} {b : Nat} {Z : State → Heap → Prop}  (a1 : Int32) (μ : z_M) : z_S (zEc D cI cL b Z) 2 yX8_refuseApart cX8_refuseApart 2 (some .int) z_ei [.ref (b + 0), .int a1] μ (z_oT (f_X8_refuseApart a1 μ)) :=
  z_entry (yn := yX8_refuseApart) (by decide) (Nat.le_of_ble_eq_true rfl) rfl (w_X8_refuseApart_0 a1 μ)

def f_X8_isCount (a0 : Int32) (a1 : Int32) (a2 : Int32) (μ : z_M) : Int32 :=
  if a0 < a1 then (0) else (if a2 < a0 then (0) else (1))
set_option maxRecDepth 20000 in
theorem w_X8_isCount_0 {D : va_G} {cI cL : ClassId} {b : Nat} {Z : State → Heap → Prop}  (a0 : Int32) (a1 : Int32) (a2 : Int32) (μ : z_M) : z_w (zEc D cI cL b Z) (RX8, cX8_isCount, 3, (some .boolean), 0) z_ei 0 [(0, .int a0), (1, .int a1), (2, .int a2)] [] μ (z_oP μ (f_X8_isCount a0 a1 a2 μ)) := by
  unfold f_X8_isCount
  refine z_iload_n (pc := 0) dX8_isCount_0 rfl ?_
  refine z_iload_n (pc := 1) dX8_isCount_1 rfl ?_
  refine z_outIf ?_
  refine z_icmp_lt (pc := 2) (tgt := 14) dX8_isCount_2 (by decide) (fun _ => ?_) (fun _ => ?_)
  · refine z_iconst (pc := 14) dX8_isCount_14 zci_0 ?_
    exact z_zret (pc := 15) rfl dX8_isCount_15 (by decide)
  · refine z_iload_n (pc := 5) dX8_isCount_5 rfl ?_
    refine z_iload_n (pc := 6) dX8_isCount_6 rfl ?_
    refine z_outIf ?_
    refine z_icmp_gt (pc := 7) (tgt := 14) dX8_isCount_7 (by decide) (fun _ => ?_) (fun _ => ?_)
    · refine z_iconst (pc := 14) dX8_isCount_14 zci_0 ?_
      exact z_zret (pc := 15) rfl dX8_isCount_15 (by decide)
    · refine z_iconst (pc := 10) dX8_isCount_10 zci_1 ?_
      refine z_goto (pc := 11) (tgt := 15) dX8_isCount_11 (by decide) ?_
      exact z_zret (pc := 15) rfl dX8_isCount_15 (by decide)

set_option maxRecDepth 20000 in
theorem c_X8_isCount {D : va_G} {cI cL : ClassId} {b : Nat} {Z : State → Heap → Prop}  (a0 : Int32) (a1 : Int32) (a2 : Int32) (μ : z_M) : z_S (zEc D cI cL b Z) 0 yX8_isCount cX8_isCount 3 (some .boolean) z_ei [.int a0, .int a1, .int a2] μ (z_oP μ (f_X8_isCount a0 a1 a2 μ)) :=
  z_entry (yn := yX8_isCount) (by decide) (Nat.le_of_ble_eq_true rfl) rfl (w_X8_isCount_0 a0 a1 a2 μ)
set_option maxRecDepth 20000 in
theorem bl_X8_isCount (a0 : Int32) (a1 : Int32) (a2 : Int32) (μ : z_M) : f_X8_isCount a0 a1 a2 μ = 0 ∨ f_X8_isCount a0 a1 a2 μ = 1 := by
  unfold f_X8_isCount
  repeat' (first | with_reducible exact z_bl0 | with_reducible exact z_bl1 | with_reducible refine z_blI ?_ ?_ | with_reducible refine z_blL (fun _ => ?_))

def f_X8_isSet (a0 : Int32) (μ : z_M) : Int32 :=
  if a0 < 0 then (0) else (if (255 : Int32) < a0 then (0) else (1))
set_option maxRecDepth 20000 in
theorem w_X8_isSet_0 {D : va_G} {cI cL : ClassId} {b : Nat} {Z : State → Heap → Prop}  (a0 : Int32) (μ : z_M) : z_w (zEc D cI cL b Z) (RX8, cX8_isSet, 1, (some .boolean), 0) z_ei 0 [(0, .int a0)] [] μ (z_oP μ (f_X8_isSet a0 μ)) := by
  unfold f_X8_isSet
  refine z_iload_n (pc := 0) dX8_isSet_0 rfl ?_
  refine z_outIf ?_
  refine z_if_lt (pc := 1) (tgt := 15) dX8_isSet_1 (by decide) (fun _ => ?_) (fun _ => ?_)
  · refine z_iconst (pc := 15) dX8_isSet_15 zci_0 ?_
    exact z_zret (pc := 16) rfl dX8_isSet_16 (by decide)
  · refine z_iload_n (pc := 4) dX8_isSet_4 rfl ?_
    refine z_sipush (pc := 5) dX8_isSet_5 zcs_255 ?_
    refine z_outIf ?_
    refine z_icmp_gt (pc := 8) (tgt := 15) dX8_isSet_8 (by decide) (fun _ => ?_) (fun _ => ?_)
    · refine z_iconst (pc := 15) dX8_isSet_15 zci_0 ?_
      exact z_zret (pc := 16) rfl dX8_isSet_16 (by decide)
    · refine z_iconst (pc := 11) dX8_isSet_11 zci_1 ?_
      refine z_goto (pc := 12) (tgt := 16) dX8_isSet_12 (by decide) ?_
      exact z_zret (pc := 16) rfl dX8_isSet_16 (by decide)

set_option maxRecDepth 20000 in
theorem c_X8_isSet {D : va_G} {cI cL : ClassId} {b : Nat} {Z : State → Heap → Prop}  (a0 : Int32) (μ : z_M) : z_S (zEc D cI cL b Z) 0 yX8_isSet cX8_isSet 1 (some .boolean) z_ei [.int a0] μ (z_oP μ (f_X8_isSet a0 μ)) :=
  z_entry (yn := yX8_isSet) (by decide) (Nat.le_of_ble_eq_true rfl) rfl (w_X8_isSet_0 a0 μ)
set_option maxRecDepth 20000 in
theorem bl_X8_isSet (a0 : Int32) (μ : z_M) : f_X8_isSet a0 μ = 0 ∨ f_X8_isSet a0 μ = 1 := by
  unfold f_X8_isSet
  repeat' (first | with_reducible exact z_bl0 | with_reducible exact z_bl1 | with_reducible refine z_blI ?_ ?_ | with_reducible refine z_blL (fun _ => ?_))

def f_X8_isLag (a0 : Int32) (μ : z_M) : Int32 :=
  (f_X8_isCount a0 1 3 μ)
set_option maxRecDepth 20000 in
theorem w_X8_isLag_0 {D : va_G} {cI cL : ClassId} {b : Nat} {Z : State → Heap → Prop}  (a0 : Int32) (μ : z_M) : z_w (zEc D cI cL b Z) (RX8, cX8_isLag, 1, (some .boolean), 1) z_ei 0 [(0, .int a0)] [] μ (z_oP μ (f_X8_isLag a0 μ)) := by
  unfold f_X8_isLag
  refine z_iload_n (pc := 0) dX8_isLag_0 rfl ?_
  refine z_iconst (pc := 1) dX8_isLag_1 zci_1 ?_
  refine z_iconst (pc := 2) dX8_isLag_2 zci_3 ?_
  refine z_callSi (pc := 3) (As := [.int a0, .int 1, .int 3]) (S := []) (c_X8_isCount a0 1 3 μ) rfl zw_X8_isCount zs_X8_isCount zm_X8_91 (n := 3) (by decide) rfl rfl (Nat.le_of_ble_eq_true rfl) (by decide) (by decide) dX8_isLag_3 ?_
  exact z_zret (pc := 6) rfl dX8_isLag_6 (bl_X8_isCount a0 1 3 μ)

set_option maxRecDepth 20000 in
theorem c_X8_isLag {D : va_G} {cI cL : ClassId} {b : Nat} {Z : State → Heap → Prop}  (a0 : Int32) (μ : z_M) : z_S (zEc D cI cL b Z) 1 yX8_isLag cX8_isLag 1 (some .boolean) z_ei [.int a0] μ (z_oP μ (f_X8_isLag a0 μ)) :=
  z_entry (yn := yX8_isLag) (by decide) (Nat.le_of_ble_eq_true rfl) rfl (w_X8_isLag_0 a0 μ)
set_option maxRecDepth 20000 in
theorem bl_X8_isLag (a0 : Int32) (μ : z_M) : f_X8_isLag a0 μ = 0 ∨ f_X8_isLag a0 μ = 1 := by
  unfold f_X8_isLag
  repeat' (first | with_reducible exact z_bl0 | with_reducible exact z_bl1 | with_reducible apply bl_X8_isCount | with_reducible refine z_blI ?_ ?_ | with_reducible refine z_blL (fun _ => ?_))

def f_X8_troubleWithRoute_b34  (μ : z_M) : Int32 :=
  (-6)
def f_X8_troubleWithRoute (a1 : Int32) (a2 : Int32) (a3 : Int32) (μ : z_M) : Int32 :=
  z_let ((f_X5_troubleWithStart a1 a2 μ) : Int32) (fun x1 => if x1 = 0 then (if a3 < a2 then (f_X8_troubleWithRoute_b34 μ) else (if (f_X6_hasBird 1 μ) = 0 then (f_X8_troubleWithRoute_b34 μ) else (0))) else (x1))
set_option maxRecDepth 20000 in
theorem w_X8_troubleWithRoute_34 {D : va_G} {cI cL : ClassId} {b : Nat} {Z : State → Heap → Prop}   (μ : z_M) : z_w (zEc D cI cL b Z) (RX8, cX8_troubleWithRoute, 5, (some .int), 5) z_ei 34 [] [] μ (z_oP μ (f_X8_troubleWithRoute_b34 μ)) := by
  unfold f_X8_troubleWithRoute_b34
  refine z_bipush (pc := 34) dX8_troubleWithRoute_34 zcb_m6 ?_
  refine z_goto (pc := 36) (tgt := 40) dX8_troubleWithRoute_36 (by decide) ?_
  exact z_iret (pc := 40) rfl dX8_troubleWithRoute_40

set_option maxRecDepth 20000 in
theorem w_X8_troubleWithRoute_0 {D : va_G} {cI cL : ClassId} {b : Nat} {Z : State → Heap → Prop}  (a1 : Int32) (a2 : Int32) (a3 : Int32) (μ : z_M) : z_w (zEc D cI cL b Z) (RX8, cX8_troubleWithRoute, 5, (some .int), 5) z_ei 0 [(0, .ref (b + 0)), (1, .int a1), (2, .int a2), (3, .int a3)] [] μ (z_oP μ (f_X8_troubleWithRoute a1 a2 a3 μ)) := by
  unfold f_X8_troubleWithRoute
  refine z_aload_n (pc := 0) dX8_troubleWithRoute_0 rfl ?_
  refine zgR_X8_25 (pc := 1) gc_0 rfl dX8_troubleWithRoute_1 ?_
  refine z_iload_n (pc := 4) dX8_troubleWithRoute_4 rfl ?_
  refine z_iload_n (pc := 5) dX8_troubleWithRoute_5 rfl ?_
  refine z_callVi (pc := 6) (As := [.int a1, .int a2]) (S := []) (c_X5_troubleWithStart a1 a2 μ) rfl zw_X5_troubleWithStart zv_X5_troubleWithStart zm_X8_95 (n := 2) (by decide) rfl (z_recv gc_22 (T := TX5) (N := 3) rfl) rfl (Nat.le_of_ble_eq_true rfl) (by decide) (by decide) dX8_troubleWithRoute_6 ?_
  refine z_letI (fun x1 => ?_)
  refine z_istore (pc := 9) (L' := [(0, .ref (b + 0)), (1, .int a1), (2, .int a2), (3, .int a3), (4, .int x1)]) dX8_troubleWithRoute_9 (by decide) rfl ?_
  refine z_iload (pc := 11) dX8_troubleWithRoute_11 rfl ?_
  refine z_outIf ?_
  refine z_if_eq (pc := 13) (tgt := 19) dX8_troubleWithRoute_13 (by decide) (fun _ => ?_) (fun _ => ?_)
  · refine z_iload_n (pc := 19) dX8_troubleWithRoute_19 rfl ?_
    refine z_iload_n (pc := 20) dX8_troubleWithRoute_20 rfl ?_
    refine z_outIf ?_
    refine z_icmp_gt (pc := 21) (tgt := 34) dX8_troubleWithRoute_21 (by decide) (fun _ => ?_) (fun _ => ?_)
    · refine z_drop (L' := []) [] rfl ?_
      exact w_X8_troubleWithRoute_34 μ
    · refine z_aload_n (pc := 24) dX8_troubleWithRoute_24 rfl ?_
      refine zgR_X8_10 (pc := 25) gc_0 rfl dX8_troubleWithRoute_25 ?_
      refine z_callVi (pc := 28) (As := []) (S := []) (c_X6_hasBird zstr_1 μ) rfl zw_X6_hasBird zv_X6_hasBird zm_X8_99 (n := 0) (by decide) rfl (z_recv gc_1 (T := TX6) (N := 10) rfl) rfl (Nat.le_of_ble_eq_true rfl) (by decide) (by decide) dX8_troubleWithRoute_28 ?_
      refine z_outIf ?_
      refine z_if_ne (pc := 31) (tgt := 39) dX8_troubleWithRoute_31 (by decide) (fun _ => ?_) (fun _ => ?_)
      · refine z_drop (L' := []) [] rfl ?_
        exact w_X8_troubleWithRoute_34 μ
      · refine z_iconst (pc := 39) dX8_troubleWithRoute_39 zci_0 ?_
        exact z_iret (pc := 40) rfl dX8_troubleWithRoute_40
  · refine z_iload (pc := 16) dX8_troubleWithRoute_16 rfl ?_
    exact z_iret (pc := 18) rfl dX8_troubleWithRoute_18

set_option maxRecDepth 20000 in
theorem c_X8_troubleWithRoute {D : va_G} {cI cL : ClassId} {b : Nat} {Z : State → Heap → Prop}  (a1 : Int32) (a2 : Int32) (a3 : Int32) (μ : z_M) : z_S (zEc D cI cL b Z) 5 yX8_troubleWithRoute cX8_troubleWithRoute 5 (some .int) z_ei [.ref (b + 0), .int a1, .int a2, .int a3] μ (z_oP μ (f_X8_troubleWithRoute a1 a2 a3 μ)) :=
  z_entry (yn := yX8_troubleWithRoute) (by decide) (Nat.le_of_ble_eq_true rfl) rfl (w_X8_troubleWithRoute_0 a1 a2 a3 μ)

def f_X8_troubleInThought (a1 : Int32) (a2 : Int32) (a3 : Int32) (μ : z_M) : Int32 :=
  if (f_X6_isHouse 1 a1 μ) = 0 then ((-1)) else (if (f_X8_isSet a2 μ) = 0 then ((-6)) else (if a3 = 0 then ((-6)) else (if (f_X6_hasBird 1 μ) = 0 then ((-6)) else (0))))
set_option maxRecDepth 20000 in
theorem w_X8_troubleInThought_0 {D : va_G} {cI cL : ClassId} {b : Nat} {Z : State → Heap → Prop}  (a1 : Int32) (a2 : Int32) (a3 : Int32) (μ : z_M) : z_w (zEc D cI cL b Z) (RX8, cX8_troubleInThought, 4, (some .int), 1) z_ei 0 [(0, .ref (b + 0)), (1, .int a1), (2, .int a2), (3, .int a3)] [] μ (z_oP μ (f_X8_troubleInThought a1 a2 a3 μ)) := by
  unfold f_X8_troubleInThought
  refine z_aload_n (pc := 0) dX8_troubleInThought_0 rfl ?_
  refine zgR_X8_10 (pc := 1) gc_0 rfl dX8_troubleInThought_1 ?_
  refine z_iload_n (pc := 4) dX8_troubleInThought_4 rfl ?_
  refine z_callVi (pc := 5) (As := [.int a1]) (S := []) (c_X6_isHouse zstr_1 a1 μ) rfl zw_X6_isHouse zv_X6_isHouse zm_X8_103 (n := 1) (by decide) rfl (z_recv gc_1 (T := TX6) (N := 10) rfl) rfl (Nat.le_of_ble_eq_true rfl) (by decide) (by decide) dX8_troubleInThought_5 ?_
  refine z_outIf ?_
  refine z_if_ne (pc := 8) (tgt := 13) dX8_troubleInThought_8 (by decide) (fun _ => ?_) (fun _ => ?_)
  · refine z_iconst (pc := 11) dX8_troubleInThought_11 zci_m1 ?_
    exact z_iret (pc := 12) rfl dX8_troubleInThought_12
  · refine z_iload_n (pc := 13) dX8_troubleInThought_13 rfl ?_
    refine z_callSi (pc := 14) (As := [.int a2]) (S := []) (c_X8_isSet a2 μ) rfl zw_X8_isSet zs_X8_isSet zm_X8_107 (n := 1) (by decide) rfl rfl (Nat.le_of_ble_eq_true rfl) (by decide) (by decide) dX8_troubleInThought_14 ?_
    refine z_outIf ?_
    refine z_if_eq (pc := 17) (tgt := 38) dX8_troubleInThought_17 (by decide) (fun _ => ?_) (fun _ => ?_)
    · refine z_bipush (pc := 38) dX8_troubleInThought_38 zcb_m6 ?_
      exact z_iret (pc := 40) rfl dX8_troubleInThought_40
    · refine z_iload_n (pc := 20) dX8_troubleInThought_20 rfl ?_
      refine z_outIf ?_
      refine z_if_eq (pc := 21) (tgt := 38) dX8_troubleInThought_21 (by decide) (fun _ => ?_) (fun _ => ?_)
      · refine z_bipush (pc := 38) dX8_troubleInThought_38 zcb_m6 ?_
        exact z_iret (pc := 40) rfl dX8_troubleInThought_40
      · refine z_aload_n (pc := 24) dX8_troubleInThought_24 rfl ?_
        refine zgR_X8_10 (pc := 25) gc_0 rfl dX8_troubleInThought_25 ?_
        refine z_callVi (pc := 28) (As := []) (S := []) (c_X6_hasBird zstr_1 μ) rfl zw_X6_hasBird zv_X6_hasBird zm_X8_99 (n := 0) (by decide) rfl (z_recv gc_1 (T := TX6) (N := 10) rfl) rfl (Nat.le_of_ble_eq_true rfl) (by decide) (by decide) dX8_troubleInThought_28 ?_
        refine z_outIf ?_
        refine z_if_eq (pc := 31) (tgt := 38) dX8_troubleInThought_31 (by decide) (fun _ => ?_) (fun _ => ?_)
        · refine z_bipush (pc := 38) dX8_troubleInThought_38 zcb_m6 ?_
          exact z_iret (pc := 40) rfl dX8_troubleInThought_40
        · refine z_iconst (pc := 34) dX8_troubleInThought_34 zci_0 ?_
          refine z_goto (pc := 35) (tgt := 40) dX8_troubleInThought_35 (by decide) ?_
          exact z_iret (pc := 40) rfl dX8_troubleInThought_40

set_option maxRecDepth 20000 in
theorem c_X8_troubleInThought {D : va_G} {cI cL : ClassId} {b : Nat} {Z : State → Heap → Prop}  (a1 : Int32) (a2 : Int32) (a3 : Int32) (μ : z_M) : z_S (zEc D cI cL b Z) 1 yX8_troubleInThought cX8_troubleInThought 4 (some .int) z_ei [.ref (b + 0), .int a1, .int a2, .int a3] μ (z_oP μ (f_X8_troubleInThought a1 a2 a3 μ)) :=
  z_entry (yn := yX8_troubleInThought) (by decide) (Nat.le_of_ble_eq_true rfl) rfl (w_X8_troubleInThought_0 a1 a2 a3 μ)

def f_X8_row (n : Nat) (a1 : Int32) (a2 : Int32) (a3 : Int32) (μ : z_M) : Option (Int32 × z_M) :=
  if (f_X5_isShelf a1 μ) = 0 then (z_let (f_X8_refuse (-1) μ) (fun p1 => some (p1.1, p1.2))) else (if a3 < 0 then (z_let (f_X8_refuse (-4) μ) (fun p2 => some (p2.1, p2.2))) else (if (f_X5_isSort a2 μ) = 0 then (z_let (f_X8_refuse (-6) μ) (fun p3 => some (p3.1, p3.2))) else (if (160 : Int32) < a3 then (z_let (f_X8_refuse (-7) μ) (fun p4 => some (p4.1, p4.2))) else (z_bind (f_X5_holdRow n a1 a2 a3 μ) (fun p5 => some (1, p5.2))))))
set_option maxRecDepth 20000 in
theorem w_X8_row_0 {D : va_G} {cI cL : ClassId} {b : Nat} {Z : State → Heap → Prop}  (n : Nat) (a1 : Int32) (a2 : Int32) (a3 : Int32) (μ : z_M) : z_w (zEc D cI cL b Z) (RX8, cX8_row, 4, (some .int), 4) z_ei 0 [(0, .ref (b + 0)), (1, .int a1), (2, .int a2), (3, .int a3)] [] μ ((f_X8_row n a1 a2 a3 μ)) := by
  unfold f_X8_row
  refine z_aload_n (pc := 0) dX8_row_0 rfl ?_
  refine zgR_X8_25 (pc := 1) gc_0 rfl dX8_row_1 ?_
  refine z_iload_n (pc := 4) dX8_row_4 rfl ?_
  refine z_callVi (pc := 5) (As := [.int a1]) (S := []) (c_X5_isShelf a1 μ) rfl zw_X5_isShelf zv_X5_isShelf zm_X8_110 (n := 1) (by decide) rfl (z_recv gc_22 (T := TX5) (N := 3) rfl) rfl (Nat.le_of_ble_eq_true rfl) (by decide) (by decide) dX8_row_5 ?_
  refine z_if_ne (pc := 8) (tgt := 17) dX8_row_8 (by decide) (fun _ => ?_) (fun _ => ?_)
  · refine z_aload_n (pc := 11) dX8_row_11 rfl ?_
    refine z_iconst (pc := 12) dX8_row_12 zci_m1 ?_
    refine z_letPO (fun p1 hp1 => ?_)
    refine z_callVi (pc := 13) (As := [.int (-1)]) (S := []) (c_X8_refuse (-1) μ) (z_pT hp1) zw_X8_refuse zv_X8_refuse zm_X8_88 (n := 1) (by decide) rfl (z_recv gc_0 (T := TX8) (N := 11) rfl) rfl (Nat.le_of_ble_eq_true rfl) (by decide) (by decide) dX8_row_13 ?_
    exact z_iret (pc := 16) rfl dX8_row_16
  · refine z_iload_n (pc := 17) dX8_row_17 rfl ?_
    refine z_if_ge (pc := 18) (tgt := 28) dX8_row_18 (by decide) (fun _ => ?_) (fun _ => ?_)
    · refine z_aload_n (pc := 21) dX8_row_21 rfl ?_
      refine z_bipush (pc := 22) dX8_row_22 zcb_m4 ?_
      refine z_letPO (fun p2 hp2 => ?_)
      refine z_callVi (pc := 24) (As := [.int (-4)]) (S := []) (c_X8_refuse (-4) μ) (z_pT hp2) zw_X8_refuse zv_X8_refuse zm_X8_88 (n := 1) (by decide) rfl (z_recv gc_0 (T := TX8) (N := 11) rfl) rfl (Nat.le_of_ble_eq_true rfl) (by decide) (by decide) dX8_row_24 ?_
      exact z_iret (pc := 27) rfl dX8_row_27
    · refine z_aload_n (pc := 28) dX8_row_28 rfl ?_
      refine zgR_X8_25 (pc := 29) gc_0 rfl dX8_row_29 ?_
      refine z_iload_n (pc := 32) dX8_row_32 rfl ?_
      refine z_callVi (pc := 33) (As := [.int a2]) (S := []) (c_X5_isSort a2 μ) rfl zw_X5_isSort zv_X5_isSort zm_X8_113 (n := 1) (by decide) rfl (z_recv gc_22 (T := TX5) (N := 3) rfl) rfl (Nat.le_of_ble_eq_true rfl) (by decide) (by decide) dX8_row_33 ?_
      refine z_if_ne (pc := 36) (tgt := 46) dX8_row_36 (by decide) (fun _ => ?_) (fun _ => ?_)
      · refine z_aload_n (pc := 39) dX8_row_39 rfl ?_
        refine z_bipush (pc := 40) dX8_row_40 zcb_m6 ?_
        refine z_letPO (fun p3 hp3 => ?_)
        refine z_callVi (pc := 42) (As := [.int (-6)]) (S := []) (c_X8_refuse (-6) μ) (z_pT hp3) zw_X8_refuse zv_X8_refuse zm_X8_88 (n := 1) (by decide) rfl (z_recv gc_0 (T := TX8) (N := 11) rfl) rfl (Nat.le_of_ble_eq_true rfl) (by decide) (by decide) dX8_row_42 ?_
        exact z_iret (pc := 45) rfl dX8_row_45
      · refine z_iload_n (pc := 46) dX8_row_46 rfl ?_
        refine z_sipush (pc := 47) dX8_row_47 zcs_160 ?_
        refine z_icmp_le (pc := 50) (tgt := 60) dX8_row_50 (by decide) (fun _ => ?_) (fun _ => ?_)
        · refine z_aload_n (pc := 53) dX8_row_53 rfl ?_
          refine z_bipush (pc := 54) dX8_row_54 zcb_m7 ?_
          refine z_letPO (fun p4 hp4 => ?_)
          refine z_callVi (pc := 56) (As := [.int (-7)]) (S := []) (c_X8_refuse (-7) μ) (z_pT hp4) zw_X8_refuse zv_X8_refuse zm_X8_88 (n := 1) (by decide) rfl (z_recv gc_0 (T := TX8) (N := 11) rfl) rfl (Nat.le_of_ble_eq_true rfl) (by decide) (by decide) dX8_row_56 ?_
          exact z_iret (pc := 59) rfl dX8_row_59
        · refine z_aload_n (pc := 60) dX8_row_60 rfl ?_
          refine zgR_X8_25 (pc := 61) gc_0 rfl dX8_row_61 ?_
          refine z_iload_n (pc := 64) dX8_row_64 rfl ?_
          refine z_iload_n (pc := 65) dX8_row_65 rfl ?_
          refine z_iload_n (pc := 66) dX8_row_66 rfl ?_
          refine z_bindP (fun p5 hp5 => ?_)
          refine z_callVv (pc := 67) (As := [.int a1, .int a2, .int a3]) (S := []) (c_X5_holdRow n a1 a2 a3 μ) hp5 zw_X5_holdRow zv_X5_holdRow zm_X8_116 (n := 3) (by decide) rfl (z_recv gc_22 (T := TX5) (N := 3) rfl) rfl (Nat.le_of_ble_eq_true rfl) (by decide) (by decide) dX8_row_67 ?_
          refine z_iconst (pc := 70) dX8_row_70 zci_1 ?_
          exact z_iret (pc := 71) rfl dX8_row_71

set_option maxRecDepth 20000 in
theorem c_X8_row {D : va_G} {cI cL : ClassId} {b : Nat} {Z : State → Heap → Prop}  (n : Nat) (a1 : Int32) (a2 : Int32) (a3 : Int32) (μ : z_M) : z_S (zEc D cI cL b Z) 4 yX8_row cX8_row 4 (some .int) z_ei [.ref (b + 0), .int a1, .int a2, .int a3] μ ((f_X8_row n a1 a2 a3 μ)) :=
  z_entry (yn := yX8_row) (by decide) (Nat.le_of_ble_eq_true rfl) rfl (w_X8_row_0 n a1 a2 a3 μ)

def f_X8_set_b31 (l1 : Int32) (l2 : Int32) (l3 : Int64) (l5 : Int32) (μ : z_M) : Option (Int32 × z_M) :=
  if l5 = 0 then (z_bind (f_X5_keepElement l1 l2 l3 μ) (fun p2 => some (1, p2.2))) else (z_let (f_X8_refuse l5 μ) (fun p3 => some (p3.1, p3.2)))
def f_X8_set (a1 : Int32) (a2 : Int32) (a3 : Int64) (μ : z_M) : Option (Int32 × z_M) :=
  z_let ((f_X5_troubleWithRow a1 μ) : Int32) (fun x1 => if x1 = 0 then (if (f_X5_hasElement a1 a2 μ) = 0 then (f_X8_set_b31 a1 a2 a3 (-5) μ) else (f_X8_set_b31 a1 a2 a3 x1 μ)) else (f_X8_set_b31 a1 a2 a3 x1 μ))
set_option maxRecDepth 20000 in
theorem w_X8_set_31 {D : va_G} {cI cL : ClassId} {b : Nat} {Z : State → Heap → Prop}  (l1 : Int32) (l2 : Int32) (l3 : Int64) (l5 : Int32) (μ : z_M) : z_w (zEc D cI cL b Z) (RX8, cX8_set, 6, (some .int), 4) z_ei 31 [(0, .ref (b + 0)), (1, .int l1), (2, .int l2), (3, .long l3), (5, .int l5)] [] μ ((f_X8_set_b31 l1 l2 l3 l5 μ)) := by
  unfold f_X8_set_b31
  refine z_iload (pc := 31) dX8_set_31 rfl ?_
  refine z_if_eq (pc := 33) (tgt := 43) dX8_set_33 (by decide) (fun _ => ?_) (fun _ => ?_)
  · refine z_aload_n (pc := 43) dX8_set_43 rfl ?_
    refine zgR_X8_25 (pc := 44) gc_0 rfl dX8_set_44 ?_
    refine z_iload_n (pc := 47) dX8_set_47 rfl ?_
    refine z_iload_n (pc := 48) dX8_set_48 rfl ?_
    refine z_lload_n (pc := 49) dX8_set_49 rfl ?_
    refine z_bindP (fun p2 hp2 => ?_)
    refine z_callVv (pc := 50) (As := [.int l1, .int l2, .long l3]) (S := []) (c_X5_keepElement l1 l2 l3 μ) hp2 zw_X5_keepElement zv_X5_keepElement zm_X8_127 (n := 3) (by decide) rfl (z_recv gc_22 (T := TX5) (N := 3) rfl) rfl (Nat.le_of_ble_eq_true rfl) (by decide) (by decide) dX8_set_50 ?_
    refine z_iconst (pc := 53) dX8_set_53 zci_1 ?_
    exact z_iret (pc := 54) rfl dX8_set_54
  · refine z_aload_n (pc := 36) dX8_set_36 rfl ?_
    refine z_iload (pc := 37) dX8_set_37 rfl ?_
    refine z_letPO (fun p3 hp3 => ?_)
    refine z_callVi (pc := 39) (As := [.int l5]) (S := []) (c_X8_refuse l5 μ) (z_pT hp3) zw_X8_refuse zv_X8_refuse zm_X8_88 (n := 1) (by decide) rfl (z_recv gc_0 (T := TX8) (N := 11) rfl) rfl (Nat.le_of_ble_eq_true rfl) (by decide) (by decide) dX8_set_39 ?_
    exact z_iret (pc := 42) rfl dX8_set_42

set_option maxRecDepth 20000 in
theorem w_X8_set_0 {D : va_G} {cI cL : ClassId} {b : Nat} {Z : State → Heap → Prop}  (a1 : Int32) (a2 : Int32) (a3 : Int64) (μ : z_M) : z_w (zEc D cI cL b Z) (RX8, cX8_set, 6, (some .int), 4) z_ei 0 [(0, .ref (b + 0)), (1, .int a1), (2, .int a2), (3, .long a3)] [] μ ((f_X8_set a1 a2 a3 μ)) := by
  unfold f_X8_set
  refine z_aload_n (pc := 0) dX8_set_0 rfl ?_
  refine zgR_X8_25 (pc := 1) gc_0 rfl dX8_set_1 ?_
  refine z_iload_n (pc := 4) dX8_set_4 rfl ?_
  refine z_callVi (pc := 5) (As := [.int a1]) (S := []) (c_X5_troubleWithRow a1 μ) rfl zw_X5_troubleWithRow zv_X5_troubleWithRow zm_X8_120 (n := 1) (by decide) rfl (z_recv gc_22 (T := TX5) (N := 3) rfl) rfl (Nat.le_of_ble_eq_true rfl) (by decide) (by decide) dX8_set_5 ?_
  refine z_letIO (fun x1 => ?_)
  refine z_istore (pc := 8) (L' := [(0, .ref (b + 0)), (1, .int a1), (2, .int a2), (3, .long a3), (5, .int x1)]) dX8_set_8 (by decide) rfl ?_
  refine z_iload (pc := 10) dX8_set_10 rfl ?_
  refine z_if_ne (pc := 12) (tgt := 31) dX8_set_12 (by decide) (fun _ => ?_) (fun _ => ?_)
  · refine z_aload_n (pc := 15) dX8_set_15 rfl ?_
    refine zgR_X8_25 (pc := 16) gc_0 rfl dX8_set_16 ?_
    refine z_iload_n (pc := 19) dX8_set_19 rfl ?_
    refine z_iload_n (pc := 20) dX8_set_20 rfl ?_
    refine z_callVi (pc := 21) (As := [.int a1, .int a2]) (S := []) (c_X5_hasElement a1 a2 μ) rfl zw_X5_hasElement zv_X5_hasElement zm_X8_123 (n := 2) (by decide) rfl (z_recv gc_22 (T := TX5) (N := 3) rfl) rfl (Nat.le_of_ble_eq_true rfl) (by decide) (by decide) dX8_set_21 ?_
    refine z_if_ne (pc := 24) (tgt := 31) dX8_set_24 (by decide) (fun _ => ?_) (fun _ => ?_)
    · refine z_bipush (pc := 27) dX8_set_27 zcb_m5 ?_
      refine z_istore (pc := 29) (L' := [(0, .ref (b + 0)), (1, .int a1), (2, .int a2), (3, .long a3), (5, .int (-5))]) dX8_set_29 (by decide) rfl ?_
      exact w_X8_set_31 a1 a2 a3 (-5) μ
    · exact w_X8_set_31 a1 a2 a3 x1 μ
  · exact w_X8_set_31 a1 a2 a3 x1 μ

set_option maxRecDepth 20000 in
theorem c_X8_set {D : va_G} {cI cL : ClassId} {b : Nat} {Z : State → Heap → Prop}  (a1 : Int32) (a2 : Int32) (a3 : Int64) (μ : z_M) : z_S (zEc D cI cL b Z) 4 yX8_set cX8_set 6 (some .int) z_ei [.ref (b + 0), .int a1, .int a2, .long a3] μ ((f_X8_set a1 a2 a3 μ)) :=
  z_entry (yn := yX8_set) (by decide) (Nat.le_of_ble_eq_true rfl) rfl (w_X8_set_0 a1 a2 a3 μ)

def f_X8_copy_b63 (l1 : Int32) (l2 : Int32) (l3 : Int32) (l4 : Int32) (l5 : Int32) (l6 : Int32) (μ : z_M) : Option (Int32 × z_M) :=
  if l6 = 0 then (z_bind (f_X5_moveElements l1 l2 l3 l4 l5 μ) (fun p2 => some (1, p2.2))) else (z_let (f_X8_refuse l6 μ) (fun p3 => some (p3.1, p3.2)))
def f_X8_copy_b59 (l1 : Int32) (l2 : Int32) (l3 : Int32) (l4 : Int32) (l5 : Int32) (μ : z_M) : Option (Int32 × z_M) :=
  f_X8_copy_b63 l1 l2 l3 l4 l5 (-5) μ
def f_X8_copy_b25 (l1 : Int32) (l2 : Int32) (l3 : Int32) (l4 : Int32) (l5 : Int32) (l6 : Int32) (μ : z_M) : Option (Int32 × z_M) :=
  if l6 = 0 then (if (f_X5_hasElements l1 l3 l5 μ) = 0 then (f_X8_copy_b59 l1 l2 l3 l4 l5 μ) else (if (f_X5_hasElements l2 l4 l5 μ) = 0 then (f_X8_copy_b59 l1 l2 l3 l4 l5 μ) else (f_X8_copy_b63 l1 l2 l3 l4 l5 l6 μ))) else (f_X8_copy_b63 l1 l2 l3 l4 l5 l6 μ)
def f_X8_copy (a1 : Int32) (a2 : Int32) (a3 : Int32) (a4 : Int32) (a5 : Int32) (μ : z_M) : Option (Int32 × z_M) :=
  z_let ((f_X5_troubleWithTwoRows a1 a2 μ) : Int32) (fun x1 => if x1 = 0 then (if a5 < 0 then (f_X8_copy_b25 a1 a2 a3 a4 a5 (-4) μ) else (f_X8_copy_b25 a1 a2 a3 a4 a5 x1 μ)) else (f_X8_copy_b25 a1 a2 a3 a4 a5 x1 μ))
set_option maxRecDepth 20000 in
theorem w_X8_copy_63 {D : va_G} {cI cL : ClassId} {b : Nat} {Z : State → Heap → Prop}  (l1 : Int32) (l2 : Int32) (l3 : Int32) (l4 : Int32) (l5 : Int32) (l6 : Int32) (μ : z_M) : z_w (zEc D cI cL b Z) (RX8, cX8_copy, 7, (some .int), 3) z_ei 63 [(0, .ref (b + 0)), (1, .int l1), (2, .int l2), (3, .int l3), (4, .int l4), (5, .int l5), (6, .int l6)] [] μ ((f_X8_copy_b63 l1 l2 l3 l4 l5 l6 μ)) := by
  unfold f_X8_copy_b63
  refine z_iload (pc := 63) dX8_copy_63 rfl ?_
  refine z_if_eq (pc := 65) (tgt := 75) dX8_copy_65 (by decide) (fun _ => ?_) (fun _ => ?_)
  · refine z_aload_n (pc := 75) dX8_copy_75 rfl ?_
    refine zgR_X8_25 (pc := 76) gc_0 rfl dX8_copy_76 ?_
    refine z_iload_n (pc := 79) dX8_copy_79 rfl ?_
    refine z_iload_n (pc := 80) dX8_copy_80 rfl ?_
    refine z_iload_n (pc := 81) dX8_copy_81 rfl ?_
    refine z_iload (pc := 82) dX8_copy_82 rfl ?_
    refine z_iload (pc := 84) dX8_copy_84 rfl ?_
    refine z_bindP (fun p2 hp2 => ?_)
    refine z_callVv (pc := 86) (As := [.int l1, .int l2, .int l3, .int l4, .int l5]) (S := []) (c_X5_moveElements l1 l2 l3 l4 l5 μ) hp2 zw_X5_moveElements zv_X5_moveElements zm_X8_137 (n := 5) (by decide) rfl (z_recv gc_22 (T := TX5) (N := 3) rfl) rfl (Nat.le_of_ble_eq_true rfl) (by decide) (by decide) dX8_copy_86 ?_
    refine z_iconst (pc := 89) dX8_copy_89 zci_1 ?_
    exact z_iret (pc := 90) rfl dX8_copy_90
  · refine z_aload_n (pc := 68) dX8_copy_68 rfl ?_
    refine z_iload (pc := 69) dX8_copy_69 rfl ?_
    refine z_letPO (fun p3 hp3 => ?_)
    refine z_callVi (pc := 71) (As := [.int l6]) (S := []) (c_X8_refuse l6 μ) (z_pT hp3) zw_X8_refuse zv_X8_refuse zm_X8_88 (n := 1) (by decide) rfl (z_recv gc_0 (T := TX8) (N := 11) rfl) rfl (Nat.le_of_ble_eq_true rfl) (by decide) (by decide) dX8_copy_71 ?_
    exact z_iret (pc := 74) rfl dX8_copy_74

set_option maxRecDepth 20000 in
theorem w_X8_copy_59 {D : va_G} {cI cL : ClassId} {b : Nat} {Z : State → Heap → Prop}  (l1 : Int32) (l2 : Int32) (l3 : Int32) (l4 : Int32) (l5 : Int32) (μ : z_M) : z_w (zEc D cI cL b Z) (RX8, cX8_copy, 7, (some .int), 3) z_ei 59 [(0, .ref (b + 0)), (1, .int l1), (2, .int l2), (3, .int l3), (4, .int l4), (5, .int l5)] [] μ ((f_X8_copy_b59 l1 l2 l3 l4 l5 μ)) := by
  unfold f_X8_copy_b59
  refine z_bipush (pc := 59) dX8_copy_59 zcb_m5 ?_
  refine z_istore (pc := 61) (L' := [(0, .ref (b + 0)), (1, .int l1), (2, .int l2), (3, .int l3), (4, .int l4), (5, .int l5), (6, .int (-5))]) dX8_copy_61 (by decide) rfl ?_
  exact w_X8_copy_63 l1 l2 l3 l4 l5 (-5) μ

set_option maxRecDepth 20000 in
theorem w_X8_copy_25 {D : va_G} {cI cL : ClassId} {b : Nat} {Z : State → Heap → Prop}  (l1 : Int32) (l2 : Int32) (l3 : Int32) (l4 : Int32) (l5 : Int32) (l6 : Int32) (μ : z_M) : z_w (zEc D cI cL b Z) (RX8, cX8_copy, 7, (some .int), 3) z_ei 25 [(0, .ref (b + 0)), (1, .int l1), (2, .int l2), (3, .int l3), (4, .int l4), (5, .int l5), (6, .int l6)] [] μ ((f_X8_copy_b25 l1 l2 l3 l4 l5 l6 μ)) := by
  unfold f_X8_copy_b25
  refine z_iload (pc := 25) dX8_copy_25 rfl ?_
  refine z_if_ne (pc := 27) (tgt := 63) dX8_copy_27 (by decide) (fun _ => ?_) (fun _ => ?_)
  · refine z_aload_n (pc := 30) dX8_copy_30 rfl ?_
    refine zgR_X8_25 (pc := 31) gc_0 rfl dX8_copy_31 ?_
    refine z_iload_n (pc := 34) dX8_copy_34 rfl ?_
    refine z_iload_n (pc := 35) dX8_copy_35 rfl ?_
    refine z_iload (pc := 36) dX8_copy_36 rfl ?_
    refine z_callVi (pc := 38) (As := [.int l1, .int l3, .int l5]) (S := []) (c_X5_hasElements l1 l3 l5 μ) rfl zw_X5_hasElements zv_X5_hasElements zm_X8_134 (n := 3) (by decide) rfl (z_recv gc_22 (T := TX5) (N := 3) rfl) rfl (Nat.le_of_ble_eq_true rfl) (by decide) (by decide) dX8_copy_38 ?_
    refine z_if_eq (pc := 41) (tgt := 59) dX8_copy_41 (by decide) (fun _ => ?_) (fun _ => ?_)
    · refine z_drop (L' := [(0, .ref (b + 0)), (1, .int l1), (2, .int l2), (3, .int l3), (4, .int l4), (5, .int l5)]) [0, 1, 2, 3, 4, 5] rfl ?_
      exact w_X8_copy_59 l1 l2 l3 l4 l5 μ
    · refine z_aload_n (pc := 44) dX8_copy_44 rfl ?_
      refine zgR_X8_25 (pc := 45) gc_0 rfl dX8_copy_45 ?_
      refine z_iload_n (pc := 48) dX8_copy_48 rfl ?_
      refine z_iload (pc := 49) dX8_copy_49 rfl ?_
      refine z_iload (pc := 51) dX8_copy_51 rfl ?_
      refine z_callVi (pc := 53) (As := [.int l2, .int l4, .int l5]) (S := []) (c_X5_hasElements l2 l4 l5 μ) rfl zw_X5_hasElements zv_X5_hasElements zm_X8_134 (n := 3) (by decide) rfl (z_recv gc_22 (T := TX5) (N := 3) rfl) rfl (Nat.le_of_ble_eq_true rfl) (by decide) (by decide) dX8_copy_53 ?_
      refine z_if_ne (pc := 56) (tgt := 63) dX8_copy_56 (by decide) (fun _ => ?_) (fun _ => ?_)
      · refine z_drop (L' := [(0, .ref (b + 0)), (1, .int l1), (2, .int l2), (3, .int l3), (4, .int l4), (5, .int l5)]) [0, 1, 2, 3, 4, 5] rfl ?_
        exact w_X8_copy_59 l1 l2 l3 l4 l5 μ
      · exact w_X8_copy_63 l1 l2 l3 l4 l5 l6 μ
  · exact w_X8_copy_63 l1 l2 l3 l4 l5 l6 μ

set_option maxRecDepth 20000 in
theorem w_X8_copy_0 {D : va_G} {cI cL : ClassId} {b : Nat} {Z : State → Heap → Prop}  (a1 : Int32) (a2 : Int32) (a3 : Int32) (a4 : Int32) (a5 : Int32) (μ : z_M) : z_w (zEc D cI cL b Z) (RX8, cX8_copy, 7, (some .int), 3) z_ei 0 [(0, .ref (b + 0)), (1, .int a1), (2, .int a2), (3, .int a3), (4, .int a4), (5, .int a5)] [] μ ((f_X8_copy a1 a2 a3 a4 a5 μ)) := by
  unfold f_X8_copy
  refine z_aload_n (pc := 0) dX8_copy_0 rfl ?_
  refine zgR_X8_25 (pc := 1) gc_0 rfl dX8_copy_1 ?_
  refine z_iload_n (pc := 4) dX8_copy_4 rfl ?_
  refine z_iload_n (pc := 5) dX8_copy_5 rfl ?_
  refine z_callVi (pc := 6) (As := [.int a1, .int a2]) (S := []) (c_X5_troubleWithTwoRows a1 a2 μ) rfl zw_X5_troubleWithTwoRows zv_X5_troubleWithTwoRows zm_X8_131 (n := 2) (by decide) rfl (z_recv gc_22 (T := TX5) (N := 3) rfl) rfl (Nat.le_of_ble_eq_true rfl) (by decide) (by decide) dX8_copy_6 ?_
  refine z_letIO (fun x1 => ?_)
  refine z_istore (pc := 9) (L' := [(0, .ref (b + 0)), (1, .int a1), (2, .int a2), (3, .int a3), (4, .int a4), (5, .int a5), (6, .int x1)]) dX8_copy_9 (by decide) rfl ?_
  refine z_iload (pc := 11) dX8_copy_11 rfl ?_
  refine z_if_ne (pc := 13) (tgt := 25) dX8_copy_13 (by decide) (fun _ => ?_) (fun _ => ?_)
  · refine z_iload (pc := 16) dX8_copy_16 rfl ?_
    refine z_if_ge (pc := 18) (tgt := 25) dX8_copy_18 (by decide) (fun _ => ?_) (fun _ => ?_)
    · refine z_bipush (pc := 21) dX8_copy_21 zcb_m4 ?_
      refine z_istore (pc := 23) (L' := [(0, .ref (b + 0)), (1, .int a1), (2, .int a2), (3, .int a3), (4, .int a4), (5, .int a5), (6, .int (-4))]) dX8_copy_23 (by decide) rfl ?_
      exact w_X8_copy_25 a1 a2 a3 a4 a5 (-4) μ
    · exact w_X8_copy_25 a1 a2 a3 a4 a5 x1 μ
  · exact w_X8_copy_25 a1 a2 a3 a4 a5 x1 μ

set_option maxRecDepth 20000 in
theorem c_X8_copy {D : va_G} {cI cL : ClassId} {b : Nat} {Z : State → Heap → Prop}  (a1 : Int32) (a2 : Int32) (a3 : Int32) (a4 : Int32) (a5 : Int32) (μ : z_M) : z_S (zEc D cI cL b Z) 3 yX8_copy cX8_copy 7 (some .int) z_ei [.ref (b + 0), .int a1, .int a2, .int a3, .int a4, .int a5] μ ((f_X8_copy a1 a2 a3 a4 a5 μ)) :=
  z_entry (yn := yX8_copy) (by decide) (Nat.le_of_ble_eq_true rfl) rfl (w_X8_copy_0 a1 a2 a3 a4 a5 μ)

def f_X8_element (a1 : Int32) (a2 : Int32) (μ : z_M) : Option (Int64 × z_M) :=
  z_bind (f_X5_elementAt a1 a2 μ) (fun p1 => some (p1.1, p1.2))
set_option maxRecDepth 20000 in
theorem w_X8_element_0 {D : va_G} {cI cL : ClassId} {b : Nat} {Z : State → Heap → Prop}  (a1 : Int32) (a2 : Int32) (μ : z_M) : z_w (zEc D cI cL b Z) (RX8, cX8_element, 3, (some .long), 3) z_el 0 [(0, .ref (b + 0)), (1, .int a1), (2, .int a2)] [] μ ((f_X8_element a1 a2 μ)) := by
  unfold f_X8_element
  refine z_aload_n (pc := 0) dX8_element_0 rfl ?_
  refine zgR_X8_25 (pc := 1) gc_0 rfl dX8_element_1 ?_
  refine z_iload_n (pc := 4) dX8_element_4 rfl ?_
  refine z_iload_n (pc := 5) dX8_element_5 rfl ?_
  refine z_bindP (fun p1 hp1 => ?_)
  refine z_callVl (pc := 6) (As := [.int a1, .int a2]) (S := []) (c_X5_elementAt a1 a2 μ) hp1 zw_X5_elementAt zv_X5_elementAt zm_X8_141 (n := 2) (by decide) rfl (z_recv gc_22 (T := TX5) (N := 3) rfl) rfl (Nat.le_of_ble_eq_true rfl) (by decide) (by decide) dX8_element_6 ?_
  exact z_lret (pc := 9) rfl dX8_element_9

set_option maxRecDepth 20000 in
theorem c_X8_element {D : va_G} {cI cL : ClassId} {b : Nat} {Z : State → Heap → Prop}  (a1 : Int32) (a2 : Int32) (μ : z_M) : z_S (zEc D cI cL b Z) 3 yX8_element cX8_element 3 (some .long) z_el [.ref (b + 0), .int a1, .int a2] μ ((f_X8_element a1 a2 μ)) :=
  z_entry (yn := yX8_element) (by decide) (Nat.le_of_ble_eq_true rfl) rfl (w_X8_element_0 a1 a2 μ)

def f_X8_show_b27  (μ : z_M) : Int32 × z_M :=
  z_let (f_X8_refuse (-1) μ) (fun p1 => (p1.1, p1.2))
def f_X8_show_b33 (l1 : Int32) (l2 : Int32) (μ : z_M) : Int32 × z_M :=
  z_let (f_X5_holdHouse l1 l2 μ) (fun m2 => if l2 = (-1) then ((0, m2)) else ((1, m2)))
def f_X8_show (a1 : Int32) (a2 : Int32) (μ : z_M) : Int32 × z_M :=
  if (f_X5_isShelf a1 μ) = 0 then (f_X8_show_b27 μ) else (if a2 = (-1) then (f_X8_show_b33 a1 a2 μ) else (if (f_X6_isHouse 1 a2 μ) = 0 then (f_X8_show_b27 μ) else (f_X8_show_b33 a1 a2 μ)))
set_option maxRecDepth 20000 in
theorem w_X8_show_27 {D : va_G} {cI cL : ClassId} {b : Nat} {Z : State → Heap → Prop}   (μ : z_M) : z_w (zEc D cI cL b Z) (RX8, cX8_show, 3, (some .int), 2) z_ei 27 [(0, .ref (b + 0))] [] μ (z_oT (f_X8_show_b27 μ)) := by
  unfold f_X8_show_b27
  refine z_aload_n (pc := 27) dX8_show_27 rfl ?_
  refine z_iconst (pc := 28) dX8_show_28 zci_m1 ?_
  refine z_letP (fun p1 hp1 => ?_)
  refine z_callVi (pc := 29) (As := [.int (-1)]) (S := []) (c_X8_refuse (-1) μ) (z_pT hp1) zw_X8_refuse zv_X8_refuse zm_X8_88 (n := 1) (by decide) rfl (z_recv gc_0 (T := TX8) (N := 11) rfl) rfl (Nat.le_of_ble_eq_true rfl) (by decide) (by decide) dX8_show_29 ?_
  exact z_iret (pc := 32) rfl dX8_show_32

set_option maxRecDepth 20000 in
theorem w_X8_show_33 {D : va_G} {cI cL : ClassId} {b : Nat} {Z : State → Heap → Prop}  (l1 : Int32) (l2 : Int32) (μ : z_M) : z_w (zEc D cI cL b Z) (RX8, cX8_show, 3, (some .int), 2) z_ei 33 [(0, .ref (b + 0)), (1, .int l1), (2, .int l2)] [] μ (z_oT (f_X8_show_b33 l1 l2 μ)) := by
  unfold f_X8_show_b33
  refine z_aload_n (pc := 33) dX8_show_33 rfl ?_
  refine zgR_X8_25 (pc := 34) gc_0 rfl dX8_show_34 ?_
  refine z_iload_n (pc := 37) dX8_show_37 rfl ?_
  refine z_iload_n (pc := 38) dX8_show_38 rfl ?_
  refine z_letP (fun m2 hm2 => ?_)
  refine z_callVv (pc := 39) (As := [.int l1, .int l2]) (S := []) (c_X5_holdHouse l1 l2 μ) (z_pV hm2) zw_X5_holdHouse zv_X5_holdHouse zm_X8_145 (n := 2) (by decide) rfl (z_recv gc_22 (T := TX5) (N := 3) rfl) rfl (Nat.le_of_ble_eq_true rfl) (by decide) (by decide) dX8_show_39 ?_
  refine z_iload_n (pc := 42) dX8_show_42 rfl ?_
  refine z_iconst (pc := 43) dX8_show_43 zci_m1 ?_
  refine z_outIf ?_
  refine z_icmp_ne (pc := 44) (tgt := 51) dX8_show_44 (by decide) (fun _ => ?_) (fun _ => ?_)
  · refine z_iconst (pc := 47) dX8_show_47 zci_0 ?_
    refine z_goto (pc := 48) (tgt := 52) dX8_show_48 (by decide) ?_
    exact z_iret (pc := 52) rfl dX8_show_52
  · refine z_iconst (pc := 51) dX8_show_51 zci_1 ?_
    exact z_iret (pc := 52) rfl dX8_show_52

set_option maxRecDepth 20000 in
theorem w_X8_show_0 {D : va_G} {cI cL : ClassId} {b : Nat} {Z : State → Heap → Prop}  (a1 : Int32) (a2 : Int32) (μ : z_M) : z_w (zEc D cI cL b Z) (RX8, cX8_show, 3, (some .int), 2) z_ei 0 [(0, .ref (b + 0)), (1, .int a1), (2, .int a2)] [] μ (z_oT (f_X8_show a1 a2 μ)) := by
  unfold f_X8_show
  refine z_aload_n (pc := 0) dX8_show_0 rfl ?_
  refine zgR_X8_25 (pc := 1) gc_0 rfl dX8_show_1 ?_
  refine z_iload_n (pc := 4) dX8_show_4 rfl ?_
  refine z_callVi (pc := 5) (As := [.int a1]) (S := []) (c_X5_isShelf a1 μ) rfl zw_X5_isShelf zv_X5_isShelf zm_X8_110 (n := 1) (by decide) rfl (z_recv gc_22 (T := TX5) (N := 3) rfl) rfl (Nat.le_of_ble_eq_true rfl) (by decide) (by decide) dX8_show_5 ?_
  refine z_outIf ?_
  refine z_if_eq (pc := 8) (tgt := 27) dX8_show_8 (by decide) (fun _ => ?_) (fun _ => ?_)
  · refine z_drop (L' := [(0, .ref (b + 0))]) [0] rfl ?_
    exact w_X8_show_27 μ
  · refine z_iload_n (pc := 11) dX8_show_11 rfl ?_
    refine z_iconst (pc := 12) dX8_show_12 zci_m1 ?_
    refine z_outIf ?_
    refine z_icmp_eq (pc := 13) (tgt := 33) dX8_show_13 (by decide) (fun _ => ?_) (fun _ => ?_)
    · exact w_X8_show_33 a1 a2 μ
    · refine z_aload_n (pc := 16) dX8_show_16 rfl ?_
      refine zgR_X8_10 (pc := 17) gc_0 rfl dX8_show_17 ?_
      refine z_iload_n (pc := 20) dX8_show_20 rfl ?_
      refine z_callVi (pc := 21) (As := [.int a2]) (S := []) (c_X6_isHouse zstr_1 a2 μ) rfl zw_X6_isHouse zv_X6_isHouse zm_X8_103 (n := 1) (by decide) rfl (z_recv gc_1 (T := TX6) (N := 10) rfl) rfl (Nat.le_of_ble_eq_true rfl) (by decide) (by decide) dX8_show_21 ?_
      refine z_outIf ?_
      refine z_if_ne (pc := 24) (tgt := 33) dX8_show_24 (by decide) (fun _ => ?_) (fun _ => ?_)
      · refine z_drop (L' := [(0, .ref (b + 0))]) [0] rfl ?_
        exact w_X8_show_27 μ
      · exact w_X8_show_33 a1 a2 μ

set_option maxRecDepth 20000 in
theorem c_X8_show {D : va_G} {cI cL : ClassId} {b : Nat} {Z : State → Heap → Prop}  (a1 : Int32) (a2 : Int32) (μ : z_M) : z_S (zEc D cI cL b Z) 2 yX8_show cX8_show 3 (some .int) z_ei [.ref (b + 0), .int a1, .int a2] μ (z_oT (f_X8_show a1 a2 μ)) :=
  z_entry (yn := yX8_show) (by decide) (Nat.le_of_ble_eq_true rfl) rfl (w_X8_show_0 a1 a2 μ)

def f_X8_holds (a1 : Int32) (μ : z_M) : Int32 :=
  (f_X5_holding a1 μ)
set_option maxRecDepth 20000 in
theorem w_X8_holds_0 {D : va_G} {cI cL : ClassId} {b : Nat} {Z : State → Heap → Prop}  (a1 : Int32) (μ : z_M) : z_w (zEc D cI cL b Z) (RX8, cX8_holds, 2, (some .int), 2) z_ei 0 [(0, .ref (b + 0)), (1, .int a1)] [] μ (z_oP μ (f_X8_holds a1 μ)) := by
  unfold f_X8_holds
  refine z_aload_n (pc := 0) dX8_holds_0 rfl ?_
  refine zgR_X8_25 (pc := 1) gc_0 rfl dX8_holds_1 ?_
  refine z_iload_n (pc := 4) dX8_holds_4 rfl ?_
  refine z_callVi (pc := 5) (As := [.int a1]) (S := []) (c_X5_holding a1 μ) rfl zw_X5_holding zv_X5_holding zm_X8_148 (n := 1) (by decide) rfl (z_recv gc_22 (T := TX5) (N := 3) rfl) rfl (Nat.le_of_ble_eq_true rfl) (by decide) (by decide) dX8_holds_5 ?_
  exact z_iret (pc := 8) rfl dX8_holds_8

set_option maxRecDepth 20000 in
theorem c_X8_holds {D : va_G} {cI cL : ClassId} {b : Nat} {Z : State → Heap → Prop}  (a1 : Int32) (μ : z_M) : z_S (zEc D cI cL b Z) 2 yX8_holds cX8_holds 2 (some .int) z_ei [.ref (b + 0), .int a1] μ (z_oP μ (f_X8_holds a1 μ)) :=
  z_entry (yn := yX8_holds) (by decide) (Nat.le_of_ble_eq_true rfl) rfl (w_X8_holds_0 a1 μ)

def f_X8_says_b54 (l2 : Int32) (l3 : Int32) (l4 : Int32) (μ : z_M) : Int32 × z_M :=
  if l3 = 0 then (((f_X6_saysAs 1 l4 l2 3 μ), μ)) else (z_let (f_X8_refuse l3 μ) (fun p2 => (p2.1, p2.2)))
def f_X8_says_b19 (l1 : Int32) (l2 : Int32) (s0 : Int32) (μ : z_M) : Int32 × z_M :=
  z_let ((f_X5_holding l1 μ) : Int32) (fun x1 => if s0 = 0 then (if (f_X2_isUnder (f_X6_ofHouse 1 x1 0 μ) l2 μ) = 0 then (f_X8_says_b54 l2 (-2) x1 μ) else (f_X8_says_b54 l2 s0 x1 μ)) else (f_X8_says_b54 l2 s0 x1 μ))
def f_X8_says (a1 : Int32) (a2 : Int32) (μ : z_M) : Int32 × z_M :=
  if (f_X2_isKind a2 μ) = 0 then (f_X8_says_b19 a1 a2 (-1) μ) else (f_X8_says_b19 a1 a2 (f_X5_troubleWithHouse a1 μ) μ)
set_option maxRecDepth 20000 in
theorem w_X8_says_54 {D : va_G} {cI cL : ClassId} {b : Nat} {Z : State → Heap → Prop}  (l2 : Int32) (l3 : Int32) (l4 : Int32) (μ : z_M) : z_w (zEc D cI cL b Z) (RX8, cX8_says, 5, (some .int), 3) z_ei 54 [(0, .ref (b + 0)), (2, .int l2), (3, .int l3), (4, .int l4)] [] μ (z_oT (f_X8_says_b54 l2 l3 l4 μ)) := by
  unfold f_X8_says_b54
  refine z_iload_n (pc := 54) dX8_says_54 rfl ?_
  refine z_outIf ?_
  refine z_if_ne (pc := 55) (tgt := 72) dX8_says_55 (by decide) (fun _ => ?_) (fun _ => ?_)
  · refine z_aload_n (pc := 58) dX8_says_58 rfl ?_
    refine zgR_X8_10 (pc := 59) gc_0 rfl dX8_says_59 ?_
    refine z_iload (pc := 62) dX8_says_62 rfl ?_
    refine z_iload_n (pc := 64) dX8_says_64 rfl ?_
    refine z_iconst (pc := 65) dX8_says_65 zci_3 ?_
    refine z_callVi (pc := 66) (As := [.int l4, .int l2, .int 3]) (S := []) (c_X6_saysAs zstr_1 l4 l2 3 μ) rfl zw_X6_saysAs zv_X6_saysAs zm_X8_165 (n := 3) (by decide) rfl (z_recv gc_1 (T := TX6) (N := 10) rfl) rfl (Nat.le_of_ble_eq_true rfl) (by decide) (by decide) dX8_says_66 ?_
    refine z_goto (pc := 69) (tgt := 77) dX8_says_69 (by decide) ?_
    exact z_iret (pc := 77) rfl dX8_says_77
  · refine z_aload_n (pc := 72) dX8_says_72 rfl ?_
    refine z_iload_n (pc := 73) dX8_says_73 rfl ?_
    refine z_letP (fun p2 hp2 => ?_)
    refine z_callVi (pc := 74) (As := [.int l3]) (S := []) (c_X8_refuse l3 μ) (z_pT hp2) zw_X8_refuse zv_X8_refuse zm_X8_88 (n := 1) (by decide) rfl (z_recv gc_0 (T := TX8) (N := 11) rfl) rfl (Nat.le_of_ble_eq_true rfl) (by decide) (by decide) dX8_says_74 ?_
    exact z_iret (pc := 77) rfl dX8_says_77

set_option maxRecDepth 20000 in
theorem w_X8_says_19 {D : va_G} {cI cL : ClassId} {b : Nat} {Z : State → Heap → Prop}  (l1 : Int32) (l2 : Int32) (s0 : Int32) (μ : z_M) : z_w (zEc D cI cL b Z) (RX8, cX8_says, 5, (some .int), 3) z_ei 19 [(0, .ref (b + 0)), (1, .int l1), (2, .int l2)] [.int s0] μ (z_oT (f_X8_says_b19 l1 l2 s0 μ)) := by
  unfold f_X8_says_b19
  refine z_istore_n (pc := 19) (L' := [(0, .ref (b + 0)), (1, .int l1), (2, .int l2), (3, .int s0)]) dX8_says_19 (by decide) rfl ?_
  refine z_aload_n (pc := 20) dX8_says_20 rfl ?_
  refine zgR_X8_25 (pc := 21) gc_0 rfl dX8_says_21 ?_
  refine z_iload_n (pc := 24) dX8_says_24 rfl ?_
  refine z_callVi (pc := 25) (As := [.int l1]) (S := []) (c_X5_holding l1 μ) rfl zw_X5_holding zv_X5_holding zm_X8_148 (n := 1) (by decide) rfl (z_recv gc_22 (T := TX5) (N := 3) rfl) rfl (Nat.le_of_ble_eq_true rfl) (by decide) (by decide) dX8_says_25 ?_
  refine z_letI (fun x1 => ?_)
  refine z_istore (pc := 28) (L' := [(0, .ref (b + 0)), (1, .int l1), (2, .int l2), (3, .int s0), (4, .int x1)]) dX8_says_28 (by decide) rfl ?_
  refine z_iload_n (pc := 30) dX8_says_30 rfl ?_
  refine z_outIf ?_
  refine z_if_ne (pc := 31) (tgt := 54) dX8_says_31 (by decide) (fun _ => ?_) (fun _ => ?_)
  · refine z_aload_n (pc := 34) dX8_says_34 rfl ?_
    refine zgR_X8_10 (pc := 35) gc_0 rfl dX8_says_35 ?_
    refine z_iload (pc := 38) dX8_says_38 rfl ?_
    refine z_iconst (pc := 40) dX8_says_40 zci_0 ?_
    refine z_callVi (pc := 41) (As := [.int x1, .int 0]) (S := []) (c_X6_ofHouse zstr_1 x1 0 μ) rfl zw_X6_ofHouse zv_X6_ofHouse zm_X8_159 (n := 2) (by decide) rfl (z_recv gc_1 (T := TX6) (N := 10) rfl) rfl (Nat.le_of_ble_eq_true rfl) (by decide) (by decide) dX8_says_41 ?_
    refine z_iload_n (pc := 44) dX8_says_44 rfl ?_
    refine z_callSi (pc := 45) (As := [.int (f_X6_ofHouse 1 x1 0 μ), .int l2]) (S := []) (c_X2_isUnder (f_X6_ofHouse 1 x1 0 μ) l2 μ) rfl zw_X2_isUnder zs_X2_isUnder zm_X8_162 (n := 2) (by decide) rfl rfl (Nat.le_of_ble_eq_true rfl) (by decide) (by decide) dX8_says_45 ?_
    refine z_outIf ?_
    refine z_if_ne (pc := 48) (tgt := 54) dX8_says_48 (by decide) (fun _ => ?_) (fun _ => ?_)
    · refine z_bipush (pc := 51) dX8_says_51 zcb_m2 ?_
      refine z_istore_n (pc := 53) (L' := [(0, .ref (b + 0)), (1, .int l1), (2, .int l2), (3, .int (-2)), (4, .int x1)]) dX8_says_53 (by decide) rfl ?_
      refine z_drop (L' := [(0, .ref (b + 0)), (2, .int l2), (3, .int (-2)), (4, .int x1)]) [0, 2, 3, 4] rfl ?_
      exact w_X8_says_54 l2 (-2) x1 μ
    · refine z_drop (L' := [(0, .ref (b + 0)), (2, .int l2), (3, .int s0), (4, .int x1)]) [0, 2, 3, 4] rfl ?_
      exact w_X8_says_54 l2 s0 x1 μ
  · refine z_drop (L' := [(0, .ref (b + 0)), (2, .int l2), (3, .int s0), (4, .int x1)]) [0, 2, 3, 4] rfl ?_
    exact w_X8_says_54 l2 s0 x1 μ

set_option maxRecDepth 20000 in
theorem w_X8_says_0 {D : va_G} {cI cL : ClassId} {b : Nat} {Z : State → Heap → Prop}  (a1 : Int32) (a2 : Int32) (μ : z_M) : z_w (zEc D cI cL b Z) (RX8, cX8_says, 5, (some .int), 3) z_ei 0 [(0, .ref (b + 0)), (1, .int a1), (2, .int a2)] [] μ (z_oT (f_X8_says a1 a2 μ)) := by
  unfold f_X8_says
  refine z_iload_n (pc := 0) dX8_says_0 rfl ?_
  refine z_callSi (pc := 1) (As := [.int a2]) (S := []) (c_X2_isKind a2 μ) rfl zw_X2_isKind zs_X2_isKind zm_X8_151 (n := 1) (by decide) rfl rfl (Nat.le_of_ble_eq_true rfl) (by decide) (by decide) dX8_says_1 ?_
  refine z_outIf ?_
  refine z_if_eq (pc := 4) (tgt := 18) dX8_says_4 (by decide) (fun _ => ?_) (fun _ => ?_)
  · refine z_iconst (pc := 18) dX8_says_18 zci_m1 ?_
    exact w_X8_says_19 a1 a2 (-1) μ
  · refine z_aload_n (pc := 7) dX8_says_7 rfl ?_
    refine zgR_X8_25 (pc := 8) gc_0 rfl dX8_says_8 ?_
    refine z_iload_n (pc := 11) dX8_says_11 rfl ?_
    refine z_callVi (pc := 12) (As := [.int a1]) (S := []) (c_X5_troubleWithHouse a1 μ) rfl zw_X5_troubleWithHouse zv_X5_troubleWithHouse zm_X8_156 (n := 1) (by decide) rfl (z_recv gc_22 (T := TX5) (N := 3) rfl) rfl (Nat.le_of_ble_eq_true rfl) (by decide) (by decide) dX8_says_12 ?_
    refine z_goto (pc := 15) (tgt := 19) dX8_says_15 (by decide) ?_
    exact w_X8_says_19 a1 a2 (f_X5_troubleWithHouse a1 μ) μ

set_option maxRecDepth 20000 in
theorem c_X8_says {D : va_G} {cI cL : ClassId} {b : Nat} {Z : State → Heap → Prop}  (a1 : Int32) (a2 : Int32) (μ : z_M) : z_S (zEc D cI cL b Z) 3 yX8_says cX8_says 5 (some .int) z_ei [.ref (b + 0), .int a1, .int a2] μ (z_oT (f_X8_says a1 a2 μ)) :=
  z_entry (yn := yX8_says) (by decide) (Nat.le_of_ble_eq_true rfl) rfl (w_X8_says_0 a1 a2 μ)

def f_X8_house_b31  (μ : z_M) : Int32 × z_M :=
  z_let (f_X8_refuse (-6) μ) (fun p2 => (p2.1, p2.2))
def f_X8_house (a1 : Int32) (a2 : Int32) (a3 : Int32) (μ : z_M) : Int32 × z_M :=
  if (f_X2_isKind a1 μ) = 0 then (z_let (f_X8_refuse (-1) μ) (fun p1 => (p1.1, p1.2))) else (if (f_X8_isSet a2 μ) = 0 then (f_X8_house_b31 μ) else (if a3 < 0 then (f_X8_house_b31 μ) else (if (255 : Int32) < a3 then (f_X8_house_b31 μ) else (if (f_X6_hasRoomForHouse 1 μ) = 0 then (z_let (f_X8_refuse (-7) μ) (fun p3 => (p3.1, p3.2))) else (z_let (f_X6_addHouse 1 a1 a2 a3 μ) (fun p4 => (p4.1, p4.2)))))))
set_option maxRecDepth 20000 in
theorem w_X8_house_31 {D : va_G} {cI cL : ClassId} {b : Nat} {Z : State → Heap → Prop}   (μ : z_M) : z_w (zEc D cI cL b Z) (RX8, cX8_house, 4, (some .int), 3) z_ei 31 [(0, .ref (b + 0))] [] μ (z_oT (f_X8_house_b31 μ)) := by
  unfold f_X8_house_b31
  refine z_aload_n (pc := 31) dX8_house_31 rfl ?_
  refine z_bipush (pc := 32) dX8_house_32 zcb_m6 ?_
  refine z_letP (fun p2 hp2 => ?_)
  refine z_callVi (pc := 34) (As := [.int (-6)]) (S := []) (c_X8_refuse (-6) μ) (z_pT hp2) zw_X8_refuse zv_X8_refuse zm_X8_88 (n := 1) (by decide) rfl (z_recv gc_0 (T := TX8) (N := 11) rfl) rfl (Nat.le_of_ble_eq_true rfl) (by decide) (by decide) dX8_house_34 ?_
  exact z_iret (pc := 37) rfl dX8_house_37

set_option maxRecDepth 20000 in
theorem w_X8_house_0 {D : va_G} {cI cL : ClassId} {b : Nat} {Z : State → Heap → Prop}  (a1 : Int32) (a2 : Int32) (a3 : Int32) (μ : z_M) : z_w (zEc D cI cL b Z) (RX8, cX8_house, 4, (some .int), 3) z_ei 0 [(0, .ref (b + 0)), (1, .int a1), (2, .int a2), (3, .int a3)] [] μ (z_oT (f_X8_house a1 a2 a3 μ)) := by
  unfold f_X8_house
  refine z_iload_n (pc := 0) dX8_house_0 rfl ?_
  refine z_callSi (pc := 1) (As := [.int a1]) (S := []) (c_X2_isKind a1 μ) rfl zw_X2_isKind zs_X2_isKind zm_X8_151 (n := 1) (by decide) rfl rfl (Nat.le_of_ble_eq_true rfl) (by decide) (by decide) dX8_house_1 ?_
  refine z_outIf ?_
  refine z_if_ne (pc := 4) (tgt := 13) dX8_house_4 (by decide) (fun _ => ?_) (fun _ => ?_)
  · refine z_aload_n (pc := 7) dX8_house_7 rfl ?_
    refine z_iconst (pc := 8) dX8_house_8 zci_m1 ?_
    refine z_letP (fun p1 hp1 => ?_)
    refine z_callVi (pc := 9) (As := [.int (-1)]) (S := []) (c_X8_refuse (-1) μ) (z_pT hp1) zw_X8_refuse zv_X8_refuse zm_X8_88 (n := 1) (by decide) rfl (z_recv gc_0 (T := TX8) (N := 11) rfl) rfl (Nat.le_of_ble_eq_true rfl) (by decide) (by decide) dX8_house_9 ?_
    exact z_iret (pc := 12) rfl dX8_house_12
  · refine z_iload_n (pc := 13) dX8_house_13 rfl ?_
    refine z_callSi (pc := 14) (As := [.int a2]) (S := []) (c_X8_isSet a2 μ) rfl zw_X8_isSet zs_X8_isSet zm_X8_107 (n := 1) (by decide) rfl rfl (Nat.le_of_ble_eq_true rfl) (by decide) (by decide) dX8_house_14 ?_
    refine z_outIf ?_
    refine z_if_eq (pc := 17) (tgt := 31) dX8_house_17 (by decide) (fun _ => ?_) (fun _ => ?_)
    · refine z_drop (L' := [(0, .ref (b + 0))]) [0] rfl ?_
      exact w_X8_house_31 μ
    · refine z_iload_n (pc := 20) dX8_house_20 rfl ?_
      refine z_outIf ?_
      refine z_if_lt (pc := 21) (tgt := 31) dX8_house_21 (by decide) (fun _ => ?_) (fun _ => ?_)
      · refine z_drop (L' := [(0, .ref (b + 0))]) [0] rfl ?_
        exact w_X8_house_31 μ
      · refine z_iload_n (pc := 24) dX8_house_24 rfl ?_
        refine z_sipush (pc := 25) dX8_house_25 zcs_255 ?_
        refine z_outIf ?_
        refine z_icmp_le (pc := 28) (tgt := 38) dX8_house_28 (by decide) (fun _ => ?_) (fun _ => ?_)
        · refine z_drop (L' := [(0, .ref (b + 0))]) [0] rfl ?_
          exact w_X8_house_31 μ
        · refine z_aload_n (pc := 38) dX8_house_38 rfl ?_
          refine zgR_X8_10 (pc := 39) gc_0 rfl dX8_house_39 ?_
          refine z_callVi (pc := 42) (As := []) (S := []) (c_X6_hasRoomForHouse zstr_1 μ) rfl zw_X6_hasRoomForHouse zv_X6_hasRoomForHouse zm_X8_169 (n := 0) (by decide) rfl (z_recv gc_1 (T := TX6) (N := 10) rfl) rfl (Nat.le_of_ble_eq_true rfl) (by decide) (by decide) dX8_house_42 ?_
          refine z_outIf ?_
          refine z_if_eq (pc := 45) (tgt := 61) dX8_house_45 (by decide) (fun _ => ?_) (fun _ => ?_)
          · refine z_aload_n (pc := 61) dX8_house_61 rfl ?_
            refine z_bipush (pc := 62) dX8_house_62 zcb_m7 ?_
            refine z_letP (fun p3 hp3 => ?_)
            refine z_callVi (pc := 64) (As := [.int (-7)]) (S := []) (c_X8_refuse (-7) μ) (z_pT hp3) zw_X8_refuse zv_X8_refuse zm_X8_88 (n := 1) (by decide) rfl (z_recv gc_0 (T := TX8) (N := 11) rfl) rfl (Nat.le_of_ble_eq_true rfl) (by decide) (by decide) dX8_house_64 ?_
            exact z_iret (pc := 67) rfl dX8_house_67
          · refine z_aload_n (pc := 48) dX8_house_48 rfl ?_
            refine zgR_X8_10 (pc := 49) gc_0 rfl dX8_house_49 ?_
            refine z_iload_n (pc := 52) dX8_house_52 rfl ?_
            refine z_iload_n (pc := 53) dX8_house_53 rfl ?_
            refine z_iload_n (pc := 54) dX8_house_54 rfl ?_
            refine z_letP (fun p4 hp4 => ?_)
            refine z_callVi (pc := 55) (As := [.int a1, .int a2, .int a3]) (S := []) (c_X6_addHouse zstr_1 a1 a2 a3 μ) (z_pT hp4) zw_X6_addHouse zv_X6_addHouse zm_X8_172 (n := 3) (by decide) rfl (z_recv gc_1 (T := TX6) (N := 10) rfl) rfl (Nat.le_of_ble_eq_true rfl) (by decide) (by decide) dX8_house_55 ?_
            refine z_goto (pc := 58) (tgt := 67) dX8_house_58 (by decide) ?_
            exact z_iret (pc := 67) rfl dX8_house_67

set_option maxRecDepth 20000 in
theorem c_X8_house {D : va_G} {cI cL : ClassId} {b : Nat} {Z : State → Heap → Prop}  (a1 : Int32) (a2 : Int32) (a3 : Int32) (μ : z_M) : z_S (zEc D cI cL b Z) 3 yX8_house cX8_house 4 (some .int) z_ei [.ref (b + 0), .int a1, .int a2, .int a3] μ (z_oT (f_X8_house a1 a2 a3 μ)) :=
  z_entry (yn := yX8_house) (by decide) (Nat.le_of_ble_eq_true rfl) rfl (w_X8_house_0 a1 a2 a3 μ)

def f_X8_troubleWithWay (a1 : Int32) (a2 : Int32) (a3 : Int32) (μ : z_M) : Int32 :=
  if (f_X6_isHouse 1 a1 μ) = 0 then ((-1)) else (if (f_X6_isHouse 1 a2 μ) = 0 then ((-1)) else (if a1 = a2 then ((-6)) else (if a3 < 1 then ((-6)) else (if (60 : Int32) < a3 then ((-6)) else (if (f_X6_hasRoomForWay 1 μ) = 0 then ((-7)) else (0))))))
set_option maxRecDepth 20000 in
theorem w_X8_troubleWithWay_0 {D : va_G} {cI cL : ClassId} {b : Nat} {Z : State → Heap → Prop}  (a1 : Int32) (a2 : Int32) (a3 : Int32) (μ : z_M) : z_w (zEc D cI cL b Z) (RX8, cX8_troubleWithWay, 4, (some .int), 1) z_ei 0 [(0, .ref (b + 0)), (1, .int a1), (2, .int a2), (3, .int a3)] [] μ (z_oP μ (f_X8_troubleWithWay a1 a2 a3 μ)) := by
  unfold f_X8_troubleWithWay
  refine z_aload_n (pc := 0) dX8_troubleWithWay_0 rfl ?_
  refine zgR_X8_10 (pc := 1) gc_0 rfl dX8_troubleWithWay_1 ?_
  refine z_iload_n (pc := 4) dX8_troubleWithWay_4 rfl ?_
  refine z_callVi (pc := 5) (As := [.int a1]) (S := []) (c_X6_isHouse zstr_1 a1 μ) rfl zw_X6_isHouse zv_X6_isHouse zm_X8_103 (n := 1) (by decide) rfl (z_recv gc_1 (T := TX6) (N := 10) rfl) rfl (Nat.le_of_ble_eq_true rfl) (by decide) (by decide) dX8_troubleWithWay_5 ?_
  refine z_outIf ?_
  refine z_if_eq (pc := 8) (tgt := 22) dX8_troubleWithWay_8 (by decide) (fun _ => ?_) (fun _ => ?_)
  · refine z_iconst (pc := 22) dX8_troubleWithWay_22 zci_m1 ?_
    exact z_iret (pc := 23) rfl dX8_troubleWithWay_23
  · refine z_aload_n (pc := 11) dX8_troubleWithWay_11 rfl ?_
    refine zgR_X8_10 (pc := 12) gc_0 rfl dX8_troubleWithWay_12 ?_
    refine z_iload_n (pc := 15) dX8_troubleWithWay_15 rfl ?_
    refine z_callVi (pc := 16) (As := [.int a2]) (S := []) (c_X6_isHouse zstr_1 a2 μ) rfl zw_X6_isHouse zv_X6_isHouse zm_X8_103 (n := 1) (by decide) rfl (z_recv gc_1 (T := TX6) (N := 10) rfl) rfl (Nat.le_of_ble_eq_true rfl) (by decide) (by decide) dX8_troubleWithWay_16 ?_
    refine z_outIf ?_
    refine z_if_ne (pc := 19) (tgt := 24) dX8_troubleWithWay_19 (by decide) (fun _ => ?_) (fun _ => ?_)
    · refine z_iconst (pc := 22) dX8_troubleWithWay_22 zci_m1 ?_
      exact z_iret (pc := 23) rfl dX8_troubleWithWay_23
    · refine z_iload_n (pc := 24) dX8_troubleWithWay_24 rfl ?_
      refine z_iload_n (pc := 25) dX8_troubleWithWay_25 rfl ?_
      refine z_outIf ?_
      refine z_icmp_eq (pc := 26) (tgt := 40) dX8_troubleWithWay_26 (by decide) (fun _ => ?_) (fun _ => ?_)
      · refine z_bipush (pc := 40) dX8_troubleWithWay_40 zcb_m6 ?_
        exact z_iret (pc := 42) rfl dX8_troubleWithWay_42
      · refine z_iload_n (pc := 29) dX8_troubleWithWay_29 rfl ?_
        refine z_iconst (pc := 30) dX8_troubleWithWay_30 zci_1 ?_
        refine z_outIf ?_
        refine z_icmp_lt (pc := 31) (tgt := 40) dX8_troubleWithWay_31 (by decide) (fun _ => ?_) (fun _ => ?_)
        · refine z_bipush (pc := 40) dX8_troubleWithWay_40 zcb_m6 ?_
          exact z_iret (pc := 42) rfl dX8_troubleWithWay_42
        · refine z_iload_n (pc := 34) dX8_troubleWithWay_34 rfl ?_
          refine z_bipush (pc := 35) dX8_troubleWithWay_35 zcb_60 ?_
          refine z_outIf ?_
          refine z_icmp_le (pc := 37) (tgt := 43) dX8_troubleWithWay_37 (by decide) (fun _ => ?_) (fun _ => ?_)
          · refine z_bipush (pc := 40) dX8_troubleWithWay_40 zcb_m6 ?_
            exact z_iret (pc := 42) rfl dX8_troubleWithWay_42
          · refine z_aload_n (pc := 43) dX8_troubleWithWay_43 rfl ?_
            refine zgR_X8_10 (pc := 44) gc_0 rfl dX8_troubleWithWay_44 ?_
            refine z_callVi (pc := 47) (As := []) (S := []) (c_X6_hasRoomForWay zstr_1 μ) rfl zw_X6_hasRoomForWay zv_X6_hasRoomForWay zm_X8_175 (n := 0) (by decide) rfl (z_recv gc_1 (T := TX6) (N := 10) rfl) rfl (Nat.le_of_ble_eq_true rfl) (by decide) (by decide) dX8_troubleWithWay_47 ?_
            refine z_outIf ?_
            refine z_if_eq (pc := 50) (tgt := 57) dX8_troubleWithWay_50 (by decide) (fun _ => ?_) (fun _ => ?_)
            · refine z_bipush (pc := 57) dX8_troubleWithWay_57 zcb_m7 ?_
              exact z_iret (pc := 59) rfl dX8_troubleWithWay_59
            · refine z_iconst (pc := 53) dX8_troubleWithWay_53 zci_0 ?_
              refine z_goto (pc := 54) (tgt := 59) dX8_troubleWithWay_54 (by decide) ?_
              exact z_iret (pc := 59) rfl dX8_troubleWithWay_59

set_option maxRecDepth 20000 in
theorem c_X8_troubleWithWay {D : va_G} {cI cL : ClassId} {b : Nat} {Z : State → Heap → Prop}  (a1 : Int32) (a2 : Int32) (a3 : Int32) (μ : z_M) : z_S (zEc D cI cL b Z) 1 yX8_troubleWithWay cX8_troubleWithWay 4 (some .int) z_ei [.ref (b + 0), .int a1, .int a2, .int a3] μ (z_oP μ (f_X8_troubleWithWay a1 a2 a3 μ)) :=
  z_entry (yn := yX8_troubleWithWay) (by decide) (Nat.le_of_ble_eq_true rfl) rfl (w_X8_troubleWithWay_0 a1 a2 a3 μ)

def f_X8_way (a1 : Int32) (a2 : Int32) (a3 : Int32) (μ : z_M) : Int32 × z_M :=
  z_let ((f_X8_troubleWithWay a1 a2 a3 μ) : Int32) (fun x1 => if x1 = 0 then (z_let (f_X6_addWay 1 a1 a2 a3 μ) (fun p2 => (p2.1, p2.2))) else (z_let (f_X8_refuse x1 μ) (fun p3 => (p3.1, p3.2))))
set_option maxRecDepth 20000 in
theorem w_X8_way_0 {D : va_G} {cI cL : ClassId} {b : Nat} {Z : State → Heap → Prop}  (a1 : Int32) (a2 : Int32) (a3 : Int32) (μ : z_M) : z_w (zEc D cI cL b Z) (RX8, cX8_way, 5, (some .int), 3) z_ei 0 [(0, .ref (b + 0)), (1, .int a1), (2, .int a2), (3, .int a3)] [] μ (z_oT (f_X8_way a1 a2 a3 μ)) := by
  unfold f_X8_way
  refine z_aload_n (pc := 0) dX8_way_0 rfl ?_
  refine z_iload_n (pc := 1) dX8_way_1 rfl ?_
  refine z_iload_n (pc := 2) dX8_way_2 rfl ?_
  refine z_iload_n (pc := 3) dX8_way_3 rfl ?_
  refine z_callVi (pc := 4) (As := [.int a1, .int a2, .int a3]) (S := []) (c_X8_troubleWithWay a1 a2 a3 μ) rfl zw_X8_troubleWithWay zv_X8_troubleWithWay zm_X8_178 (n := 3) (by decide) rfl (z_recv gc_0 (T := TX8) (N := 11) rfl) rfl (Nat.le_of_ble_eq_true rfl) (by decide) (by decide) dX8_way_4 ?_
  refine z_letI (fun x1 => ?_)
  refine z_istore (pc := 7) (L' := [(0, .ref (b + 0)), (1, .int a1), (2, .int a2), (3, .int a3), (4, .int x1)]) dX8_way_7 (by decide) rfl ?_
  refine z_iload (pc := 9) dX8_way_9 rfl ?_
  refine z_outIf ?_
  refine z_if_ne (pc := 11) (tgt := 27) dX8_way_11 (by decide) (fun _ => ?_) (fun _ => ?_)
  · refine z_aload_n (pc := 14) dX8_way_14 rfl ?_
    refine zgR_X8_10 (pc := 15) gc_0 rfl dX8_way_15 ?_
    refine z_iload_n (pc := 18) dX8_way_18 rfl ?_
    refine z_iload_n (pc := 19) dX8_way_19 rfl ?_
    refine z_iload_n (pc := 20) dX8_way_20 rfl ?_
    refine z_letP (fun p2 hp2 => ?_)
    refine z_callVi (pc := 21) (As := [.int a1, .int a2, .int a3]) (S := []) (c_X6_addWay zstr_1 a1 a2 a3 μ) (z_pT hp2) zw_X6_addWay zv_X6_addWay zm_X8_181 (n := 3) (by decide) rfl (z_recv gc_1 (T := TX6) (N := 10) rfl) rfl (Nat.le_of_ble_eq_true rfl) (by decide) (by decide) dX8_way_21 ?_
    refine z_goto (pc := 24) (tgt := 33) dX8_way_24 (by decide) ?_
    exact z_iret (pc := 33) rfl dX8_way_33
  · refine z_aload_n (pc := 27) dX8_way_27 rfl ?_
    refine z_iload (pc := 28) dX8_way_28 rfl ?_
    refine z_letP (fun p3 hp3 => ?_)
    refine z_callVi (pc := 30) (As := [.int x1]) (S := []) (c_X8_refuse x1 μ) (z_pT hp3) zw_X8_refuse zv_X8_refuse zm_X8_88 (n := 1) (by decide) rfl (z_recv gc_0 (T := TX8) (N := 11) rfl) rfl (Nat.le_of_ble_eq_true rfl) (by decide) (by decide) dX8_way_30 ?_
    exact z_iret (pc := 33) rfl dX8_way_33

set_option maxRecDepth 20000 in
theorem c_X8_way {D : va_G} {cI cL : ClassId} {b : Nat} {Z : State → Heap → Prop}  (a1 : Int32) (a2 : Int32) (a3 : Int32) (μ : z_M) : z_S (zEc D cI cL b Z) 3 yX8_way cX8_way 5 (some .int) z_ei [.ref (b + 0), .int a1, .int a2, .int a3] μ (z_oT (f_X8_way a1 a2 a3 μ)) :=
  z_entry (yn := yX8_way) (by decide) (Nat.le_of_ble_eq_true rfl) rfl (w_X8_way_0 a1 a2 a3 μ)

def f_X8_addWays_h6 : Nat → Int32 → Int32 → Int32 → Int32 → Int32 → z_M → Option (Int32 × z_M)
  | 0, _, _, _, _, _, _ => none
  | n + 1, l1, l2, l3, l4, l5, μ =>
    if (l5 + 2) < l3 then (z_bind (f_X5_intAt l1 (l2 + l5) μ) (fun p1 => z_bind (f_X5_intAt l1 ((l2 + l5) + 1) p1.2) (fun p2 => z_bind (f_X5_intAt l1 ((l2 + l5) + 2) p2.2) (fun p3 => if (f_X8_troubleWithWay p1.1 p2.1 p3.1 p3.2) = 0 then (z_let (f_X6_addWay 1 p1.1 p2.1 p3.1 p3.2) (fun p4 => f_X8_addWays_h6 n l1 l2 l3 (l4 + 1) (l5 + 3) p4.2)) else (some (l4, p3.2)))))) else (some (l4, μ))
def f_X8_addWays (n : Nat) (a1 : Int32) (a2 : Int32) (a3 : Int32) (μ : z_M) : Option (Int32 × z_M) :=
  f_X8_addWays_h6 n a1 a2 a3 0 0 μ
set_option maxRecDepth 20000 in
theorem w_X8_addWays_6 {D : va_G} {cI cL : ClassId} {b : Nat} {Z : State → Heap → Prop}  : ∀ (n : Nat) (l1 : Int32) (l2 : Int32) (l3 : Int32) (l4 : Int32) (l5 : Int32) (μ : z_M), z_w (zEc D cI cL b Z) (RX8, cX8_addWays, 9, (some .int), 4) z_ei 6 [(0, .ref (b + 0)), (1, .int l1), (2, .int l2), (3, .int l3), (4, .int l4), (5, .int l5)] [] μ (f_X8_addWays_h6 n l1 l2 l3 l4 l5 μ) := by
  intro n
  induction n with
  | zero =>
    intro l1 l2 l3 l4 l5 μ
    exact z_none
  | succ n ih =>
    intro l1 l2 l3 l4 l5 μ
    unfold f_X8_addWays_h6
    refine z_iload (pc := 6) dX8_addWays_6 rfl ?_
    refine z_iconst (pc := 8) dX8_addWays_8 zci_2 ?_
    refine z_iadd (pc := 9) dX8_addWays_9 ?_
    refine z_iload_n (pc := 10) dX8_addWays_10 rfl ?_
    refine z_icmp_ge (pc := 11) (tgt := 99) dX8_addWays_11 (by decide) (fun _ => ?_) (fun _ => ?_)
    · refine z_aload_n (pc := 14) dX8_addWays_14 rfl ?_
      refine zgR_X8_25 (pc := 15) gc_0 rfl dX8_addWays_15 ?_
      refine z_iload_n (pc := 18) dX8_addWays_18 rfl ?_
      refine z_iload_n (pc := 19) dX8_addWays_19 rfl ?_
      refine z_iload (pc := 20) dX8_addWays_20 rfl ?_
      refine z_iadd (pc := 22) dX8_addWays_22 ?_
      refine z_bindP (fun p1 hp1 => ?_)
      refine z_callVi (pc := 23) (As := [.int l1, .int (l2 + l5)]) (S := []) (c_X5_intAt l1 (l2 + l5) μ) hp1 zw_X5_intAt zv_X5_intAt zm_X8_187 (n := 2) (by decide) rfl (z_recv gc_22 (T := TX5) (N := 3) rfl) rfl (Nat.le_of_ble_eq_true rfl) (by decide) (by decide) dX8_addWays_23 ?_
      refine z_istore (pc := 26) (L' := [(0, .ref (b + 0)), (1, .int l1), (2, .int l2), (3, .int l3), (4, .int l4), (5, .int l5), (6, .int p1.1)]) dX8_addWays_26 (by decide) rfl ?_
      refine z_aload_n (pc := 28) dX8_addWays_28 rfl ?_
      refine zgR_X8_25 (pc := 29) gc_0 rfl dX8_addWays_29 ?_
      refine z_iload_n (pc := 32) dX8_addWays_32 rfl ?_
      refine z_iload_n (pc := 33) dX8_addWays_33 rfl ?_
      refine z_iload (pc := 34) dX8_addWays_34 rfl ?_
      refine z_iadd (pc := 36) dX8_addWays_36 ?_
      refine z_iconst (pc := 37) dX8_addWays_37 zci_1 ?_
      refine z_iadd (pc := 38) dX8_addWays_38 ?_
      refine z_bindP (fun p2 hp2 => ?_)
      refine z_callVi (pc := 39) (As := [.int l1, .int ((l2 + l5) + 1)]) (S := []) (c_X5_intAt l1 ((l2 + l5) + 1) p1.2) hp2 zw_X5_intAt zv_X5_intAt zm_X8_187 (n := 2) (by decide) rfl (z_recv gc_22 (T := TX5) (N := 3) rfl) rfl (Nat.le_of_ble_eq_true rfl) (by decide) (by decide) dX8_addWays_39 ?_
      refine z_istore (pc := 42) (L' := [(0, .ref (b + 0)), (1, .int l1), (2, .int l2), (3, .int l3), (4, .int l4), (5, .int l5), (6, .int p1.1), (7, .int p2.1)]) dX8_addWays_42 (by decide) rfl ?_
      refine z_aload_n (pc := 44) dX8_addWays_44 rfl ?_
      refine zgR_X8_25 (pc := 45) gc_0 rfl dX8_addWays_45 ?_
      refine z_iload_n (pc := 48) dX8_addWays_48 rfl ?_
      refine z_iload_n (pc := 49) dX8_addWays_49 rfl ?_
      refine z_iload (pc := 50) dX8_addWays_50 rfl ?_
      refine z_iadd (pc := 52) dX8_addWays_52 ?_
      refine z_iconst (pc := 53) dX8_addWays_53 zci_2 ?_
      refine z_iadd (pc := 54) dX8_addWays_54 ?_
      refine z_bindP (fun p3 hp3 => ?_)
      refine z_callVi (pc := 55) (As := [.int l1, .int ((l2 + l5) + 2)]) (S := []) (c_X5_intAt l1 ((l2 + l5) + 2) p2.2) hp3 zw_X5_intAt zv_X5_intAt zm_X8_187 (n := 2) (by decide) rfl (z_recv gc_22 (T := TX5) (N := 3) rfl) rfl (Nat.le_of_ble_eq_true rfl) (by decide) (by decide) dX8_addWays_55 ?_
      refine z_istore (pc := 58) (L' := [(0, .ref (b + 0)), (1, .int l1), (2, .int l2), (3, .int l3), (4, .int l4), (5, .int l5), (6, .int p1.1), (7, .int p2.1), (8, .int p3.1)]) dX8_addWays_58 (by decide) rfl ?_
      refine z_aload_n (pc := 60) dX8_addWays_60 rfl ?_
      refine z_iload (pc := 61) dX8_addWays_61 rfl ?_
      refine z_iload (pc := 63) dX8_addWays_63 rfl ?_
      refine z_iload (pc := 65) dX8_addWays_65 rfl ?_
      refine z_callVi (pc := 67) (As := [.int p1.1, .int p2.1, .int p3.1]) (S := []) (c_X8_troubleWithWay p1.1 p2.1 p3.1 p3.2) rfl zw_X8_troubleWithWay zv_X8_troubleWithWay zm_X8_178 (n := 3) (by decide) rfl (z_recv gc_0 (T := TX8) (N := 11) rfl) rfl (Nat.le_of_ble_eq_true rfl) (by decide) (by decide) dX8_addWays_67 ?_
      refine z_if_eq (pc := 70) (tgt := 76) dX8_addWays_70 (by decide) (fun _ => ?_) (fun _ => ?_)
      · refine z_aload_n (pc := 76) dX8_addWays_76 rfl ?_
        refine zgR_X8_10 (pc := 77) gc_0 rfl dX8_addWays_77 ?_
        refine z_iload (pc := 80) dX8_addWays_80 rfl ?_
        refine z_iload (pc := 82) dX8_addWays_82 rfl ?_
        refine z_iload (pc := 84) dX8_addWays_84 rfl ?_
        refine z_letPO (fun p4 hp4 => ?_)
        refine z_callVi (pc := 86) (As := [.int p1.1, .int p2.1, .int p3.1]) (S := []) (c_X6_addWay zstr_1 p1.1 p2.1 p3.1 p3.2) (z_pT hp4) zw_X6_addWay zv_X6_addWay zm_X8_181 (n := 3) (by decide) rfl (z_recv gc_1 (T := TX6) (N := 10) rfl) rfl (Nat.le_of_ble_eq_true rfl) (by decide) (by decide) dX8_addWays_86 ?_
        refine z_pop (pc := 89) dX8_addWays_89 rfl ?_
        refine z_iinc (pc := 90) (v := (l4 + 1)) (L' := [(0, .ref (b + 0)), (1, .int l1), (2, .int l2), (3, .int l3), (4, .int (l4 + 1)), (5, .int l5), (6, .int p1.1), (7, .int p2.1), (8, .int p3.1)]) dX8_addWays_90 rfl (by decide) rfl rfl ?_
        refine z_iinc (pc := 93) (v := (l5 + 3)) (L' := [(0, .ref (b + 0)), (1, .int l1), (2, .int l2), (3, .int l3), (4, .int (l4 + 1)), (5, .int (l5 + 3)), (6, .int p1.1), (7, .int p2.1), (8, .int p3.1)]) dX8_addWays_93 rfl (by decide) rfl rfl ?_
        refine z_goto (pc := 96) (tgt := 6) dX8_addWays_96 (by decide) ?_
        refine z_drop (L' := [(0, .ref (b + 0)), (1, .int l1), (2, .int l2), (3, .int l3), (4, .int (l4 + 1)), (5, .int (l5 + 3))]) [0, 1, 2, 3, 4, 5] rfl ?_
        exact ih l1 l2 l3 (l4 + 1) (l5 + 3) p4.2
      · refine z_iload (pc := 73) dX8_addWays_73 rfl ?_
        exact z_iret (pc := 75) rfl dX8_addWays_75
    · refine z_iload (pc := 99) dX8_addWays_99 rfl ?_
      exact z_iret (pc := 101) rfl dX8_addWays_101

set_option maxRecDepth 20000 in
theorem w_X8_addWays_0 {D : va_G} {cI cL : ClassId} {b : Nat} {Z : State → Heap → Prop}  (n : Nat) (a1 : Int32) (a2 : Int32) (a3 : Int32) (μ : z_M) : z_w (zEc D cI cL b Z) (RX8, cX8_addWays, 9, (some .int), 4) z_ei 0 [(0, .ref (b + 0)), (1, .int a1), (2, .int a2), (3, .int a3)] [] μ ((f_X8_addWays n a1 a2 a3 μ)) := by
  unfold f_X8_addWays
  refine z_iconst (pc := 0) dX8_addWays_0 zci_0 ?_
  refine z_istore (pc := 1) (L' := [(0, .ref (b + 0)), (1, .int a1), (2, .int a2), (3, .int a3), (4, .int 0)]) dX8_addWays_1 (by decide) rfl ?_
  refine z_iconst (pc := 3) dX8_addWays_3 zci_0 ?_
  refine z_istore (pc := 4) (L' := [(0, .ref (b + 0)), (1, .int a1), (2, .int a2), (3, .int a3), (4, .int 0), (5, .int 0)]) dX8_addWays_4 (by decide) rfl ?_
  exact w_X8_addWays_6 n a1 a2 a3 0 0 μ

set_option maxRecDepth 20000 in
theorem c_X8_addWays {D : va_G} {cI cL : ClassId} {b : Nat} {Z : State → Heap → Prop}  (n : Nat) (a1 : Int32) (a2 : Int32) (a3 : Int32) (μ : z_M) : z_S (zEc D cI cL b Z) 4 yX8_addWays cX8_addWays 9 (some .int) z_ei [.ref (b + 0), .int a1, .int a2, .int a3] μ ((f_X8_addWays n a1 a2 a3 μ)) :=
  z_entry (yn := yX8_addWays) (by decide) (Nat.le_of_ble_eq_true rfl) rfl (w_X8_addWays_0 n a1 a2 a3 μ)

def f_X8_shut (a1 : Int32) (a2 : Int32) (μ : z_M) : Int32 × z_M :=
  if (f_X6_isWay 1 a1 μ) = 0 then (z_let (f_X8_refuse (-1) μ) (fun p1 => (p1.1, p1.2))) else (z_let (f_X6_changeShut 1 a1 a2 μ) (fun p2 => if p2.1 = 0 then ((0, p2.2)) else ((1, p2.2))))
set_option maxRecDepth 20000 in
theorem w_X8_shut_0 {D : va_G} {cI cL : ClassId} {b : Nat} {Z : State → Heap → Prop}  (a1 : Int32) (a2 : Int32) (μ : z_M) : z_w (zEc D cI cL b Z) (RX8, cX8_shut, 3, (some .int), 3) z_ei 0 [(0, .ref (b + 0)), (1, .int a1), (2, .int a2)] [] μ (z_oT (f_X8_shut a1 a2 μ)) := by
  unfold f_X8_shut
  refine z_aload_n (pc := 0) dX8_shut_0 rfl ?_
  refine zgR_X8_10 (pc := 1) gc_0 rfl dX8_shut_1 ?_
  refine z_iload_n (pc := 4) dX8_shut_4 rfl ?_
  refine z_callVi (pc := 5) (As := [.int a1]) (S := []) (c_X6_isWay zstr_1 a1 μ) rfl zw_X6_isWay zv_X6_isWay zm_X8_190 (n := 1) (by decide) rfl (z_recv gc_1 (T := TX6) (N := 10) rfl) rfl (Nat.le_of_ble_eq_true rfl) (by decide) (by decide) dX8_shut_5 ?_
  refine z_outIf ?_
  refine z_if_ne (pc := 8) (tgt := 17) dX8_shut_8 (by decide) (fun _ => ?_) (fun _ => ?_)
  · refine z_aload_n (pc := 11) dX8_shut_11 rfl ?_
    refine z_iconst (pc := 12) dX8_shut_12 zci_m1 ?_
    refine z_letP (fun p1 hp1 => ?_)
    refine z_callVi (pc := 13) (As := [.int (-1)]) (S := []) (c_X8_refuse (-1) μ) (z_pT hp1) zw_X8_refuse zv_X8_refuse zm_X8_88 (n := 1) (by decide) rfl (z_recv gc_0 (T := TX8) (N := 11) rfl) rfl (Nat.le_of_ble_eq_true rfl) (by decide) (by decide) dX8_shut_13 ?_
    exact z_iret (pc := 16) rfl dX8_shut_16
  · refine z_aload_n (pc := 17) dX8_shut_17 rfl ?_
    refine zgR_X8_10 (pc := 18) gc_0 rfl dX8_shut_18 ?_
    refine z_iload_n (pc := 21) dX8_shut_21 rfl ?_
    refine z_iload_n (pc := 22) dX8_shut_22 rfl ?_
    refine z_letP (fun p2 hp2 => ?_)
    refine z_callVi (pc := 23) (As := [.int a1, .int a2]) (S := []) (c_X6_changeShut zstr_1 a1 a2 μ) (z_pT hp2) zw_X6_changeShut zv_X6_changeShut zm_X8_193 (n := 2) (by decide) rfl (z_recv gc_1 (T := TX6) (N := 10) rfl) rfl (Nat.le_of_ble_eq_true rfl) (by decide) (by decide) dX8_shut_23 ?_
    refine z_outIf ?_
    refine z_if_eq (pc := 26) (tgt := 33) dX8_shut_26 (by decide) (fun _ => ?_) (fun _ => ?_)
    · refine z_iconst (pc := 33) dX8_shut_33 zci_0 ?_
      exact z_iret (pc := 34) rfl dX8_shut_34
    · refine z_iconst (pc := 29) dX8_shut_29 zci_1 ?_
      refine z_goto (pc := 30) (tgt := 34) dX8_shut_30 (by decide) ?_
      exact z_iret (pc := 34) rfl dX8_shut_34

set_option maxRecDepth 20000 in
theorem c_X8_shut {D : va_G} {cI cL : ClassId} {b : Nat} {Z : State → Heap → Prop}  (a1 : Int32) (a2 : Int32) (μ : z_M) : z_S (zEc D cI cL b Z) 3 yX8_shut cX8_shut 3 (some .int) z_ei [.ref (b + 0), .int a1, .int a2] μ (z_oT (f_X8_shut a1 a2 μ)) :=
  z_entry (yn := yX8_shut) (by decide) (Nat.le_of_ble_eq_true rfl) rfl (w_X8_shut_0 a1 a2 μ)

def f_X8_lag (a1 : Int32) (μ : z_M) : Int32 × z_M :=
  if (f_X8_isLag a1 μ) = 0 then (z_let (f_X8_refuse (-6) μ) (fun p1 => (p1.1, p1.2))) else (z_let ((f_X6_lagNow 1 μ) : Int32) (fun x2 => z_let (f_X6_changeLag 1 a1 μ) (fun m3 => (x2, m3))))
set_option maxRecDepth 20000 in
theorem w_X8_lag_0 {D : va_G} {cI cL : ClassId} {b : Nat} {Z : State → Heap → Prop}  (a1 : Int32) (μ : z_M) : z_w (zEc D cI cL b Z) (RX8, cX8_lag, 3, (some .int), 2) z_ei 0 [(0, .ref (b + 0)), (1, .int a1)] [] μ (z_oT (f_X8_lag a1 μ)) := by
  unfold f_X8_lag
  refine z_iload_n (pc := 0) dX8_lag_0 rfl ?_
  refine z_callSi (pc := 1) (As := [.int a1]) (S := []) (c_X8_isLag a1 μ) rfl zw_X8_isLag zs_X8_isLag zm_X8_197 (n := 1) (by decide) rfl rfl (Nat.le_of_ble_eq_true rfl) (by decide) (by decide) dX8_lag_1 ?_
  refine z_outIf ?_
  refine z_if_ne (pc := 4) (tgt := 14) dX8_lag_4 (by decide) (fun _ => ?_) (fun _ => ?_)
  · refine z_aload_n (pc := 7) dX8_lag_7 rfl ?_
    refine z_bipush (pc := 8) dX8_lag_8 zcb_m6 ?_
    refine z_letP (fun p1 hp1 => ?_)
    refine z_callVi (pc := 10) (As := [.int (-6)]) (S := []) (c_X8_refuse (-6) μ) (z_pT hp1) zw_X8_refuse zv_X8_refuse zm_X8_88 (n := 1) (by decide) rfl (z_recv gc_0 (T := TX8) (N := 11) rfl) rfl (Nat.le_of_ble_eq_true rfl) (by decide) (by decide) dX8_lag_10 ?_
    exact z_iret (pc := 13) rfl dX8_lag_13
  · refine z_aload_n (pc := 14) dX8_lag_14 rfl ?_
    refine zgR_X8_10 (pc := 15) gc_0 rfl dX8_lag_15 ?_
    refine z_callVi (pc := 18) (As := []) (S := []) (c_X6_lagNow zstr_1 μ) rfl zw_X6_lagNow zv_X6_lagNow zm_X8_200 (n := 0) (by decide) rfl (z_recv gc_1 (T := TX6) (N := 10) rfl) rfl (Nat.le_of_ble_eq_true rfl) (by decide) (by decide) dX8_lag_18 ?_
    refine z_letI (fun x2 => ?_)
    refine z_istore_n (pc := 21) (L' := [(0, .ref (b + 0)), (1, .int a1), (2, .int x2)]) dX8_lag_21 (by decide) rfl ?_
    refine z_aload_n (pc := 22) dX8_lag_22 rfl ?_
    refine zgR_X8_10 (pc := 23) gc_0 rfl dX8_lag_23 ?_
    refine z_iload_n (pc := 26) dX8_lag_26 rfl ?_
    refine z_letP (fun m3 hm3 => ?_)
    refine z_callVv (pc := 27) (As := [.int a1]) (S := []) (c_X6_changeLag zstr_1 a1 μ) (z_pV hm3) zw_X6_changeLag zv_X6_changeLag zm_X8_204 (n := 1) (by decide) rfl (z_recv gc_1 (T := TX6) (N := 10) rfl) rfl (Nat.le_of_ble_eq_true rfl) (by decide) (by decide) dX8_lag_27 ?_
    refine z_iload_n (pc := 30) dX8_lag_30 rfl ?_
    exact z_iret (pc := 31) rfl dX8_lag_31

set_option maxRecDepth 20000 in
theorem c_X8_lag {D : va_G} {cI cL : ClassId} {b : Nat} {Z : State → Heap → Prop}  (a1 : Int32) (μ : z_M) : z_S (zEc D cI cL b Z) 2 yX8_lag cX8_lag 3 (some .int) z_ei [.ref (b + 0), .int a1] μ (z_oT (f_X8_lag a1 μ)) :=
  z_entry (yn := yX8_lag) (by decide) (Nat.le_of_ble_eq_true rfl) rfl (w_X8_lag_0 a1 μ)

def f_X8_said (a1 : Int32) (a2 : Int32) (μ : z_M) : Int32 × z_M :=
  if (f_X6_isHouse 1 a1 μ) = 0 then (z_let (f_X8_refuse (-1) μ) (fun p1 => (p1.1, p1.2))) else (if (f_X8_isSet a2 μ) = 0 then (z_let (f_X8_refuse (-6) μ) (fun p2 => (p2.1, p2.2))) else (z_let ((f_X6_ofHouse 1 a1 1 μ) : Int32) (fun x3 => z_let (f_X6_changeSaid 1 a1 a2 μ) (fun m4 => (x3, m4)))))
set_option maxRecDepth 20000 in
theorem w_X8_said_0 {D : va_G} {cI cL : ClassId} {b : Nat} {Z : State → Heap → Prop}  (a1 : Int32) (a2 : Int32) (μ : z_M) : z_w (zEc D cI cL b Z) (RX8, cX8_said, 4, (some .int), 3) z_ei 0 [(0, .ref (b + 0)), (1, .int a1), (2, .int a2)] [] μ (z_oT (f_X8_said a1 a2 μ)) := by
  unfold f_X8_said
  refine z_aload_n (pc := 0) dX8_said_0 rfl ?_
  refine zgR_X8_10 (pc := 1) gc_0 rfl dX8_said_1 ?_
  refine z_iload_n (pc := 4) dX8_said_4 rfl ?_
  refine z_callVi (pc := 5) (As := [.int a1]) (S := []) (c_X6_isHouse zstr_1 a1 μ) rfl zw_X6_isHouse zv_X6_isHouse zm_X8_103 (n := 1) (by decide) rfl (z_recv gc_1 (T := TX6) (N := 10) rfl) rfl (Nat.le_of_ble_eq_true rfl) (by decide) (by decide) dX8_said_5 ?_
  refine z_outIf ?_
  refine z_if_ne (pc := 8) (tgt := 17) dX8_said_8 (by decide) (fun _ => ?_) (fun _ => ?_)
  · refine z_aload_n (pc := 11) dX8_said_11 rfl ?_
    refine z_iconst (pc := 12) dX8_said_12 zci_m1 ?_
    refine z_letP (fun p1 hp1 => ?_)
    refine z_callVi (pc := 13) (As := [.int (-1)]) (S := []) (c_X8_refuse (-1) μ) (z_pT hp1) zw_X8_refuse zv_X8_refuse zm_X8_88 (n := 1) (by decide) rfl (z_recv gc_0 (T := TX8) (N := 11) rfl) rfl (Nat.le_of_ble_eq_true rfl) (by decide) (by decide) dX8_said_13 ?_
    exact z_iret (pc := 16) rfl dX8_said_16
  · refine z_iload_n (pc := 17) dX8_said_17 rfl ?_
    refine z_callSi (pc := 18) (As := [.int a2]) (S := []) (c_X8_isSet a2 μ) rfl zw_X8_isSet zs_X8_isSet zm_X8_107 (n := 1) (by decide) rfl rfl (Nat.le_of_ble_eq_true rfl) (by decide) (by decide) dX8_said_18 ?_
    refine z_outIf ?_
    refine z_if_ne (pc := 21) (tgt := 31) dX8_said_21 (by decide) (fun _ => ?_) (fun _ => ?_)
    · refine z_aload_n (pc := 24) dX8_said_24 rfl ?_
      refine z_bipush (pc := 25) dX8_said_25 zcb_m6 ?_
      refine z_letP (fun p2 hp2 => ?_)
      refine z_callVi (pc := 27) (As := [.int (-6)]) (S := []) (c_X8_refuse (-6) μ) (z_pT hp2) zw_X8_refuse zv_X8_refuse zm_X8_88 (n := 1) (by decide) rfl (z_recv gc_0 (T := TX8) (N := 11) rfl) rfl (Nat.le_of_ble_eq_true rfl) (by decide) (by decide) dX8_said_27 ?_
      exact z_iret (pc := 30) rfl dX8_said_30
    · refine z_aload_n (pc := 31) dX8_said_31 rfl ?_
      refine zgR_X8_10 (pc := 32) gc_0 rfl dX8_said_32 ?_
      refine z_iload_n (pc := 35) dX8_said_35 rfl ?_
      refine z_iconst (pc := 36) dX8_said_36 zci_1 ?_
      refine z_callVi (pc := 37) (As := [.int a1, .int 1]) (S := []) (c_X6_ofHouse zstr_1 a1 1 μ) rfl zw_X6_ofHouse zv_X6_ofHouse zm_X8_159 (n := 2) (by decide) rfl (z_recv gc_1 (T := TX6) (N := 10) rfl) rfl (Nat.le_of_ble_eq_true rfl) (by decide) (by decide) dX8_said_37 ?_
      refine z_letI (fun x3 => ?_)
      refine z_istore_n (pc := 40) (L' := [(0, .ref (b + 0)), (1, .int a1), (2, .int a2), (3, .int x3)]) dX8_said_40 (by decide) rfl ?_
      refine z_aload_n (pc := 41) dX8_said_41 rfl ?_
      refine zgR_X8_10 (pc := 42) gc_0 rfl dX8_said_42 ?_
      refine z_iload_n (pc := 45) dX8_said_45 rfl ?_
      refine z_iload_n (pc := 46) dX8_said_46 rfl ?_
      refine z_letP (fun m4 hm4 => ?_)
      refine z_callVv (pc := 47) (As := [.int a1, .int a2]) (S := []) (c_X6_changeSaid zstr_1 a1 a2 μ) (z_pV hm4) zw_X6_changeSaid zv_X6_changeSaid zm_X8_207 (n := 2) (by decide) rfl (z_recv gc_1 (T := TX6) (N := 10) rfl) rfl (Nat.le_of_ble_eq_true rfl) (by decide) (by decide) dX8_said_47 ?_
      refine z_iload_n (pc := 50) dX8_said_50 rfl ?_
      exact z_iret (pc := 51) rfl dX8_said_51

set_option maxRecDepth 20000 in
theorem c_X8_said {D : va_G} {cI cL : ClassId} {b : Nat} {Z : State → Heap → Prop}  (a1 : Int32) (a2 : Int32) (μ : z_M) : z_S (zEc D cI cL b Z) 3 yX8_said cX8_said 4 (some .int) z_ei [.ref (b + 0), .int a1, .int a2] μ (z_oT (f_X8_said a1 a2 μ)) :=
  z_entry (yn := yX8_said) (by decide) (Nat.le_of_ble_eq_true rfl) rfl (w_X8_said_0 a1 a2 μ)

def f_X8_houseOf_b25 (l1 : Int32) (l2 : Int32) (s0 : Int32) (μ : z_M) : Int32 × z_M :=
  if s0 = 0 then (z_let (f_X8_refuse (-5) μ) (fun p1 => (p1.1, p1.2))) else (((f_X6_ofHouse 1 l1 l2 μ), μ))
def f_X8_houseOf_b24 (l1 : Int32) (l2 : Int32) (μ : z_M) : Int32 × z_M :=
  f_X8_houseOf_b25 l1 l2 0 μ
def f_X8_houseOf (a1 : Int32) (a2 : Int32) (μ : z_M) : Int32 × z_M :=
  if (f_X6_isHouse 1 a1 μ) = 0 then (f_X8_houseOf_b24 a1 a2 μ) else (if a2 < 0 then (f_X8_houseOf_b24 a1 a2 μ) else (if a2 < 5 then (f_X8_houseOf_b25 a1 a2 1 μ) else (f_X8_houseOf_b24 a1 a2 μ)))
set_option maxRecDepth 20000 in
theorem w_X8_houseOf_25 {D : va_G} {cI cL : ClassId} {b : Nat} {Z : State → Heap → Prop}  (l1 : Int32) (l2 : Int32) (s0 : Int32) (μ : z_M) : z_w (zEc D cI cL b Z) (RX8, cX8_houseOf, 4, (some .int), 2) z_ei 25 [(0, .ref (b + 0)), (1, .int l1), (2, .int l2)] [.int s0] μ (z_oT (f_X8_houseOf_b25 l1 l2 s0 μ)) := by
  unfold f_X8_houseOf_b25
  refine z_istore_n (pc := 25) (L' := [(0, .ref (b + 0)), (1, .int l1), (2, .int l2), (3, .int s0)]) dX8_houseOf_25 (by decide) rfl ?_
  refine z_iload_n (pc := 26) dX8_houseOf_26 rfl ?_
  refine z_outIf ?_
  refine z_if_eq (pc := 27) (tgt := 42) dX8_houseOf_27 (by decide) (fun _ => ?_) (fun _ => ?_)
  · refine z_aload_n (pc := 42) dX8_houseOf_42 rfl ?_
    refine z_bipush (pc := 43) dX8_houseOf_43 zcb_m5 ?_
    refine z_letP (fun p1 hp1 => ?_)
    refine z_callVi (pc := 45) (As := [.int (-5)]) (S := []) (c_X8_refuse (-5) μ) (z_pT hp1) zw_X8_refuse zv_X8_refuse zm_X8_88 (n := 1) (by decide) rfl (z_recv gc_0 (T := TX8) (N := 11) rfl) rfl (Nat.le_of_ble_eq_true rfl) (by decide) (by decide) dX8_houseOf_45 ?_
    exact z_iret (pc := 48) rfl dX8_houseOf_48
  · refine z_aload_n (pc := 30) dX8_houseOf_30 rfl ?_
    refine zgR_X8_10 (pc := 31) gc_0 rfl dX8_houseOf_31 ?_
    refine z_iload_n (pc := 34) dX8_houseOf_34 rfl ?_
    refine z_iload_n (pc := 35) dX8_houseOf_35 rfl ?_
    refine z_callVi (pc := 36) (As := [.int l1, .int l2]) (S := []) (c_X6_ofHouse zstr_1 l1 l2 μ) rfl zw_X6_ofHouse zv_X6_ofHouse zm_X8_159 (n := 2) (by decide) rfl (z_recv gc_1 (T := TX6) (N := 10) rfl) rfl (Nat.le_of_ble_eq_true rfl) (by decide) (by decide) dX8_houseOf_36 ?_
    refine z_goto (pc := 39) (tgt := 48) dX8_houseOf_39 (by decide) ?_
    exact z_iret (pc := 48) rfl dX8_houseOf_48

set_option maxRecDepth 20000 in
theorem w_X8_houseOf_24 {D : va_G} {cI cL : ClassId} {b : Nat} {Z : State → Heap → Prop}  (l1 : Int32) (l2 : Int32) (μ : z_M) : z_w (zEc D cI cL b Z) (RX8, cX8_houseOf, 4, (some .int), 2) z_ei 24 [(0, .ref (b + 0)), (1, .int l1), (2, .int l2)] [] μ (z_oT (f_X8_houseOf_b24 l1 l2 μ)) := by
  unfold f_X8_houseOf_b24
  refine z_iconst (pc := 24) dX8_houseOf_24 zci_0 ?_
  exact w_X8_houseOf_25 l1 l2 0 μ

set_option maxRecDepth 20000 in
theorem w_X8_houseOf_0 {D : va_G} {cI cL : ClassId} {b : Nat} {Z : State → Heap → Prop}  (a1 : Int32) (a2 : Int32) (μ : z_M) : z_w (zEc D cI cL b Z) (RX8, cX8_houseOf, 4, (some .int), 2) z_ei 0 [(0, .ref (b + 0)), (1, .int a1), (2, .int a2)] [] μ (z_oT (f_X8_houseOf a1 a2 μ)) := by
  unfold f_X8_houseOf
  refine z_aload_n (pc := 0) dX8_houseOf_0 rfl ?_
  refine zgR_X8_10 (pc := 1) gc_0 rfl dX8_houseOf_1 ?_
  refine z_iload_n (pc := 4) dX8_houseOf_4 rfl ?_
  refine z_callVi (pc := 5) (As := [.int a1]) (S := []) (c_X6_isHouse zstr_1 a1 μ) rfl zw_X6_isHouse zv_X6_isHouse zm_X8_103 (n := 1) (by decide) rfl (z_recv gc_1 (T := TX6) (N := 10) rfl) rfl (Nat.le_of_ble_eq_true rfl) (by decide) (by decide) dX8_houseOf_5 ?_
  refine z_outIf ?_
  refine z_if_eq (pc := 8) (tgt := 24) dX8_houseOf_8 (by decide) (fun _ => ?_) (fun _ => ?_)
  · exact w_X8_houseOf_24 a1 a2 μ
  · refine z_iload_n (pc := 11) dX8_houseOf_11 rfl ?_
    refine z_outIf ?_
    refine z_if_lt (pc := 12) (tgt := 24) dX8_houseOf_12 (by decide) (fun _ => ?_) (fun _ => ?_)
    · exact w_X8_houseOf_24 a1 a2 μ
    · refine z_iload_n (pc := 15) dX8_houseOf_15 rfl ?_
      refine z_iconst (pc := 16) dX8_houseOf_16 zci_5 ?_
      refine z_outIf ?_
      refine z_icmp_ge (pc := 17) (tgt := 24) dX8_houseOf_17 (by decide) (fun _ => ?_) (fun _ => ?_)
      · refine z_iconst (pc := 20) dX8_houseOf_20 zci_1 ?_
        refine z_goto (pc := 21) (tgt := 25) dX8_houseOf_21 (by decide) ?_
        exact w_X8_houseOf_25 a1 a2 1 μ
      · exact w_X8_houseOf_24 a1 a2 μ

set_option maxRecDepth 20000 in
theorem c_X8_houseOf {D : va_G} {cI cL : ClassId} {b : Nat} {Z : State → Heap → Prop}  (a1 : Int32) (a2 : Int32) (μ : z_M) : z_S (zEc D cI cL b Z) 2 yX8_houseOf cX8_houseOf 4 (some .int) z_ei [.ref (b + 0), .int a1, .int a2] μ (z_oT (f_X8_houseOf a1 a2 μ)) :=
  z_entry (yn := yX8_houseOf) (by decide) (Nat.le_of_ble_eq_true rfl) rfl (w_X8_houseOf_0 a1 a2 μ)

def f_X8_wayOf_b25 (l1 : Int32) (l2 : Int32) (s0 : Int32) (μ : z_M) : Int32 × z_M :=
  if s0 = 0 then (z_let (f_X8_refuse (-5) μ) (fun p1 => (p1.1, p1.2))) else (((f_X6_ofWay 1 l1 l2 μ), μ))
def f_X8_wayOf_b24 (l1 : Int32) (l2 : Int32) (μ : z_M) : Int32 × z_M :=
  f_X8_wayOf_b25 l1 l2 0 μ
def f_X8_wayOf (a1 : Int32) (a2 : Int32) (μ : z_M) : Int32 × z_M :=
  if (f_X6_isWay 1 a1 μ) = 0 then (f_X8_wayOf_b24 a1 a2 μ) else (if a2 < 0 then (f_X8_wayOf_b24 a1 a2 μ) else (if a2 < 4 then (f_X8_wayOf_b25 a1 a2 1 μ) else (f_X8_wayOf_b24 a1 a2 μ)))
set_option maxRecDepth 20000 in
theorem w_X8_wayOf_25 {D : va_G} {cI cL : ClassId} {b : Nat} {Z : State → Heap → Prop}  (l1 : Int32) (l2 : Int32) (s0 : Int32) (μ : z_M) : z_w (zEc D cI cL b Z) (RX8, cX8_wayOf, 4, (some .int), 2) z_ei 25 [(0, .ref (b + 0)), (1, .int l1), (2, .int l2)] [.int s0] μ (z_oT (f_X8_wayOf_b25 l1 l2 s0 μ)) := by
  unfold f_X8_wayOf_b25
  refine z_istore_n (pc := 25) (L' := [(0, .ref (b + 0)), (1, .int l1), (2, .int l2), (3, .int s0)]) dX8_wayOf_25 (by decide) rfl ?_
  refine z_iload_n (pc := 26) dX8_wayOf_26 rfl ?_
  refine z_outIf ?_
  refine z_if_eq (pc := 27) (tgt := 42) dX8_wayOf_27 (by decide) (fun _ => ?_) (fun _ => ?_)
  · refine z_aload_n (pc := 42) dX8_wayOf_42 rfl ?_
    refine z_bipush (pc := 43) dX8_wayOf_43 zcb_m5 ?_
    refine z_letP (fun p1 hp1 => ?_)
    refine z_callVi (pc := 45) (As := [.int (-5)]) (S := []) (c_X8_refuse (-5) μ) (z_pT hp1) zw_X8_refuse zv_X8_refuse zm_X8_88 (n := 1) (by decide) rfl (z_recv gc_0 (T := TX8) (N := 11) rfl) rfl (Nat.le_of_ble_eq_true rfl) (by decide) (by decide) dX8_wayOf_45 ?_
    exact z_iret (pc := 48) rfl dX8_wayOf_48
  · refine z_aload_n (pc := 30) dX8_wayOf_30 rfl ?_
    refine zgR_X8_10 (pc := 31) gc_0 rfl dX8_wayOf_31 ?_
    refine z_iload_n (pc := 34) dX8_wayOf_34 rfl ?_
    refine z_iload_n (pc := 35) dX8_wayOf_35 rfl ?_
    refine z_callVi (pc := 36) (As := [.int l1, .int l2]) (S := []) (c_X6_ofWay zstr_1 l1 l2 μ) rfl zw_X6_ofWay zv_X6_ofWay zm_X8_210 (n := 2) (by decide) rfl (z_recv gc_1 (T := TX6) (N := 10) rfl) rfl (Nat.le_of_ble_eq_true rfl) (by decide) (by decide) dX8_wayOf_36 ?_
    refine z_goto (pc := 39) (tgt := 48) dX8_wayOf_39 (by decide) ?_
    exact z_iret (pc := 48) rfl dX8_wayOf_48

set_option maxRecDepth 20000 in
theorem w_X8_wayOf_24 {D : va_G} {cI cL : ClassId} {b : Nat} {Z : State → Heap → Prop}  (l1 : Int32) (l2 : Int32) (μ : z_M) : z_w (zEc D cI cL b Z) (RX8, cX8_wayOf, 4, (some .int), 2) z_ei 24 [(0, .ref (b + 0)), (1, .int l1), (2, .int l2)] [] μ (z_oT (f_X8_wayOf_b24 l1 l2 μ)) := by
  unfold f_X8_wayOf_b24
  refine z_iconst (pc := 24) dX8_wayOf_24 zci_0 ?_
  exact w_X8_wayOf_25 l1 l2 0 μ

set_option maxRecDepth 20000 in
theorem w_X8_wayOf_0 {D : va_G} {cI cL : ClassId} {b : Nat} {Z : State → Heap → Prop}  (a1 : Int32) (a2 : Int32) (μ : z_M) : z_w (zEc D cI cL b Z) (RX8, cX8_wayOf, 4, (some .int), 2) z_ei 0 [(0, .ref (b + 0)), (1, .int a1), (2, .int a2)] [] μ (z_oT (f_X8_wayOf a1 a2 μ)) := by
  unfold f_X8_wayOf
  refine z_aload_n (pc := 0) dX8_wayOf_0 rfl ?_
  refine zgR_X8_10 (pc := 1) gc_0 rfl dX8_wayOf_1 ?_
  refine z_iload_n (pc := 4) dX8_wayOf_4 rfl ?_
  refine z_callVi (pc := 5) (As := [.int a1]) (S := []) (c_X6_isWay zstr_1 a1 μ) rfl zw_X6_isWay zv_X6_isWay zm_X8_190 (n := 1) (by decide) rfl (z_recv gc_1 (T := TX6) (N := 10) rfl) rfl (Nat.le_of_ble_eq_true rfl) (by decide) (by decide) dX8_wayOf_5 ?_
  refine z_outIf ?_
  refine z_if_eq (pc := 8) (tgt := 24) dX8_wayOf_8 (by decide) (fun _ => ?_) (fun _ => ?_)
  · exact w_X8_wayOf_24 a1 a2 μ
  · refine z_iload_n (pc := 11) dX8_wayOf_11 rfl ?_
    refine z_outIf ?_
    refine z_if_lt (pc := 12) (tgt := 24) dX8_wayOf_12 (by decide) (fun _ => ?_) (fun _ => ?_)
    · exact w_X8_wayOf_24 a1 a2 μ
    · refine z_iload_n (pc := 15) dX8_wayOf_15 rfl ?_
      refine z_iconst (pc := 16) dX8_wayOf_16 zci_4 ?_
      refine z_outIf ?_
      refine z_icmp_ge (pc := 17) (tgt := 24) dX8_wayOf_17 (by decide) (fun _ => ?_) (fun _ => ?_)
      · refine z_iconst (pc := 20) dX8_wayOf_20 zci_1 ?_
        refine z_goto (pc := 21) (tgt := 25) dX8_wayOf_21 (by decide) ?_
        exact w_X8_wayOf_25 a1 a2 1 μ
      · exact w_X8_wayOf_24 a1 a2 μ

set_option maxRecDepth 20000 in
theorem c_X8_wayOf {D : va_G} {cI cL : ClassId} {b : Nat} {Z : State → Heap → Prop}  (a1 : Int32) (a2 : Int32) (μ : z_M) : z_S (zEc D cI cL b Z) 2 yX8_wayOf cX8_wayOf 4 (some .int) z_ei [.ref (b + 0), .int a1, .int a2] μ (z_oT (f_X8_wayOf a1 a2 μ)) :=
  z_entry (yn := yX8_wayOf) (by decide) (Nat.le_of_ble_eq_true rfl) rfl (w_X8_wayOf_0 a1 a2 μ)

def f_X8_fault  (μ : z_M) : Int32 :=
  (μ.1 0 9)
set_option maxRecDepth 20000 in
theorem w_X8_fault_0 {D : va_G} {cI cL : ClassId} {b : Nat} {Z : State → Heap → Prop}   (μ : z_M) : z_w (zEc D cI cL b Z) (RX8, cX8_fault, 1, (some .int), 0) z_ei 0 [(0, .ref (b + 0))] [] μ (z_oP μ (f_X8_fault μ)) := by
  unfold f_X8_fault
  refine z_aload_n (pc := 0) dX8_fault_0 rfl ?_
  refine zgI_X8_72 (pc := 1) gc_0 rfl dX8_fault_1 ?_
  exact z_iret (pc := 4) rfl dX8_fault_4

set_option maxRecDepth 20000 in
theorem c_X8_fault {D : va_G} {cI cL : ClassId} {b : Nat} {Z : State → Heap → Prop}   (μ : z_M) : z_S (zEc D cI cL b Z) 0 yX8_fault cX8_fault 1 (some .int) z_ei [.ref (b + 0)] μ (z_oP μ (f_X8_fault μ)) :=
  z_entry (yn := yX8_fault) (by decide) (Nat.le_of_ble_eq_true rfl) rfl (w_X8_fault_0  μ)

def f_X8_put (n : Nat) (a1 : Int32) (μ : z_M) : Option (Int32 × z_M) :=
  if (f_X6_isHouse 1 a1 μ) = 0 then (z_let (f_X8_refuse (-1) μ) (fun p1 => some (p1.1, p1.2))) else (z_bind (f_X6_visit 1 n a1 μ) (fun p2 => some (p2.1, p2.2)))
set_option maxRecDepth 20000 in
theorem w_X8_put_0 {D : va_G} {cI cL : ClassId} {b : Nat} {Z : State → Heap → Prop}  (n : Nat) (a1 : Int32) (μ : z_M) : z_w (zEc D cI cL b Z) (RX8, cX8_put, 2, (some .int), 3) z_ei 0 [(0, .ref (b + 0)), (1, .int a1)] [] μ ((f_X8_put n a1 μ)) := by
  unfold f_X8_put
  refine z_aload_n (pc := 0) dX8_put_0 rfl ?_
  refine zgR_X8_10 (pc := 1) gc_0 rfl dX8_put_1 ?_
  refine z_iload_n (pc := 4) dX8_put_4 rfl ?_
  refine z_callVi (pc := 5) (As := [.int a1]) (S := []) (c_X6_isHouse zstr_1 a1 μ) rfl zw_X6_isHouse zv_X6_isHouse zm_X8_103 (n := 1) (by decide) rfl (z_recv gc_1 (T := TX6) (N := 10) rfl) rfl (Nat.le_of_ble_eq_true rfl) (by decide) (by decide) dX8_put_5 ?_
  refine z_if_eq (pc := 8) (tgt := 22) dX8_put_8 (by decide) (fun _ => ?_) (fun _ => ?_)
  · refine z_aload_n (pc := 22) dX8_put_22 rfl ?_
    refine z_iconst (pc := 23) dX8_put_23 zci_m1 ?_
    refine z_letPO (fun p1 hp1 => ?_)
    refine z_callVi (pc := 24) (As := [.int (-1)]) (S := []) (c_X8_refuse (-1) μ) (z_pT hp1) zw_X8_refuse zv_X8_refuse zm_X8_88 (n := 1) (by decide) rfl (z_recv gc_0 (T := TX8) (N := 11) rfl) rfl (Nat.le_of_ble_eq_true rfl) (by decide) (by decide) dX8_put_24 ?_
    exact z_iret (pc := 27) rfl dX8_put_27
  · refine z_aload_n (pc := 11) dX8_put_11 rfl ?_
    refine zgR_X8_10 (pc := 12) gc_0 rfl dX8_put_12 ?_
    refine z_iload_n (pc := 15) dX8_put_15 rfl ?_
    refine z_bindP (fun p2 hp2 => ?_)
    refine z_callVi (pc := 16) (As := [.int a1]) (S := []) (c_X6_visit zstr_1 n a1 μ) hp2 zw_X6_visit zv_X6_visit zm_X8_222 (n := 1) (by decide) rfl (z_recv gc_1 (T := TX6) (N := 10) rfl) rfl (Nat.le_of_ble_eq_true rfl) (by decide) (by decide) dX8_put_16 ?_
    refine z_goto (pc := 19) (tgt := 27) dX8_put_19 (by decide) ?_
    exact z_iret (pc := 27) rfl dX8_put_27

set_option maxRecDepth 20000 in
theorem c_X8_put {D : va_G} {cI cL : ClassId} {b : Nat} {Z : State → Heap → Prop}  (n : Nat) (a1 : Int32) (μ : z_M) : z_S (zEc D cI cL b Z) 3 yX8_put cX8_put 2 (some .int) z_ei [.ref (b + 0), .int a1] μ ((f_X8_put n a1 μ)) :=
  z_entry (yn := yX8_put) (by decide) (Nat.le_of_ble_eq_true rfl) rfl (w_X8_put_0 n a1 μ)

def f_X8_go (n : Nat) (a1 : Int32) (μ : z_M) : Option (Int32 × z_M) :=
  if (f_X6_isWay 1 a1 μ) = 0 then (z_let (f_X8_refuse (-1) μ) (fun p1 => some (p1.1, p1.2))) else (if (f_X6_canGoBy 1 a1 μ) = 0 then (z_let (f_X8_refuse (-6) μ) (fun p2 => some (p2.1, p2.2))) else (z_bind (f_X6_goBy 1 n a1 μ) (fun p3 => some (p3.1, p3.2))))
set_option maxRecDepth 20000 in
theorem w_X8_go_0 {D : va_G} {cI cL : ClassId} {b : Nat} {Z : State → Heap → Prop}  (n : Nat) (a1 : Int32) (μ : z_M) : z_w (zEc D cI cL b Z) (RX8, cX8_go, 2, (some .int), 4) z_ei 0 [(0, .ref (b + 0)), (1, .int a1)] [] μ ((f_X8_go n a1 μ)) := by
  unfold f_X8_go
  refine z_aload_n (pc := 0) dX8_go_0 rfl ?_
  refine zgR_X8_10 (pc := 1) gc_0 rfl dX8_go_1 ?_
  refine z_iload_n (pc := 4) dX8_go_4 rfl ?_
  refine z_callVi (pc := 5) (As := [.int a1]) (S := []) (c_X6_isWay zstr_1 a1 μ) rfl zw_X6_isWay zv_X6_isWay zm_X8_190 (n := 1) (by decide) rfl (z_recv gc_1 (T := TX6) (N := 10) rfl) rfl (Nat.le_of_ble_eq_true rfl) (by decide) (by decide) dX8_go_5 ?_
  refine z_if_ne (pc := 8) (tgt := 17) dX8_go_8 (by decide) (fun _ => ?_) (fun _ => ?_)
  · refine z_aload_n (pc := 11) dX8_go_11 rfl ?_
    refine z_iconst (pc := 12) dX8_go_12 zci_m1 ?_
    refine z_letPO (fun p1 hp1 => ?_)
    refine z_callVi (pc := 13) (As := [.int (-1)]) (S := []) (c_X8_refuse (-1) μ) (z_pT hp1) zw_X8_refuse zv_X8_refuse zm_X8_88 (n := 1) (by decide) rfl (z_recv gc_0 (T := TX8) (N := 11) rfl) rfl (Nat.le_of_ble_eq_true rfl) (by decide) (by decide) dX8_go_13 ?_
    exact z_iret (pc := 16) rfl dX8_go_16
  · refine z_aload_n (pc := 17) dX8_go_17 rfl ?_
    refine zgR_X8_10 (pc := 18) gc_0 rfl dX8_go_18 ?_
    refine z_iload_n (pc := 21) dX8_go_21 rfl ?_
    refine z_callVi (pc := 22) (As := [.int a1]) (S := []) (c_X6_canGoBy zstr_1 a1 μ) rfl zw_X6_canGoBy zv_X6_canGoBy zm_X8_225 (n := 1) (by decide) rfl (z_recv gc_1 (T := TX6) (N := 10) rfl) rfl (Nat.le_of_ble_eq_true rfl) (by decide) (by decide) dX8_go_22 ?_
    refine z_if_eq (pc := 25) (tgt := 39) dX8_go_25 (by decide) (fun _ => ?_) (fun _ => ?_)
    · refine z_aload_n (pc := 39) dX8_go_39 rfl ?_
      refine z_bipush (pc := 40) dX8_go_40 zcb_m6 ?_
      refine z_letPO (fun p2 hp2 => ?_)
      refine z_callVi (pc := 42) (As := [.int (-6)]) (S := []) (c_X8_refuse (-6) μ) (z_pT hp2) zw_X8_refuse zv_X8_refuse zm_X8_88 (n := 1) (by decide) rfl (z_recv gc_0 (T := TX8) (N := 11) rfl) rfl (Nat.le_of_ble_eq_true rfl) (by decide) (by decide) dX8_go_42 ?_
      exact z_iret (pc := 45) rfl dX8_go_45
    · refine z_aload_n (pc := 28) dX8_go_28 rfl ?_
      refine zgR_X8_10 (pc := 29) gc_0 rfl dX8_go_29 ?_
      refine z_iload_n (pc := 32) dX8_go_32 rfl ?_
      refine z_bindP (fun p3 hp3 => ?_)
      refine z_callVi (pc := 33) (As := [.int a1]) (S := []) (c_X6_goBy zstr_1 n a1 μ) hp3 zw_X6_goBy zv_X6_goBy zm_X8_228 (n := 1) (by decide) rfl (z_recv gc_1 (T := TX6) (N := 10) rfl) rfl (Nat.le_of_ble_eq_true rfl) (by decide) (by decide) dX8_go_33 ?_
      refine z_goto (pc := 36) (tgt := 45) dX8_go_36 (by decide) ?_
      exact z_iret (pc := 45) rfl dX8_go_45

set_option maxRecDepth 20000 in
theorem c_X8_go {D : va_G} {cI cL : ClassId} {b : Nat} {Z : State → Heap → Prop}  (n : Nat) (a1 : Int32) (μ : z_M) : z_S (zEc D cI cL b Z) 4 yX8_go cX8_go 2 (some .int) z_ei [.ref (b + 0), .int a1] μ ((f_X8_go n a1 μ)) :=
  z_entry (yn := yX8_go) (by decide) (Nat.le_of_ble_eq_true rfl) rfl (w_X8_go_0 n a1 μ)

def f_X8_where  (μ : z_M) : Int32 :=
  (f_X6_birdAt 1 μ)
set_option maxRecDepth 20000 in
theorem w_X8_where_0 {D : va_G} {cI cL : ClassId} {b : Nat} {Z : State → Heap → Prop}   (μ : z_M) : z_w (zEc D cI cL b Z) (RX8, cX8_where, 1, (some .int), 1) z_ei 0 [(0, .ref (b + 0))] [] μ (z_oP μ (f_X8_where μ)) := by
  unfold f_X8_where
  refine z_aload_n (pc := 0) dX8_where_0 rfl ?_
  refine zgR_X8_10 (pc := 1) gc_0 rfl dX8_where_1 ?_
  refine z_callVi (pc := 4) (As := []) (S := []) (c_X6_birdAt zstr_1 μ) rfl zw_X6_birdAt zv_X6_birdAt zm_X8_231 (n := 0) (by decide) rfl (z_recv gc_1 (T := TX6) (N := 10) rfl) rfl (Nat.le_of_ble_eq_true rfl) (by decide) (by decide) dX8_where_4 ?_
  exact z_iret (pc := 7) rfl dX8_where_7

set_option maxRecDepth 20000 in
theorem c_X8_where {D : va_G} {cI cL : ClassId} {b : Nat} {Z : State → Heap → Prop}   (μ : z_M) : z_S (zEc D cI cL b Z) 1 yX8_where cX8_where 1 (some .int) z_ei [.ref (b + 0)] μ (z_oP μ (f_X8_where μ)) :=
  z_entry (yn := yX8_where) (by decide) (Nat.le_of_ble_eq_true rfl) rfl (w_X8_where_0  μ)

def f_X8_next  (μ : z_M) : Int32 :=
  (f_X6_spokenNext 1 μ)
set_option maxRecDepth 20000 in
theorem w_X8_next_0 {D : va_G} {cI cL : ClassId} {b : Nat} {Z : State → Heap → Prop}   (μ : z_M) : z_w (zEc D cI cL b Z) (RX8, cX8_next, 1, (some .int), 2) z_ei 0 [(0, .ref (b + 0))] [] μ (z_oP μ (f_X8_next μ)) := by
  unfold f_X8_next
  refine z_aload_n (pc := 0) dX8_next_0 rfl ?_
  refine zgR_X8_10 (pc := 1) gc_0 rfl dX8_next_1 ?_
  refine z_callVi (pc := 4) (As := []) (S := []) (c_X6_spokenNext zstr_1 μ) rfl zw_X6_spokenNext zv_X6_spokenNext zm_X8_234 (n := 0) (by decide) rfl (z_recv gc_1 (T := TX6) (N := 10) rfl) rfl (Nat.le_of_ble_eq_true rfl) (by decide) (by decide) dX8_next_4 ?_
  exact z_iret (pc := 7) rfl dX8_next_7

set_option maxRecDepth 20000 in
theorem c_X8_next {D : va_G} {cI cL : ClassId} {b : Nat} {Z : State → Heap → Prop}   (μ : z_M) : z_S (zEc D cI cL b Z) 2 yX8_next cX8_next 1 (some .int) z_ei [.ref (b + 0)] μ (z_oP μ (f_X8_next μ)) :=
  z_entry (yn := yX8_next) (by decide) (Nat.le_of_ble_eq_true rfl) rfl (w_X8_next_0  μ)

def f_X8_behind_b26  (μ : z_M) : Int32 × z_M :=
  z_let (f_X8_refuse (-5) μ) (fun p1 => (p1.1, p1.2))
def f_X8_behind (a1 : Int32) (μ : z_M) : Int32 × z_M :=
  if a1 < 0 then (f_X8_behind_b26 μ) else (if a1 < (f_X6_lagNow 1 μ) then (((f_X6_saidAgo 1 a1 μ), μ)) else (f_X8_behind_b26 μ))
set_option maxRecDepth 20000 in
theorem w_X8_behind_26 {D : va_G} {cI cL : ClassId} {b : Nat} {Z : State → Heap → Prop}   (μ : z_M) : z_w (zEc D cI cL b Z) (RX8, cX8_behind, 2, (some .int), 2) z_ei 26 [(0, .ref (b + 0))] [] μ (z_oT (f_X8_behind_b26 μ)) := by
  unfold f_X8_behind_b26
  refine z_aload_n (pc := 26) dX8_behind_26 rfl ?_
  refine z_bipush (pc := 27) dX8_behind_27 zcb_m5 ?_
  refine z_letP (fun p1 hp1 => ?_)
  refine z_callVi (pc := 29) (As := [.int (-5)]) (S := []) (c_X8_refuse (-5) μ) (z_pT hp1) zw_X8_refuse zv_X8_refuse zm_X8_88 (n := 1) (by decide) rfl (z_recv gc_0 (T := TX8) (N := 11) rfl) rfl (Nat.le_of_ble_eq_true rfl) (by decide) (by decide) dX8_behind_29 ?_
  exact z_iret (pc := 32) rfl dX8_behind_32

set_option maxRecDepth 20000 in
theorem w_X8_behind_0 {D : va_G} {cI cL : ClassId} {b : Nat} {Z : State → Heap → Prop}  (a1 : Int32) (μ : z_M) : z_w (zEc D cI cL b Z) (RX8, cX8_behind, 2, (some .int), 2) z_ei 0 [(0, .ref (b + 0)), (1, .int a1)] [] μ (z_oT (f_X8_behind a1 μ)) := by
  unfold f_X8_behind
  refine z_iload_n (pc := 0) dX8_behind_0 rfl ?_
  refine z_outIf ?_
  refine z_if_lt (pc := 1) (tgt := 26) dX8_behind_1 (by decide) (fun _ => ?_) (fun _ => ?_)
  · refine z_drop (L' := [(0, .ref (b + 0))]) [0] rfl ?_
    exact w_X8_behind_26 μ
  · refine z_iload_n (pc := 4) dX8_behind_4 rfl ?_
    refine z_aload_n (pc := 5) dX8_behind_5 rfl ?_
    refine zgR_X8_10 (pc := 6) gc_0 rfl dX8_behind_6 ?_
    refine z_callVi (pc := 9) (As := []) (S := [.int a1]) (c_X6_lagNow zstr_1 μ) rfl zw_X6_lagNow zv_X6_lagNow zm_X8_200 (n := 0) (by decide) rfl (z_recv gc_1 (T := TX6) (N := 10) rfl) rfl (Nat.le_of_ble_eq_true rfl) (by decide) (by decide) dX8_behind_9 ?_
    refine z_outIf ?_
    refine z_icmp_ge (pc := 12) (tgt := 26) dX8_behind_12 (by decide) (fun _ => ?_) (fun _ => ?_)
    · refine z_aload_n (pc := 15) dX8_behind_15 rfl ?_
      refine zgR_X8_10 (pc := 16) gc_0 rfl dX8_behind_16 ?_
      refine z_iload_n (pc := 19) dX8_behind_19 rfl ?_
      refine z_callVi (pc := 20) (As := [.int a1]) (S := []) (c_X6_saidAgo zstr_1 a1 μ) rfl zw_X6_saidAgo zv_X6_saidAgo zm_X8_237 (n := 1) (by decide) rfl (z_recv gc_1 (T := TX6) (N := 10) rfl) rfl (Nat.le_of_ble_eq_true rfl) (by decide) (by decide) dX8_behind_20 ?_
      refine z_goto (pc := 23) (tgt := 32) dX8_behind_23 (by decide) ?_
      exact z_iret (pc := 32) rfl dX8_behind_32
    · refine z_drop (L' := [(0, .ref (b + 0))]) [0] rfl ?_
      exact w_X8_behind_26 μ

set_option maxRecDepth 20000 in
theorem c_X8_behind {D : va_G} {cI cL : ClassId} {b : Nat} {Z : State → Heap → Prop}  (a1 : Int32) (μ : z_M) : z_S (zEc D cI cL b Z) 2 yX8_behind cX8_behind 2 (some .int) z_ei [.ref (b + 0), .int a1] μ (z_oT (f_X8_behind a1 μ)) :=
  z_entry (yn := yX8_behind) (by decide) (Nat.le_of_ble_eq_true rfl) rfl (w_X8_behind_0 a1 μ)

def f_X8_answer (a1 : Int32) (a2 : Int32) (μ : z_M) : Int32 × z_M :=
  if (f_X6_isHouse 1 a1 μ) = 0 then (z_let (f_X8_refuse (-1) μ) (fun p1 => (p1.1, p1.2))) else (if (f_X8_isSet a2 μ) = 0 then (z_let (f_X8_refuse (-6) μ) (fun p2 => (p2.1, p2.2))) else (((f_X6_answerAfter 1 a1 a2 0 0 μ), μ)))
set_option maxRecDepth 20000 in
theorem w_X8_answer_0 {D : va_G} {cI cL : ClassId} {b : Nat} {Z : State → Heap → Prop}  (a1 : Int32) (a2 : Int32) (μ : z_M) : z_w (zEc D cI cL b Z) (RX8, cX8_answer, 3, (some .int), 2) z_ei 0 [(0, .ref (b + 0)), (1, .int a1), (2, .int a2)] [] μ (z_oT (f_X8_answer a1 a2 μ)) := by
  unfold f_X8_answer
  refine z_aload_n (pc := 0) dX8_answer_0 rfl ?_
  refine zgR_X8_10 (pc := 1) gc_0 rfl dX8_answer_1 ?_
  refine z_iload_n (pc := 4) dX8_answer_4 rfl ?_
  refine z_callVi (pc := 5) (As := [.int a1]) (S := []) (c_X6_isHouse zstr_1 a1 μ) rfl zw_X6_isHouse zv_X6_isHouse zm_X8_103 (n := 1) (by decide) rfl (z_recv gc_1 (T := TX6) (N := 10) rfl) rfl (Nat.le_of_ble_eq_true rfl) (by decide) (by decide) dX8_answer_5 ?_
  refine z_outIf ?_
  refine z_if_ne (pc := 8) (tgt := 17) dX8_answer_8 (by decide) (fun _ => ?_) (fun _ => ?_)
  · refine z_aload_n (pc := 11) dX8_answer_11 rfl ?_
    refine z_iconst (pc := 12) dX8_answer_12 zci_m1 ?_
    refine z_letP (fun p1 hp1 => ?_)
    refine z_callVi (pc := 13) (As := [.int (-1)]) (S := []) (c_X8_refuse (-1) μ) (z_pT hp1) zw_X8_refuse zv_X8_refuse zm_X8_88 (n := 1) (by decide) rfl (z_recv gc_0 (T := TX8) (N := 11) rfl) rfl (Nat.le_of_ble_eq_true rfl) (by decide) (by decide) dX8_answer_13 ?_
    exact z_iret (pc := 16) rfl dX8_answer_16
  · refine z_iload_n (pc := 17) dX8_answer_17 rfl ?_
    refine z_callSi (pc := 18) (As := [.int a2]) (S := []) (c_X8_isSet a2 μ) rfl zw_X8_isSet zs_X8_isSet zm_X8_107 (n := 1) (by decide) rfl rfl (Nat.le_of_ble_eq_true rfl) (by decide) (by decide) dX8_answer_18 ?_
    refine z_outIf ?_
    refine z_if_eq (pc := 21) (tgt := 38) dX8_answer_21 (by decide) (fun _ => ?_) (fun _ => ?_)
    · refine z_aload_n (pc := 38) dX8_answer_38 rfl ?_
      refine z_bipush (pc := 39) dX8_answer_39 zcb_m6 ?_
      refine z_letP (fun p2 hp2 => ?_)
      refine z_callVi (pc := 41) (As := [.int (-6)]) (S := []) (c_X8_refuse (-6) μ) (z_pT hp2) zw_X8_refuse zv_X8_refuse zm_X8_88 (n := 1) (by decide) rfl (z_recv gc_0 (T := TX8) (N := 11) rfl) rfl (Nat.le_of_ble_eq_true rfl) (by decide) (by decide) dX8_answer_41 ?_
      exact z_iret (pc := 44) rfl dX8_answer_44
    · refine z_aload_n (pc := 24) dX8_answer_24 rfl ?_
      refine zgR_X8_10 (pc := 25) gc_0 rfl dX8_answer_25 ?_
      refine z_iload_n (pc := 28) dX8_answer_28 rfl ?_
      refine z_iload_n (pc := 29) dX8_answer_29 rfl ?_
      refine z_iconst (pc := 30) dX8_answer_30 zci_0 ?_
      refine z_iconst (pc := 31) dX8_answer_31 zci_0 ?_
      refine z_callVi (pc := 32) (As := [.int a1, .int a2, .int 0, .int 0]) (S := []) (c_X6_answerAfter zstr_1 a1 a2 0 0 μ) rfl zw_X6_answerAfter zv_X6_answerAfter zm_X8_240 (n := 4) (by decide) rfl (z_recv gc_1 (T := TX6) (N := 10) rfl) rfl (Nat.le_of_ble_eq_true rfl) (by decide) (by decide) dX8_answer_32 ?_
      refine z_goto (pc := 35) (tgt := 44) dX8_answer_35 (by decide) ?_
      exact z_iret (pc := 44) rfl dX8_answer_44

set_option maxRecDepth 20000 in
theorem c_X8_answer {D : va_G} {cI cL : ClassId} {b : Nat} {Z : State → Heap → Prop}  (a1 : Int32) (a2 : Int32) (μ : z_M) : z_S (zEc D cI cL b Z) 2 yX8_answer cX8_answer 3 (some .int) z_ei [.ref (b + 0), .int a1, .int a2] μ (z_oT (f_X8_answer a1 a2 μ)) :=
  z_entry (yn := yX8_answer) (by decide) (Nat.le_of_ble_eq_true rfl) rfl (w_X8_answer_0 a1 a2 μ)

def f_X8_between_b22 (n : Nat)  (μ : z_M) : Option (Int32 × z_M) :=
  z_let (f_X8_refuseApart (-1) μ) (fun p1 => some (p1.1, p1.2))
def f_X8_between (n : Nat) (a1 : Int32) (a2 : Int32) (μ : z_M) : Option (Int32 × z_M) :=
  if (f_X6_isHouse 1 a1 μ) = 0 then (f_X8_between_b22 n μ) else (if (f_X6_isHouse 1 a2 μ) = 0 then (f_X8_between_b22 n μ) else (z_bind (f_X7_begin n μ) (fun p2 => some ((f_X7_wayTaken a1 a2 p2.2), p2.2))))
set_option maxRecDepth 20000 in
theorem w_X8_between_22 {D : va_G} {cI cL : ClassId} {b : Nat} {Z : State → Heap → Prop}  (n : Nat)  (μ : z_M) : z_w (zEc D cI cL b Z) (RX8, cX8_between, 3, (some .int), 5) z_ei 22 [(0, .ref (b + 0))] [] μ ((f_X8_between_b22 n μ)) := by
  unfold f_X8_between_b22
  refine z_aload_n (pc := 22) dX8_between_22 rfl ?_
  refine z_iconst (pc := 23) dX8_between_23 zci_m1 ?_
  refine z_letPO (fun p1 hp1 => ?_)
  refine z_callVi (pc := 24) (As := [.int (-1)]) (S := []) (c_X8_refuseApart (-1) μ) (z_pT hp1) zw_X8_refuseApart zv_X8_refuseApart zm_X8_244 (n := 1) (by decide) rfl (z_recv gc_0 (T := TX8) (N := 11) rfl) rfl (Nat.le_of_ble_eq_true rfl) (by decide) (by decide) dX8_between_24 ?_
  exact z_iret (pc := 27) rfl dX8_between_27

set_option maxRecDepth 20000 in
theorem w_X8_between_0 {D : va_G} {cI cL : ClassId} {b : Nat} {Z : State → Heap → Prop}  (n : Nat) (a1 : Int32) (a2 : Int32) (μ : z_M) : z_w (zEc D cI cL b Z) (RX8, cX8_between, 3, (some .int), 5) z_ei 0 [(0, .ref (b + 0)), (1, .int a1), (2, .int a2)] [] μ ((f_X8_between n a1 a2 μ)) := by
  unfold f_X8_between
  refine z_aload_n (pc := 0) dX8_between_0 rfl ?_
  refine zgR_X8_10 (pc := 1) gc_0 rfl dX8_between_1 ?_
  refine z_iload_n (pc := 4) dX8_between_4 rfl ?_
  refine z_callVi (pc := 5) (As := [.int a1]) (S := []) (c_X6_isHouse zstr_1 a1 μ) rfl zw_X6_isHouse zv_X6_isHouse zm_X8_103 (n := 1) (by decide) rfl (z_recv gc_1 (T := TX6) (N := 10) rfl) rfl (Nat.le_of_ble_eq_true rfl) (by decide) (by decide) dX8_between_5 ?_
  refine z_if_eq (pc := 8) (tgt := 22) dX8_between_8 (by decide) (fun _ => ?_) (fun _ => ?_)
  · refine z_drop (L' := [(0, .ref (b + 0))]) [0] rfl ?_
    exact w_X8_between_22 n μ
  · refine z_aload_n (pc := 11) dX8_between_11 rfl ?_
    refine zgR_X8_10 (pc := 12) gc_0 rfl dX8_between_12 ?_
    refine z_iload_n (pc := 15) dX8_between_15 rfl ?_
    refine z_callVi (pc := 16) (As := [.int a2]) (S := []) (c_X6_isHouse zstr_1 a2 μ) rfl zw_X6_isHouse zv_X6_isHouse zm_X8_103 (n := 1) (by decide) rfl (z_recv gc_1 (T := TX6) (N := 10) rfl) rfl (Nat.le_of_ble_eq_true rfl) (by decide) (by decide) dX8_between_16 ?_
    refine z_if_ne (pc := 19) (tgt := 28) dX8_between_19 (by decide) (fun _ => ?_) (fun _ => ?_)
    · refine z_drop (L' := [(0, .ref (b + 0))]) [0] rfl ?_
      exact w_X8_between_22 n μ
    · refine z_aload_n (pc := 28) dX8_between_28 rfl ?_
      refine zgR_X8_41 (pc := 29) gc_0 rfl dX8_between_29 ?_
      refine z_bindP (fun p2 hp2 => ?_)
      refine z_callVv (pc := 32) (As := []) (S := []) (c_X7_begin n μ) hp2 zw_X7_begin zv_X7_begin zm_X8_247 (n := 0) (by decide) rfl (z_recv gc_31 (T := TX7) (N := 8) rfl) rfl (Nat.le_of_ble_eq_true rfl) (by decide) (by decide) dX8_between_32 ?_
      refine z_aload_n (pc := 35) dX8_between_35 rfl ?_
      refine zgR_X8_41 (pc := 36) gc_0 rfl dX8_between_36 ?_
      refine z_iload_n (pc := 39) dX8_between_39 rfl ?_
      refine z_iload_n (pc := 40) dX8_between_40 rfl ?_
      refine z_callVi (pc := 41) (As := [.int a1, .int a2]) (S := []) (c_X7_wayTaken a1 a2 p2.2) rfl zw_X7_wayTaken zv_X7_wayTaken zm_X8_250 (n := 2) (by decide) rfl (z_recv gc_31 (T := TX7) (N := 8) rfl) rfl (Nat.le_of_ble_eq_true rfl) (by decide) (by decide) dX8_between_41 ?_
      exact z_iret (pc := 44) rfl dX8_between_44

set_option maxRecDepth 20000 in
theorem c_X8_between {D : va_G} {cI cL : ClassId} {b : Nat} {Z : State → Heap → Prop}  (n : Nat) (a1 : Int32) (a2 : Int32) (μ : z_M) : z_S (zEc D cI cL b Z) 5 yX8_between cX8_between 3 (some .int) z_ei [.ref (b + 0), .int a1, .int a2] μ ((f_X8_between n a1 a2 μ)) :=
  z_entry (yn := yX8_between) (by decide) (Nat.le_of_ble_eq_true rfl) rfl (w_X8_between_0 n a1 a2 μ)

def f_X8_walkTold_h2 : Nat → Int32 → Int32 → Int32 → z_M → Option (Int32 × z_M)
  | 0, _, _, _, _ => none
  | n + 1, l1, l2, l3, μ =>
    if l3 < l2 then (z_bind (f_X5_intAt l1 l3 μ) (fun p1 => z_bind (f_X7_stepTo n p1.1 p1.2) (fun p2 => if p2.1 = 0 then (some (l3, p2.2)) else (f_X8_walkTold_h2 n l1 l2 (l3 + 1) p2.2)))) else (some ((-1), μ))
def f_X8_walkTold (n : Nat) (a1 : Int32) (a2 : Int32) (μ : z_M) : Option (Int32 × z_M) :=
  f_X8_walkTold_h2 n a1 a2 0 μ
set_option maxRecDepth 20000 in
theorem w_X8_walkTold_2 {D : va_G} {cI cL : ClassId} {b : Nat} {Z : State → Heap → Prop}  : ∀ (n : Nat) (l1 : Int32) (l2 : Int32) (l3 : Int32) (μ : z_M), z_w (zEc D cI cL b Z) (RX8, cX8_walkTold, 4, (some .int), 4) z_ei 2 [(0, .ref (b + 0)), (1, .int l1), (2, .int l2), (3, .int l3)] [] μ (f_X8_walkTold_h2 n l1 l2 l3 μ) := by
  intro n
  induction n with
  | zero =>
    intro l1 l2 l3 μ
    exact z_none
  | succ n ih =>
    intro l1 l2 l3 μ
    unfold f_X8_walkTold_h2
    refine z_iload_n (pc := 2) dX8_walkTold_2 rfl ?_
    refine z_iload_n (pc := 3) dX8_walkTold_3 rfl ?_
    refine z_icmp_ge (pc := 4) (tgt := 34) dX8_walkTold_4 (by decide) (fun _ => ?_) (fun _ => ?_)
    · refine z_aload_n (pc := 7) dX8_walkTold_7 rfl ?_
      refine zgR_X8_41 (pc := 8) gc_0 rfl dX8_walkTold_8 ?_
      refine z_aload_n (pc := 11) dX8_walkTold_11 rfl ?_
      refine zgR_X8_25 (pc := 12) gc_0 rfl dX8_walkTold_12 ?_
      refine z_iload_n (pc := 15) dX8_walkTold_15 rfl ?_
      refine z_iload_n (pc := 16) dX8_walkTold_16 rfl ?_
      refine z_bindP (fun p1 hp1 => ?_)
      refine z_callVi (pc := 17) (As := [.int l1, .int l3]) (S := [.ref (b + 31)]) (c_X5_intAt l1 l3 μ) hp1 zw_X5_intAt zv_X5_intAt zm_X8_187 (n := 2) (by decide) rfl (z_recv gc_22 (T := TX5) (N := 3) rfl) rfl (Nat.le_of_ble_eq_true rfl) (by decide) (by decide) dX8_walkTold_17 ?_
      refine z_bindP (fun p2 hp2 => ?_)
      refine z_callVi (pc := 20) (As := [.int p1.1]) (S := []) (c_X7_stepTo n p1.1 p1.2) hp2 zw_X7_stepTo zv_X7_stepTo zm_X8_253 (n := 1) (by decide) rfl (z_recv gc_31 (T := TX7) (N := 8) rfl) rfl (Nat.le_of_ble_eq_true rfl) (by decide) (by decide) dX8_walkTold_20 ?_
      refine z_if_ne (pc := 23) (tgt := 28) dX8_walkTold_23 (by decide) (fun _ => ?_) (fun _ => ?_)
      · refine z_iload_n (pc := 26) dX8_walkTold_26 rfl ?_
        exact z_iret (pc := 27) rfl dX8_walkTold_27
      · refine z_iinc (pc := 28) (v := (l3 + 1)) (L' := [(0, .ref (b + 0)), (1, .int l1), (2, .int l2), (3, .int (l3 + 1))]) dX8_walkTold_28 rfl (by decide) rfl rfl ?_
        refine z_goto (pc := 31) (tgt := 2) dX8_walkTold_31 (by decide) ?_
        exact ih l1 l2 (l3 + 1) p2.2
    · refine z_iconst (pc := 34) dX8_walkTold_34 zci_m1 ?_
      exact z_iret (pc := 35) rfl dX8_walkTold_35

set_option maxRecDepth 20000 in
theorem w_X8_walkTold_0 {D : va_G} {cI cL : ClassId} {b : Nat} {Z : State → Heap → Prop}  (n : Nat) (a1 : Int32) (a2 : Int32) (μ : z_M) : z_w (zEc D cI cL b Z) (RX8, cX8_walkTold, 4, (some .int), 4) z_ei 0 [(0, .ref (b + 0)), (1, .int a1), (2, .int a2)] [] μ ((f_X8_walkTold n a1 a2 μ)) := by
  unfold f_X8_walkTold
  refine z_iconst (pc := 0) dX8_walkTold_0 zci_0 ?_
  refine z_istore_n (pc := 1) (L' := [(0, .ref (b + 0)), (1, .int a1), (2, .int a2), (3, .int 0)]) dX8_walkTold_1 (by decide) rfl ?_
  exact w_X8_walkTold_2 n a1 a2 0 μ

set_option maxRecDepth 20000 in
theorem c_X8_walkTold {D : va_G} {cI cL : ClassId} {b : Nat} {Z : State → Heap → Prop}  (n : Nat) (a1 : Int32) (a2 : Int32) (μ : z_M) : z_S (zEc D cI cL b Z) 4 yX8_walkTold cX8_walkTold 4 (some .int) z_ei [.ref (b + 0), .int a1, .int a2] μ ((f_X8_walkTold n a1 a2 μ)) :=
  z_entry (yn := yX8_walkTold) (by decide) (Nat.le_of_ble_eq_true rfl) rfl (w_X8_walkTold_0 n a1 a2 μ)

def f_X8_judge (n : Nat) (a1 : Int32) (a2 : Int32) (μ : z_M) : Option (Int32 × z_M) :=
  z_let ((f_X8_troubleWithRoute a1 a2 40 μ) : Int32) (fun x1 => if x1 = 0 then (z_bind (f_X7_begin n μ) (fun p2 => z_bind (f_X8_walkTold n a1 a2 p2.2) (fun p3 => some (p3.1, p3.2)))) else (z_let (f_X8_refuse x1 μ) (fun p4 => some (p4.1, p4.2))))
set_option maxRecDepth 20000 in
theorem w_X8_judge_0 {D : va_G} {cI cL : ClassId} {b : Nat} {Z : State → Heap → Prop}  (n : Nat) (a1 : Int32) (a2 : Int32) (μ : z_M) : z_w (zEc D cI cL b Z) (RX8, cX8_judge, 4, (some .int), 6) z_ei 0 [(0, .ref (b + 0)), (1, .int a1), (2, .int a2)] [] μ ((f_X8_judge n a1 a2 μ)) := by
  unfold f_X8_judge
  refine z_aload_n (pc := 0) dX8_judge_0 rfl ?_
  refine z_iload_n (pc := 1) dX8_judge_1 rfl ?_
  refine z_iload_n (pc := 2) dX8_judge_2 rfl ?_
  refine z_bipush (pc := 3) dX8_judge_3 zcb_40 ?_
  refine z_callVi (pc := 5) (As := [.int a1, .int a2, .int 40]) (S := []) (c_X8_troubleWithRoute a1 a2 40 μ) rfl zw_X8_troubleWithRoute zv_X8_troubleWithRoute zm_X8_256 (n := 3) (by decide) rfl (z_recv gc_0 (T := TX8) (N := 11) rfl) rfl (Nat.le_of_ble_eq_true rfl) (by decide) (by decide) dX8_judge_5 ?_
  refine z_letIO (fun x1 => ?_)
  refine z_istore_n (pc := 8) (L' := [(0, .ref (b + 0)), (1, .int a1), (2, .int a2), (3, .int x1)]) dX8_judge_8 (by decide) rfl ?_
  refine z_iload_n (pc := 9) dX8_judge_9 rfl ?_
  refine z_if_eq (pc := 10) (tgt := 19) dX8_judge_10 (by decide) (fun _ => ?_) (fun _ => ?_)
  · refine z_aload_n (pc := 19) dX8_judge_19 rfl ?_
    refine zgR_X8_41 (pc := 20) gc_0 rfl dX8_judge_20 ?_
    refine z_bindP (fun p2 hp2 => ?_)
    refine z_callVv (pc := 23) (As := []) (S := []) (c_X7_begin n μ) hp2 zw_X7_begin zv_X7_begin zm_X8_247 (n := 0) (by decide) rfl (z_recv gc_31 (T := TX7) (N := 8) rfl) rfl (Nat.le_of_ble_eq_true rfl) (by decide) (by decide) dX8_judge_23 ?_
    refine z_aload_n (pc := 26) dX8_judge_26 rfl ?_
    refine z_iload_n (pc := 27) dX8_judge_27 rfl ?_
    refine z_iload_n (pc := 28) dX8_judge_28 rfl ?_
    refine z_bindP (fun p3 hp3 => ?_)
    refine z_callVi (pc := 29) (As := [.int a1, .int a2]) (S := []) (c_X8_walkTold n a1 a2 p2.2) hp3 zw_X8_walkTold zv_X8_walkTold zm_X8_259 (n := 2) (by decide) rfl (z_recv gc_0 (T := TX8) (N := 11) rfl) rfl (Nat.le_of_ble_eq_true rfl) (by decide) (by decide) dX8_judge_29 ?_
    exact z_iret (pc := 32) rfl dX8_judge_32
  · refine z_aload_n (pc := 13) dX8_judge_13 rfl ?_
    refine z_iload_n (pc := 14) dX8_judge_14 rfl ?_
    refine z_letPO (fun p4 hp4 => ?_)
    refine z_callVi (pc := 15) (As := [.int x1]) (S := []) (c_X8_refuse x1 μ) (z_pT hp4) zw_X8_refuse zv_X8_refuse zm_X8_88 (n := 1) (by decide) rfl (z_recv gc_0 (T := TX8) (N := 11) rfl) rfl (Nat.le_of_ble_eq_true rfl) (by decide) (by decide) dX8_judge_15 ?_
    exact z_iret (pc := 18) rfl dX8_judge_18

set_option maxRecDepth 20000 in
theorem c_X8_judge {D : va_G} {cI cL : ClassId} {b : Nat} {Z : State → Heap → Prop}  (n : Nat) (a1 : Int32) (a2 : Int32) (μ : z_M) : z_S (zEc D cI cL b Z) 6 yX8_judge cX8_judge 4 (some .int) z_ei [.ref (b + 0), .int a1, .int a2] μ ((f_X8_judge n a1 a2 μ)) :=
  z_entry (yn := yX8_judge) (by decide) (Nat.le_of_ble_eq_true rfl) rfl (w_X8_judge_0 n a1 a2 μ)

def f_X8_minutes (n : Nat) (a1 : Int32) (a2 : Int32) (μ : z_M) : Option (Int32 × z_M) :=
  z_let ((f_X8_troubleWithRoute a1 a2 40 μ) : Int32) (fun x1 => if x1 = 0 then (z_bind (f_X7_begin n μ) (fun p2 => z_bind (f_X8_walkTold n a1 a2 p2.2) (fun p3 => if p3.1 = (-1) then (some ((f_X7_minutesTaken p3.2), p3.2)) else (z_let (f_X8_refuse (-6) p3.2) (fun p4 => some (p4.1, p4.2)))))) else (z_let (f_X8_refuse x1 μ) (fun p5 => some (p5.1, p5.2))))
set_option maxRecDepth 20000 in
theorem w_X8_minutes_0 {D : va_G} {cI cL : ClassId} {b : Nat} {Z : State → Heap → Prop}  (n : Nat) (a1 : Int32) (a2 : Int32) (μ : z_M) : z_w (zEc D cI cL b Z) (RX8, cX8_minutes, 4, (some .int), 6) z_ei 0 [(0, .ref (b + 0)), (1, .int a1), (2, .int a2)] [] μ ((f_X8_minutes n a1 a2 μ)) := by
  unfold f_X8_minutes
  refine z_aload_n (pc := 0) dX8_minutes_0 rfl ?_
  refine z_iload_n (pc := 1) dX8_minutes_1 rfl ?_
  refine z_iload_n (pc := 2) dX8_minutes_2 rfl ?_
  refine z_bipush (pc := 3) dX8_minutes_3 zcb_40 ?_
  refine z_callVi (pc := 5) (As := [.int a1, .int a2, .int 40]) (S := []) (c_X8_troubleWithRoute a1 a2 40 μ) rfl zw_X8_troubleWithRoute zv_X8_troubleWithRoute zm_X8_256 (n := 3) (by decide) rfl (z_recv gc_0 (T := TX8) (N := 11) rfl) rfl (Nat.le_of_ble_eq_true rfl) (by decide) (by decide) dX8_minutes_5 ?_
  refine z_letIO (fun x1 => ?_)
  refine z_istore_n (pc := 8) (L' := [(0, .ref (b + 0)), (1, .int a1), (2, .int a2), (3, .int x1)]) dX8_minutes_8 (by decide) rfl ?_
  refine z_iload_n (pc := 9) dX8_minutes_9 rfl ?_
  refine z_if_eq (pc := 10) (tgt := 19) dX8_minutes_10 (by decide) (fun _ => ?_) (fun _ => ?_)
  · refine z_aload_n (pc := 19) dX8_minutes_19 rfl ?_
    refine zgR_X8_41 (pc := 20) gc_0 rfl dX8_minutes_20 ?_
    refine z_bindP (fun p2 hp2 => ?_)
    refine z_callVv (pc := 23) (As := []) (S := []) (c_X7_begin n μ) hp2 zw_X7_begin zv_X7_begin zm_X8_247 (n := 0) (by decide) rfl (z_recv gc_31 (T := TX7) (N := 8) rfl) rfl (Nat.le_of_ble_eq_true rfl) (by decide) (by decide) dX8_minutes_23 ?_
    refine z_aload_n (pc := 26) dX8_minutes_26 rfl ?_
    refine z_iload_n (pc := 27) dX8_minutes_27 rfl ?_
    refine z_iload_n (pc := 28) dX8_minutes_28 rfl ?_
    refine z_bindP (fun p3 hp3 => ?_)
    refine z_callVi (pc := 29) (As := [.int a1, .int a2]) (S := []) (c_X8_walkTold n a1 a2 p2.2) hp3 zw_X8_walkTold zv_X8_walkTold zm_X8_259 (n := 2) (by decide) rfl (z_recv gc_0 (T := TX8) (N := 11) rfl) rfl (Nat.le_of_ble_eq_true rfl) (by decide) (by decide) dX8_minutes_29 ?_
    refine z_iconst (pc := 32) dX8_minutes_32 zci_m1 ?_
    refine z_icmp_ne (pc := 33) (tgt := 46) dX8_minutes_33 (by decide) (fun _ => ?_) (fun _ => ?_)
    · refine z_aload_n (pc := 36) dX8_minutes_36 rfl ?_
      refine zgR_X8_41 (pc := 37) gc_0 rfl dX8_minutes_37 ?_
      refine z_callVi (pc := 40) (As := []) (S := []) (c_X7_minutesTaken p3.2) rfl zw_X7_minutesTaken zv_X7_minutesTaken zm_X8_262 (n := 0) (by decide) rfl (z_recv gc_31 (T := TX7) (N := 8) rfl) rfl (Nat.le_of_ble_eq_true rfl) (by decide) (by decide) dX8_minutes_40 ?_
      refine z_goto (pc := 43) (tgt := 52) dX8_minutes_43 (by decide) ?_
      exact z_iret (pc := 52) rfl dX8_minutes_52
    · refine z_aload_n (pc := 46) dX8_minutes_46 rfl ?_
      refine z_bipush (pc := 47) dX8_minutes_47 zcb_m6 ?_
      refine z_letPO (fun p4 hp4 => ?_)
      refine z_callVi (pc := 49) (As := [.int (-6)]) (S := []) (c_X8_refuse (-6) p3.2) (z_pT hp4) zw_X8_refuse zv_X8_refuse zm_X8_88 (n := 1) (by decide) rfl (z_recv gc_0 (T := TX8) (N := 11) rfl) rfl (Nat.le_of_ble_eq_true rfl) (by decide) (by decide) dX8_minutes_49 ?_
      exact z_iret (pc := 52) rfl dX8_minutes_52
  · refine z_aload_n (pc := 13) dX8_minutes_13 rfl ?_
    refine z_iload_n (pc := 14) dX8_minutes_14 rfl ?_
    refine z_letPO (fun p5 hp5 => ?_)
    refine z_callVi (pc := 15) (As := [.int x1]) (S := []) (c_X8_refuse x1 μ) (z_pT hp5) zw_X8_refuse zv_X8_refuse zm_X8_88 (n := 1) (by decide) rfl (z_recv gc_0 (T := TX8) (N := 11) rfl) rfl (Nat.le_of_ble_eq_true rfl) (by decide) (by decide) dX8_minutes_15 ?_
    exact z_iret (pc := 18) rfl dX8_minutes_18

set_option maxRecDepth 20000 in
theorem c_X8_minutes {D : va_G} {cI cL : ClassId} {b : Nat} {Z : State → Heap → Prop}  (n : Nat) (a1 : Int32) (a2 : Int32) (μ : z_M) : z_S (zEc D cI cL b Z) 6 yX8_minutes cX8_minutes 4 (some .int) z_ei [.ref (b + 0), .int a1, .int a2] μ ((f_X8_minutes n a1 a2 μ)) :=
  z_entry (yn := yX8_minutes) (by decide) (Nat.le_of_ble_eq_true rfl) rfl (w_X8_minutes_0 n a1 a2 μ)

def f_X8_hears_b23 (n : Nat) (l1 : Int32) (l2 : Int32) (l3 : Int32) (s0 : Int32) (μ : z_M) : Option (Int32 × z_M) :=
  if s0 = 0 then (z_bind (f_X7_begin n μ) (fun p1 => z_bind (f_X8_walkTold n l1 l2 p1.2) (fun p2 => if p2.1 = (-1) then (z_bind (f_X7_heardBy n l3 p2.2) (fun p3 => some (p3.1, p3.2))) else (z_let (f_X8_refuse (-6) p2.2) (fun p4 => some (p4.1, p4.2)))))) else (z_let (f_X8_refuse s0 μ) (fun p5 => some (p5.1, p5.2)))
def f_X8_hears (n : Nat) (a1 : Int32) (a2 : Int32) (a3 : Int32) (μ : z_M) : Option (Int32 × z_M) :=
  if (f_X6_isHouse 1 a3 μ) = 0 then (f_X8_hears_b23 n a1 a2 a3 (-1) μ) else (f_X8_hears_b23 n a1 a2 a3 (f_X8_troubleWithRoute a1 a2 40 μ) μ)
set_option maxRecDepth 20000 in
theorem w_X8_hears_23 {D : va_G} {cI cL : ClassId} {b : Nat} {Z : State → Heap → Prop}  (n : Nat) (l1 : Int32) (l2 : Int32) (l3 : Int32) (s0 : Int32) (μ : z_M) : z_w (zEc D cI cL b Z) (RX8, cX8_hears, 5, (some .int), 6) z_ei 23 [(0, .ref (b + 0)), (1, .int l1), (2, .int l2), (3, .int l3)] [.int s0] μ ((f_X8_hears_b23 n l1 l2 l3 s0 μ)) := by
  unfold f_X8_hears_b23
  refine z_istore (pc := 23) (L' := [(0, .ref (b + 0)), (1, .int l1), (2, .int l2), (3, .int l3), (4, .int s0)]) dX8_hears_23 (by decide) rfl ?_
  refine z_iload (pc := 25) dX8_hears_25 rfl ?_
  refine z_if_eq (pc := 27) (tgt := 37) dX8_hears_27 (by decide) (fun _ => ?_) (fun _ => ?_)
  · refine z_aload_n (pc := 37) dX8_hears_37 rfl ?_
    refine zgR_X8_41 (pc := 38) gc_0 rfl dX8_hears_38 ?_
    refine z_bindP (fun p1 hp1 => ?_)
    refine z_callVv (pc := 41) (As := []) (S := []) (c_X7_begin n μ) hp1 zw_X7_begin zv_X7_begin zm_X8_247 (n := 0) (by decide) rfl (z_recv gc_31 (T := TX7) (N := 8) rfl) rfl (Nat.le_of_ble_eq_true rfl) (by decide) (by decide) dX8_hears_41 ?_
    refine z_aload_n (pc := 44) dX8_hears_44 rfl ?_
    refine z_iload_n (pc := 45) dX8_hears_45 rfl ?_
    refine z_iload_n (pc := 46) dX8_hears_46 rfl ?_
    refine z_bindP (fun p2 hp2 => ?_)
    refine z_callVi (pc := 47) (As := [.int l1, .int l2]) (S := []) (c_X8_walkTold n l1 l2 p1.2) hp2 zw_X8_walkTold zv_X8_walkTold zm_X8_259 (n := 2) (by decide) rfl (z_recv gc_0 (T := TX8) (N := 11) rfl) rfl (Nat.le_of_ble_eq_true rfl) (by decide) (by decide) dX8_hears_47 ?_
    refine z_iconst (pc := 50) dX8_hears_50 zci_m1 ?_
    refine z_icmp_ne (pc := 51) (tgt := 65) dX8_hears_51 (by decide) (fun _ => ?_) (fun _ => ?_)
    · refine z_aload_n (pc := 54) dX8_hears_54 rfl ?_
      refine zgR_X8_41 (pc := 55) gc_0 rfl dX8_hears_55 ?_
      refine z_iload_n (pc := 58) dX8_hears_58 rfl ?_
      refine z_bindP (fun p3 hp3 => ?_)
      refine z_callVi (pc := 59) (As := [.int l3]) (S := []) (c_X7_heardBy n l3 p2.2) hp3 zw_X7_heardBy zv_X7_heardBy zm_X8_265 (n := 1) (by decide) rfl (z_recv gc_31 (T := TX7) (N := 8) rfl) rfl (Nat.le_of_ble_eq_true rfl) (by decide) (by decide) dX8_hears_59 ?_
      refine z_goto (pc := 62) (tgt := 71) dX8_hears_62 (by decide) ?_
      exact z_iret (pc := 71) rfl dX8_hears_71
    · refine z_aload_n (pc := 65) dX8_hears_65 rfl ?_
      refine z_bipush (pc := 66) dX8_hears_66 zcb_m6 ?_
      refine z_letPO (fun p4 hp4 => ?_)
      refine z_callVi (pc := 68) (As := [.int (-6)]) (S := []) (c_X8_refuse (-6) p2.2) (z_pT hp4) zw_X8_refuse zv_X8_refuse zm_X8_88 (n := 1) (by decide) rfl (z_recv gc_0 (T := TX8) (N := 11) rfl) rfl (Nat.le_of_ble_eq_true rfl) (by decide) (by decide) dX8_hears_68 ?_
      exact z_iret (pc := 71) rfl dX8_hears_71
  · refine z_aload_n (pc := 30) dX8_hears_30 rfl ?_
    refine z_iload (pc := 31) dX8_hears_31 rfl ?_
    refine z_letPO (fun p5 hp5 => ?_)
    refine z_callVi (pc := 33) (As := [.int s0]) (S := []) (c_X8_refuse s0 μ) (z_pT hp5) zw_X8_refuse zv_X8_refuse zm_X8_88 (n := 1) (by decide) rfl (z_recv gc_0 (T := TX8) (N := 11) rfl) rfl (Nat.le_of_ble_eq_true rfl) (by decide) (by decide) dX8_hears_33 ?_
    exact z_iret (pc := 36) rfl dX8_hears_36

set_option maxRecDepth 20000 in
theorem w_X8_hears_0 {D : va_G} {cI cL : ClassId} {b : Nat} {Z : State → Heap → Prop}  (n : Nat) (a1 : Int32) (a2 : Int32) (a3 : Int32) (μ : z_M) : z_w (zEc D cI cL b Z) (RX8, cX8_hears, 5, (some .int), 6) z_ei 0 [(0, .ref (b + 0)), (1, .int a1), (2, .int a2), (3, .int a3)] [] μ ((f_X8_hears n a1 a2 a3 μ)) := by
  unfold f_X8_hears
  refine z_aload_n (pc := 0) dX8_hears_0 rfl ?_
  refine zgR_X8_10 (pc := 1) gc_0 rfl dX8_hears_1 ?_
  refine z_iload_n (pc := 4) dX8_hears_4 rfl ?_
  refine z_callVi (pc := 5) (As := [.int a3]) (S := []) (c_X6_isHouse zstr_1 a3 μ) rfl zw_X6_isHouse zv_X6_isHouse zm_X8_103 (n := 1) (by decide) rfl (z_recv gc_1 (T := TX6) (N := 10) rfl) rfl (Nat.le_of_ble_eq_true rfl) (by decide) (by decide) dX8_hears_5 ?_
  refine z_if_eq (pc := 8) (tgt := 22) dX8_hears_8 (by decide) (fun _ => ?_) (fun _ => ?_)
  · refine z_iconst (pc := 22) dX8_hears_22 zci_m1 ?_
    exact w_X8_hears_23 n a1 a2 a3 (-1) μ
  · refine z_aload_n (pc := 11) dX8_hears_11 rfl ?_
    refine z_iload_n (pc := 12) dX8_hears_12 rfl ?_
    refine z_iload_n (pc := 13) dX8_hears_13 rfl ?_
    refine z_bipush (pc := 14) dX8_hears_14 zcb_40 ?_
    refine z_callVi (pc := 16) (As := [.int a1, .int a2, .int 40]) (S := []) (c_X8_troubleWithRoute a1 a2 40 μ) rfl zw_X8_troubleWithRoute zv_X8_troubleWithRoute zm_X8_256 (n := 3) (by decide) rfl (z_recv gc_0 (T := TX8) (N := 11) rfl) rfl (Nat.le_of_ble_eq_true rfl) (by decide) (by decide) dX8_hears_16 ?_
    refine z_goto (pc := 19) (tgt := 23) dX8_hears_19 (by decide) ?_
    exact w_X8_hears_23 n a1 a2 a3 (f_X8_troubleWithRoute a1 a2 40 μ) μ

set_option maxRecDepth 20000 in
theorem c_X8_hears {D : va_G} {cI cL : ClassId} {b : Nat} {Z : State → Heap → Prop}  (n : Nat) (a1 : Int32) (a2 : Int32) (a3 : Int32) (μ : z_M) : z_S (zEc D cI cL b Z) 6 yX8_hears cX8_hears 5 (some .int) z_ei [.ref (b + 0), .int a1, .int a2, .int a3] μ ((f_X8_hears n a1 a2 a3 μ)) :=
  z_entry (yn := yX8_hears) (by decide) (Nat.le_of_ble_eq_true rfl) rfl (w_X8_hears_0 n a1 a2 a3 μ)

def f_X8_other_b26 (n : Nat) (l1 : Int32) (l2 : Int32) (l3 : Int32) (l4 : Int32) (μ : z_M) : Option (Int32 × z_M) :=
  if l4 = 0 then (z_bind (f_X7_beginAfresh n l3 μ) (fun p2 => z_bind (f_X8_walkTold n l1 l2 p2.2) (fun p3 => if p3.1 = (-1) then (some ((f_X7_spokenAt (l2 - 1) p3.2), p3.2)) else (z_let (f_X8_refuse (-6) p3.2) (fun p4 => some (p4.1, p4.2)))))) else (z_let (f_X8_refuse l4 μ) (fun p5 => some (p5.1, p5.2)))
def f_X8_other (n : Nat) (a1 : Int32) (a2 : Int32) (a3 : Int32) (μ : z_M) : Option (Int32 × z_M) :=
  z_let ((f_X8_troubleWithRoute a1 a2 40 μ) : Int32) (fun x1 => if x1 = 0 then (if (f_X8_isLag a3 μ) = 0 then (f_X8_other_b26 n a1 a2 a3 (-6) μ) else (f_X8_other_b26 n a1 a2 a3 x1 μ)) else (f_X8_other_b26 n a1 a2 a3 x1 μ))
set_option maxRecDepth 20000 in
theorem w_X8_other_26 {D : va_G} {cI cL : ClassId} {b : Nat} {Z : State → Heap → Prop}  (n : Nat) (l1 : Int32) (l2 : Int32) (l3 : Int32) (l4 : Int32) (μ : z_M) : z_w (zEc D cI cL b Z) (RX8, cX8_other, 5, (some .int), 6) z_ei 26 [(0, .ref (b + 0)), (1, .int l1), (2, .int l2), (3, .int l3), (4, .int l4)] [] μ ((f_X8_other_b26 n l1 l2 l3 l4 μ)) := by
  unfold f_X8_other_b26
  refine z_iload (pc := 26) dX8_other_26 rfl ?_
  refine z_if_eq (pc := 28) (tgt := 38) dX8_other_28 (by decide) (fun _ => ?_) (fun _ => ?_)
  · refine z_aload_n (pc := 38) dX8_other_38 rfl ?_
    refine zgR_X8_41 (pc := 39) gc_0 rfl dX8_other_39 ?_
    refine z_iload_n (pc := 42) dX8_other_42 rfl ?_
    refine z_bindP (fun p2 hp2 => ?_)
    refine z_callVv (pc := 43) (As := [.int l3]) (S := []) (c_X7_beginAfresh n l3 μ) hp2 zw_X7_beginAfresh zv_X7_beginAfresh zm_X8_268 (n := 1) (by decide) rfl (z_recv gc_31 (T := TX7) (N := 8) rfl) rfl (Nat.le_of_ble_eq_true rfl) (by decide) (by decide) dX8_other_43 ?_
    refine z_aload_n (pc := 46) dX8_other_46 rfl ?_
    refine z_iload_n (pc := 47) dX8_other_47 rfl ?_
    refine z_iload_n (pc := 48) dX8_other_48 rfl ?_
    refine z_bindP (fun p3 hp3 => ?_)
    refine z_callVi (pc := 49) (As := [.int l1, .int l2]) (S := []) (c_X8_walkTold n l1 l2 p2.2) hp3 zw_X8_walkTold zv_X8_walkTold zm_X8_259 (n := 2) (by decide) rfl (z_recv gc_0 (T := TX8) (N := 11) rfl) rfl (Nat.le_of_ble_eq_true rfl) (by decide) (by decide) dX8_other_49 ?_
    refine z_iconst (pc := 52) dX8_other_52 zci_m1 ?_
    refine z_icmp_ne (pc := 53) (tgt := 69) dX8_other_53 (by decide) (fun _ => ?_) (fun _ => ?_)
    · refine z_aload_n (pc := 56) dX8_other_56 rfl ?_
      refine zgR_X8_41 (pc := 57) gc_0 rfl dX8_other_57 ?_
      refine z_iload_n (pc := 60) dX8_other_60 rfl ?_
      refine z_iconst (pc := 61) dX8_other_61 zci_1 ?_
      refine z_isub (pc := 62) dX8_other_62 ?_
      refine z_callVi (pc := 63) (As := [.int (l2 - 1)]) (S := []) (c_X7_spokenAt (l2 - 1) p3.2) rfl zw_X7_spokenAt zv_X7_spokenAt zm_X8_271 (n := 1) (by decide) rfl (z_recv gc_31 (T := TX7) (N := 8) rfl) rfl (Nat.le_of_ble_eq_true rfl) (by decide) (by decide) dX8_other_63 ?_
      refine z_goto (pc := 66) (tgt := 75) dX8_other_66 (by decide) ?_
      exact z_iret (pc := 75) rfl dX8_other_75
    · refine z_aload_n (pc := 69) dX8_other_69 rfl ?_
      refine z_bipush (pc := 70) dX8_other_70 zcb_m6 ?_
      refine z_letPO (fun p4 hp4 => ?_)
      refine z_callVi (pc := 72) (As := [.int (-6)]) (S := []) (c_X8_refuse (-6) p3.2) (z_pT hp4) zw_X8_refuse zv_X8_refuse zm_X8_88 (n := 1) (by decide) rfl (z_recv gc_0 (T := TX8) (N := 11) rfl) rfl (Nat.le_of_ble_eq_true rfl) (by decide) (by decide) dX8_other_72 ?_
      exact z_iret (pc := 75) rfl dX8_other_75
  · refine z_aload_n (pc := 31) dX8_other_31 rfl ?_
    refine z_iload (pc := 32) dX8_other_32 rfl ?_
    refine z_letPO (fun p5 hp5 => ?_)
    refine z_callVi (pc := 34) (As := [.int l4]) (S := []) (c_X8_refuse l4 μ) (z_pT hp5) zw_X8_refuse zv_X8_refuse zm_X8_88 (n := 1) (by decide) rfl (z_recv gc_0 (T := TX8) (N := 11) rfl) rfl (Nat.le_of_ble_eq_true rfl) (by decide) (by decide) dX8_other_34 ?_
    exact z_iret (pc := 37) rfl dX8_other_37

set_option maxRecDepth 20000 in
theorem w_X8_other_0 {D : va_G} {cI cL : ClassId} {b : Nat} {Z : State → Heap → Prop}  (n : Nat) (a1 : Int32) (a2 : Int32) (a3 : Int32) (μ : z_M) : z_w (zEc D cI cL b Z) (RX8, cX8_other, 5, (some .int), 6) z_ei 0 [(0, .ref (b + 0)), (1, .int a1), (2, .int a2), (3, .int a3)] [] μ ((f_X8_other n a1 a2 a3 μ)) := by
  unfold f_X8_other
  refine z_aload_n (pc := 0) dX8_other_0 rfl ?_
  refine z_iload_n (pc := 1) dX8_other_1 rfl ?_
  refine z_iload_n (pc := 2) dX8_other_2 rfl ?_
  refine z_bipush (pc := 3) dX8_other_3 zcb_40 ?_
  refine z_callVi (pc := 5) (As := [.int a1, .int a2, .int 40]) (S := []) (c_X8_troubleWithRoute a1 a2 40 μ) rfl zw_X8_troubleWithRoute zv_X8_troubleWithRoute zm_X8_256 (n := 3) (by decide) rfl (z_recv gc_0 (T := TX8) (N := 11) rfl) rfl (Nat.le_of_ble_eq_true rfl) (by decide) (by decide) dX8_other_5 ?_
  refine z_letIO (fun x1 => ?_)
  refine z_istore (pc := 8) (L' := [(0, .ref (b + 0)), (1, .int a1), (2, .int a2), (3, .int a3), (4, .int x1)]) dX8_other_8 (by decide) rfl ?_
  refine z_iload (pc := 10) dX8_other_10 rfl ?_
  refine z_if_ne (pc := 12) (tgt := 26) dX8_other_12 (by decide) (fun _ => ?_) (fun _ => ?_)
  · refine z_iload_n (pc := 15) dX8_other_15 rfl ?_
    refine z_callSi (pc := 16) (As := [.int a3]) (S := []) (c_X8_isLag a3 μ) rfl zw_X8_isLag zs_X8_isLag zm_X8_197 (n := 1) (by decide) rfl rfl (Nat.le_of_ble_eq_true rfl) (by decide) (by decide) dX8_other_16 ?_
    refine z_if_ne (pc := 19) (tgt := 26) dX8_other_19 (by decide) (fun _ => ?_) (fun _ => ?_)
    · refine z_bipush (pc := 22) dX8_other_22 zcb_m6 ?_
      refine z_istore (pc := 24) (L' := [(0, .ref (b + 0)), (1, .int a1), (2, .int a2), (3, .int a3), (4, .int (-6))]) dX8_other_24 (by decide) rfl ?_
      exact w_X8_other_26 n a1 a2 a3 (-6) μ
    · exact w_X8_other_26 n a1 a2 a3 x1 μ
  · exact w_X8_other_26 n a1 a2 a3 x1 μ

set_option maxRecDepth 20000 in
theorem c_X8_other {D : va_G} {cI cL : ClassId} {b : Nat} {Z : State → Heap → Prop}  (n : Nat) (a1 : Int32) (a2 : Int32) (a3 : Int32) (μ : z_M) : z_S (zEc D cI cL b Z) 6 yX8_other cX8_other 5 (some .int) z_ei [.ref (b + 0), .int a1, .int a2, .int a3] μ ((f_X8_other n a1 a2 a3 μ)) :=
  z_entry (yn := yX8_other) (by decide) (Nat.le_of_ble_eq_true rfl) rfl (w_X8_other_0 n a1 a2 a3 μ)

def f_X8_troubleInSeeking (a1 : Int32) (a2 : Int32) (a3 : Int32) (μ : z_M) : Int32 :=
  if a3 < 0 then ((-5)) else (if (f_X8_isSet a1 μ) = 0 then ((-6)) else (if (f_X8_isCount a2 1 6 μ) = 0 then ((-6)) else (if (f_X6_hasBird 1 μ) = 0 then ((-6)) else (0))))
set_option maxRecDepth 20000 in
theorem w_X8_troubleInSeeking_0 {D : va_G} {cI cL : ClassId} {b : Nat} {Z : State → Heap → Prop}  (a1 : Int32) (a2 : Int32) (a3 : Int32) (μ : z_M) : z_w (zEc D cI cL b Z) (RX8, cX8_troubleInSeeking, 4, (some .int), 1) z_ei 0 [(0, .ref (b + 0)), (1, .int a1), (2, .int a2), (3, .int a3)] [] μ (z_oP μ (f_X8_troubleInSeeking a1 a2 a3 μ)) := by
  unfold f_X8_troubleInSeeking
  refine z_iload_n (pc := 0) dX8_troubleInSeeking_0 rfl ?_
  refine z_outIf ?_
  refine z_if_ge (pc := 1) (tgt := 7) dX8_troubleInSeeking_1 (by decide) (fun _ => ?_) (fun _ => ?_)
  · refine z_bipush (pc := 4) dX8_troubleInSeeking_4 zcb_m5 ?_
    exact z_iret (pc := 6) rfl dX8_troubleInSeeking_6
  · refine z_iload_n (pc := 7) dX8_troubleInSeeking_7 rfl ?_
    refine z_callSi (pc := 8) (As := [.int a1]) (S := []) (c_X8_isSet a1 μ) rfl zw_X8_isSet zs_X8_isSet zm_X8_107 (n := 1) (by decide) rfl rfl (Nat.le_of_ble_eq_true rfl) (by decide) (by decide) dX8_troubleInSeeking_8 ?_
    refine z_outIf ?_
    refine z_if_eq (pc := 11) (tgt := 38) dX8_troubleInSeeking_11 (by decide) (fun _ => ?_) (fun _ => ?_)
    · refine z_bipush (pc := 38) dX8_troubleInSeeking_38 zcb_m6 ?_
      exact z_iret (pc := 40) rfl dX8_troubleInSeeking_40
    · refine z_iload_n (pc := 14) dX8_troubleInSeeking_14 rfl ?_
      refine z_iconst (pc := 15) dX8_troubleInSeeking_15 zci_1 ?_
      refine z_bipush (pc := 16) dX8_troubleInSeeking_16 zcb_6 ?_
      refine z_callSi (pc := 18) (As := [.int a2, .int 1, .int 6]) (S := []) (c_X8_isCount a2 1 6 μ) rfl zw_X8_isCount zs_X8_isCount zm_X8_91 (n := 3) (by decide) rfl rfl (Nat.le_of_ble_eq_true rfl) (by decide) (by decide) dX8_troubleInSeeking_18 ?_
      refine z_outIf ?_
      refine z_if_eq (pc := 21) (tgt := 38) dX8_troubleInSeeking_21 (by decide) (fun _ => ?_) (fun _ => ?_)
      · refine z_bipush (pc := 38) dX8_troubleInSeeking_38 zcb_m6 ?_
        exact z_iret (pc := 40) rfl dX8_troubleInSeeking_40
      · refine z_aload_n (pc := 24) dX8_troubleInSeeking_24 rfl ?_
        refine zgR_X8_10 (pc := 25) gc_0 rfl dX8_troubleInSeeking_25 ?_
        refine z_callVi (pc := 28) (As := []) (S := []) (c_X6_hasBird zstr_1 μ) rfl zw_X6_hasBird zv_X6_hasBird zm_X8_99 (n := 0) (by decide) rfl (z_recv gc_1 (T := TX6) (N := 10) rfl) rfl (Nat.le_of_ble_eq_true rfl) (by decide) (by decide) dX8_troubleInSeeking_28 ?_
        refine z_outIf ?_
        refine z_if_eq (pc := 31) (tgt := 38) dX8_troubleInSeeking_31 (by decide) (fun _ => ?_) (fun _ => ?_)
        · refine z_bipush (pc := 38) dX8_troubleInSeeking_38 zcb_m6 ?_
          exact z_iret (pc := 40) rfl dX8_troubleInSeeking_40
        · refine z_iconst (pc := 34) dX8_troubleInSeeking_34 zci_0 ?_
          refine z_goto (pc := 35) (tgt := 40) dX8_troubleInSeeking_35 (by decide) ?_
          exact z_iret (pc := 40) rfl dX8_troubleInSeeking_40

set_option maxRecDepth 20000 in
theorem c_X8_troubleInSeeking {D : va_G} {cI cL : ClassId} {b : Nat} {Z : State → Heap → Prop}  (a1 : Int32) (a2 : Int32) (a3 : Int32) (μ : z_M) : z_S (zEc D cI cL b Z) 1 yX8_troubleInSeeking cX8_troubleInSeeking 4 (some .int) z_ei [.ref (b + 0), .int a1, .int a2, .int a3] μ (z_oP μ (f_X8_troubleInSeeking a1 a2 a3 μ)) :=
  z_entry (yn := yX8_troubleInSeeking) (by decide) (Nat.le_of_ble_eq_true rfl) rfl (w_X8_troubleInSeeking_0 a1 a2 a3 μ)

def f_X8_fits (n : Nat) (a1 : Int32) (a2 : Int32) (μ : z_M) : Option (Int32 × z_M) :=
  z_let ((f_X8_troubleWithRoute a1 a2 6 μ) : Int32) (fun x1 => if x1 = 0 then (z_bind (f_X4_fit n a1 a2 μ) (fun p2 => some ((f_X4_countFound p2.2), p2.2))) else (z_let (f_X8_refuse x1 μ) (fun p3 => some (p3.1, p3.2))))
set_option maxRecDepth 20000 in
theorem w_X8_fits_0 {D : va_G} {cI cL : ClassId} {b : Nat} {Z : State → Heap → Prop}  (n : Nat) (a1 : Int32) (a2 : Int32) (μ : z_M) : z_w (zEc D cI cL b Z) (RX8, cX8_fits, 4, (some .int), 6) z_ei 0 [(0, .ref (b + 0)), (1, .int a1), (2, .int a2)] [] μ ((f_X8_fits n a1 a2 μ)) := by
  unfold f_X8_fits
  refine z_aload_n (pc := 0) dX8_fits_0 rfl ?_
  refine z_iload_n (pc := 1) dX8_fits_1 rfl ?_
  refine z_iload_n (pc := 2) dX8_fits_2 rfl ?_
  refine z_bipush (pc := 3) dX8_fits_3 zcb_6 ?_
  refine z_callVi (pc := 5) (As := [.int a1, .int a2, .int 6]) (S := []) (c_X8_troubleWithRoute a1 a2 6 μ) rfl zw_X8_troubleWithRoute zv_X8_troubleWithRoute zm_X8_256 (n := 3) (by decide) rfl (z_recv gc_0 (T := TX8) (N := 11) rfl) rfl (Nat.le_of_ble_eq_true rfl) (by decide) (by decide) dX8_fits_5 ?_
  refine z_letIO (fun x1 => ?_)
  refine z_istore_n (pc := 8) (L' := [(0, .ref (b + 0)), (1, .int a1), (2, .int a2), (3, .int x1)]) dX8_fits_8 (by decide) rfl ?_
  refine z_iload_n (pc := 9) dX8_fits_9 rfl ?_
  refine z_if_eq (pc := 10) (tgt := 19) dX8_fits_10 (by decide) (fun _ => ?_) (fun _ => ?_)
  · refine z_aload_n (pc := 19) dX8_fits_19 rfl ?_
    refine zgR_X8_50 (pc := 20) gc_0 rfl dX8_fits_20 ?_
    refine z_aload_n (pc := 23) dX8_fits_23 rfl ?_
    refine zgR_X8_25 (pc := 24) gc_0 rfl dX8_fits_24 ?_
    refine z_iload_n (pc := 27) dX8_fits_27 rfl ?_
    refine z_iload_n (pc := 28) dX8_fits_28 rfl ?_
    refine z_bindP (fun p2 hp2 => ?_)
    refine z_callVv (pc := 29) (As := [.ref (b + 22), .int a1, .int a2]) (S := []) (c_X4_fit n a1 a2 μ) hp2 zw_X4_fit zv_X4_fit zm_X8_287 (n := 3) (by decide) rfl (z_recv gc_42 (T := TX4) (N := 7) rfl) rfl (Nat.le_of_ble_eq_true rfl) (by decide) (by decide) dX8_fits_29 ?_
    refine z_aload_n (pc := 32) dX8_fits_32 rfl ?_
    refine zgR_X8_50 (pc := 33) gc_0 rfl dX8_fits_33 ?_
    refine z_callVi (pc := 36) (As := []) (S := []) (c_X4_countFound p2.2) rfl zw_X4_countFound zv_X4_countFound zm_X8_291 (n := 0) (by decide) rfl (z_recv gc_42 (T := TX4) (N := 7) rfl) rfl (Nat.le_of_ble_eq_true rfl) (by decide) (by decide) dX8_fits_36 ?_
    exact z_iret (pc := 39) rfl dX8_fits_39
  · refine z_aload_n (pc := 13) dX8_fits_13 rfl ?_
    refine z_iload_n (pc := 14) dX8_fits_14 rfl ?_
    refine z_letPO (fun p3 hp3 => ?_)
    refine z_callVi (pc := 15) (As := [.int x1]) (S := []) (c_X8_refuse x1 μ) (z_pT hp3) zw_X8_refuse zv_X8_refuse zm_X8_88 (n := 1) (by decide) rfl (z_recv gc_0 (T := TX8) (N := 11) rfl) rfl (Nat.le_of_ble_eq_true rfl) (by decide) (by decide) dX8_fits_15 ?_
    exact z_iret (pc := 18) rfl dX8_fits_18

set_option maxRecDepth 20000 in
theorem c_X8_fits {D : va_G} {cI cL : ClassId} {b : Nat} {Z : State → Heap → Prop}  (n : Nat) (a1 : Int32) (a2 : Int32) (μ : z_M) : z_S (zEc D cI cL b Z) 6 yX8_fits cX8_fits 4 (some .int) z_ei [.ref (b + 0), .int a1, .int a2] μ ((f_X8_fits n a1 a2 μ)) :=
  z_entry (yn := yX8_fits) (by decide) (Nat.le_of_ble_eq_true rfl) rfl (w_X8_fits_0 n a1 a2 μ)

def f_X8_from_b45 (n : Nat) (l1 : Int32) (l2 : Int32) (l3 : Int32) (l4 : Int32) (μ : z_M) : Option (Int32 × z_M) :=
  if l4 = 0 then (z_bind (f_X4_fit n l1 l2 μ) (fun p3 => if l3 = (-1) then (some ((f_X4_endsFound p3.2), p3.2)) else (if (0 : Int32) < (f_X4_countFound p3.2) then (some ((f_X4_houseFound l3 p3.2), p3.2)) else (z_let (f_X8_refuse (-5) p3.2) (fun p4 => some (p4.1, p4.2)))))) else (z_let (f_X8_refuse l4 μ) (fun p5 => some (p5.1, p5.2)))
def f_X8_from_b30 (n : Nat) (l1 : Int32) (l2 : Int32) (l3 : Int32) (l4 : Int32) (μ : z_M) : Option (Int32 × z_M) :=
  if l4 = 0 then (z_let ((f_X8_troubleWithRoute l1 l2 6 μ) : Int32) (fun x2 => f_X8_from_b45 n l1 l2 l3 x2 μ)) else (f_X8_from_b45 n l1 l2 l3 l4 μ)
def f_X8_from_b26 (n : Nat) (l1 : Int32) (l2 : Int32) (l3 : Int32) (μ : z_M) : Option (Int32 × z_M) :=
  f_X8_from_b30 n l1 l2 l3 (-5) μ
def f_X8_from (n : Nat) (a1 : Int32) (a2 : Int32) (a3 : Int32) (μ : z_M) : Option (Int32 × z_M) :=
  z_let ((f_X5_troubleWithStart a1 a2 μ) : Int32) (fun x1 => if x1 = 0 then (if a3 < (-1) then (f_X8_from_b26 n a1 a2 a3 μ) else (if a3 < a2 then (f_X8_from_b30 n a1 a2 a3 x1 μ) else (f_X8_from_b26 n a1 a2 a3 μ))) else (f_X8_from_b30 n a1 a2 a3 x1 μ))
set_option maxRecDepth 20000 in
theorem w_X8_from_45 {D : va_G} {cI cL : ClassId} {b : Nat} {Z : State → Heap → Prop}  (n : Nat) (l1 : Int32) (l2 : Int32) (l3 : Int32) (l4 : Int32) (μ : z_M) : z_w (zEc D cI cL b Z) (RX8, cX8_from, 5, (some .int), 6) z_ei 45 [(0, .ref (b + 0)), (1, .int l1), (2, .int l2), (3, .int l3), (4, .int l4)] [] μ ((f_X8_from_b45 n l1 l2 l3 l4 μ)) := by
  unfold f_X8_from_b45
  refine z_iload (pc := 45) dX8_from_45 rfl ?_
  refine z_if_eq (pc := 47) (tgt := 57) dX8_from_47 (by decide) (fun _ => ?_) (fun _ => ?_)
  · refine z_aload_n (pc := 57) dX8_from_57 rfl ?_
    refine zgR_X8_50 (pc := 58) gc_0 rfl dX8_from_58 ?_
    refine z_aload_n (pc := 61) dX8_from_61 rfl ?_
    refine zgR_X8_25 (pc := 62) gc_0 rfl dX8_from_62 ?_
    refine z_iload_n (pc := 65) dX8_from_65 rfl ?_
    refine z_iload_n (pc := 66) dX8_from_66 rfl ?_
    refine z_bindP (fun p3 hp3 => ?_)
    refine z_callVv (pc := 67) (As := [.ref (b + 22), .int l1, .int l2]) (S := []) (c_X4_fit n l1 l2 μ) hp3 zw_X4_fit zv_X4_fit zm_X8_287 (n := 3) (by decide) rfl (z_recv gc_42 (T := TX4) (N := 7) rfl) rfl (Nat.le_of_ble_eq_true rfl) (by decide) (by decide) dX8_from_67 ?_
    refine z_iload_n (pc := 70) dX8_from_70 rfl ?_
    refine z_iconst (pc := 71) dX8_from_71 zci_m1 ?_
    refine z_icmp_ne (pc := 72) (tgt := 83) dX8_from_72 (by decide) (fun _ => ?_) (fun _ => ?_)
    · refine z_aload_n (pc := 75) dX8_from_75 rfl ?_
      refine zgR_X8_50 (pc := 76) gc_0 rfl dX8_from_76 ?_
      refine z_callVi (pc := 79) (As := []) (S := []) (c_X4_endsFound p3.2) rfl zw_X4_endsFound zv_X4_endsFound zm_X8_294 (n := 0) (by decide) rfl (z_recv gc_42 (T := TX4) (N := 7) rfl) rfl (Nat.le_of_ble_eq_true rfl) (by decide) (by decide) dX8_from_79 ?_
      exact z_iret (pc := 82) rfl dX8_from_82
    · refine z_aload_n (pc := 83) dX8_from_83 rfl ?_
      refine zgR_X8_50 (pc := 84) gc_0 rfl dX8_from_84 ?_
      refine z_callVi (pc := 87) (As := []) (S := []) (c_X4_countFound p3.2) rfl zw_X4_countFound zv_X4_countFound zm_X8_291 (n := 0) (by decide) rfl (z_recv gc_42 (T := TX4) (N := 7) rfl) rfl (Nat.le_of_ble_eq_true rfl) (by decide) (by decide) dX8_from_87 ?_
      refine z_if_le (pc := 90) (tgt := 104) dX8_from_90 (by decide) (fun _ => ?_) (fun _ => ?_)
      · refine z_aload_n (pc := 93) dX8_from_93 rfl ?_
        refine zgR_X8_50 (pc := 94) gc_0 rfl dX8_from_94 ?_
        refine z_iload_n (pc := 97) dX8_from_97 rfl ?_
        refine z_callVi (pc := 98) (As := [.int l3]) (S := []) (c_X4_houseFound l3 p3.2) rfl zw_X4_houseFound zv_X4_houseFound zm_X8_297 (n := 1) (by decide) rfl (z_recv gc_42 (T := TX4) (N := 7) rfl) rfl (Nat.le_of_ble_eq_true rfl) (by decide) (by decide) dX8_from_98 ?_
        refine z_goto (pc := 101) (tgt := 110) dX8_from_101 (by decide) ?_
        exact z_iret (pc := 110) rfl dX8_from_110
      · refine z_aload_n (pc := 104) dX8_from_104 rfl ?_
        refine z_bipush (pc := 105) dX8_from_105 zcb_m5 ?_
        refine z_letPO (fun p4 hp4 => ?_)
        refine z_callVi (pc := 107) (As := [.int (-5)]) (S := []) (c_X8_refuse (-5) p3.2) (z_pT hp4) zw_X8_refuse zv_X8_refuse zm_X8_88 (n := 1) (by decide) rfl (z_recv gc_0 (T := TX8) (N := 11) rfl) rfl (Nat.le_of_ble_eq_true rfl) (by decide) (by decide) dX8_from_107 ?_
        exact z_iret (pc := 110) rfl dX8_from_110
  · refine z_aload_n (pc := 50) dX8_from_50 rfl ?_
    refine z_iload (pc := 51) dX8_from_51 rfl ?_
    refine z_letPO (fun p5 hp5 => ?_)
    refine z_callVi (pc := 53) (As := [.int l4]) (S := []) (c_X8_refuse l4 μ) (z_pT hp5) zw_X8_refuse zv_X8_refuse zm_X8_88 (n := 1) (by decide) rfl (z_recv gc_0 (T := TX8) (N := 11) rfl) rfl (Nat.le_of_ble_eq_true rfl) (by decide) (by decide) dX8_from_53 ?_
    exact z_iret (pc := 56) rfl dX8_from_56

set_option maxRecDepth 20000 in
theorem w_X8_from_30 {D : va_G} {cI cL : ClassId} {b : Nat} {Z : State → Heap → Prop}  (n : Nat) (l1 : Int32) (l2 : Int32) (l3 : Int32) (l4 : Int32) (μ : z_M) : z_w (zEc D cI cL b Z) (RX8, cX8_from, 5, (some .int), 6) z_ei 30 [(0, .ref (b + 0)), (1, .int l1), (2, .int l2), (3, .int l3), (4, .int l4)] [] μ ((f_X8_from_b30 n l1 l2 l3 l4 μ)) := by
  unfold f_X8_from_b30
  refine z_iload (pc := 30) dX8_from_30 rfl ?_
  refine z_if_ne (pc := 32) (tgt := 45) dX8_from_32 (by decide) (fun _ => ?_) (fun _ => ?_)
  · refine z_aload_n (pc := 35) dX8_from_35 rfl ?_
    refine z_iload_n (pc := 36) dX8_from_36 rfl ?_
    refine z_iload_n (pc := 37) dX8_from_37 rfl ?_
    refine z_bipush (pc := 38) dX8_from_38 zcb_6 ?_
    refine z_callVi (pc := 40) (As := [.int l1, .int l2, .int 6]) (S := []) (c_X8_troubleWithRoute l1 l2 6 μ) rfl zw_X8_troubleWithRoute zv_X8_troubleWithRoute zm_X8_256 (n := 3) (by decide) rfl (z_recv gc_0 (T := TX8) (N := 11) rfl) rfl (Nat.le_of_ble_eq_true rfl) (by decide) (by decide) dX8_from_40 ?_
    refine z_letIO (fun x2 => ?_)
    refine z_istore (pc := 43) (L' := [(0, .ref (b + 0)), (1, .int l1), (2, .int l2), (3, .int l3), (4, .int x2)]) dX8_from_43 (by decide) rfl ?_
    exact w_X8_from_45 n l1 l2 l3 x2 μ
  · exact w_X8_from_45 n l1 l2 l3 l4 μ

set_option maxRecDepth 20000 in
theorem w_X8_from_26 {D : va_G} {cI cL : ClassId} {b : Nat} {Z : State → Heap → Prop}  (n : Nat) (l1 : Int32) (l2 : Int32) (l3 : Int32) (μ : z_M) : z_w (zEc D cI cL b Z) (RX8, cX8_from, 5, (some .int), 6) z_ei 26 [(0, .ref (b + 0)), (1, .int l1), (2, .int l2), (3, .int l3)] [] μ ((f_X8_from_b26 n l1 l2 l3 μ)) := by
  unfold f_X8_from_b26
  refine z_bipush (pc := 26) dX8_from_26 zcb_m5 ?_
  refine z_istore (pc := 28) (L' := [(0, .ref (b + 0)), (1, .int l1), (2, .int l2), (3, .int l3), (4, .int (-5))]) dX8_from_28 (by decide) rfl ?_
  exact w_X8_from_30 n l1 l2 l3 (-5) μ

set_option maxRecDepth 20000 in
theorem w_X8_from_0 {D : va_G} {cI cL : ClassId} {b : Nat} {Z : State → Heap → Prop}  (n : Nat) (a1 : Int32) (a2 : Int32) (a3 : Int32) (μ : z_M) : z_w (zEc D cI cL b Z) (RX8, cX8_from, 5, (some .int), 6) z_ei 0 [(0, .ref (b + 0)), (1, .int a1), (2, .int a2), (3, .int a3)] [] μ ((f_X8_from n a1 a2 a3 μ)) := by
  unfold f_X8_from
  refine z_aload_n (pc := 0) dX8_from_0 rfl ?_
  refine zgR_X8_25 (pc := 1) gc_0 rfl dX8_from_1 ?_
  refine z_iload_n (pc := 4) dX8_from_4 rfl ?_
  refine z_iload_n (pc := 5) dX8_from_5 rfl ?_
  refine z_callVi (pc := 6) (As := [.int a1, .int a2]) (S := []) (c_X5_troubleWithStart a1 a2 μ) rfl zw_X5_troubleWithStart zv_X5_troubleWithStart zm_X8_95 (n := 2) (by decide) rfl (z_recv gc_22 (T := TX5) (N := 3) rfl) rfl (Nat.le_of_ble_eq_true rfl) (by decide) (by decide) dX8_from_6 ?_
  refine z_letIO (fun x1 => ?_)
  refine z_istore (pc := 9) (L' := [(0, .ref (b + 0)), (1, .int a1), (2, .int a2), (3, .int a3), (4, .int x1)]) dX8_from_9 (by decide) rfl ?_
  refine z_iload (pc := 11) dX8_from_11 rfl ?_
  refine z_if_ne (pc := 13) (tgt := 30) dX8_from_13 (by decide) (fun _ => ?_) (fun _ => ?_)
  · refine z_iload_n (pc := 16) dX8_from_16 rfl ?_
    refine z_iconst (pc := 17) dX8_from_17 zci_m1 ?_
    refine z_icmp_lt (pc := 18) (tgt := 26) dX8_from_18 (by decide) (fun _ => ?_) (fun _ => ?_)
    · refine z_drop (L' := [(0, .ref (b + 0)), (1, .int a1), (2, .int a2), (3, .int a3)]) [0, 1, 2, 3] rfl ?_
      exact w_X8_from_26 n a1 a2 a3 μ
    · refine z_iload_n (pc := 21) dX8_from_21 rfl ?_
      refine z_iload_n (pc := 22) dX8_from_22 rfl ?_
      refine z_icmp_lt (pc := 23) (tgt := 30) dX8_from_23 (by decide) (fun _ => ?_) (fun _ => ?_)
      · exact w_X8_from_30 n a1 a2 a3 x1 μ
      · refine z_drop (L' := [(0, .ref (b + 0)), (1, .int a1), (2, .int a2), (3, .int a3)]) [0, 1, 2, 3] rfl ?_
        exact w_X8_from_26 n a1 a2 a3 μ
  · exact w_X8_from_30 n a1 a2 a3 x1 μ

set_option maxRecDepth 20000 in
theorem c_X8_from {D : va_G} {cI cL : ClassId} {b : Nat} {Z : State → Heap → Prop}  (n : Nat) (a1 : Int32) (a2 : Int32) (a3 : Int32) (μ : z_M) : z_S (zEc D cI cL b Z) 6 yX8_from cX8_from 5 (some .int) z_ei [.ref (b + 0), .int a1, .int a2, .int a3] μ ((f_X8_from n a1 a2 a3 μ)) :=
  z_entry (yn := yX8_from) (by decide) (Nat.le_of_ble_eq_true rfl) rfl (w_X8_from_0 n a1 a2 a3 μ)

def f_X8_odds (n : Nat) (a1 : Int32) (a2 : Int32) (a3 : Int32) (μ : z_M) : Option (Int64 × z_M) :=
  z_let ((f_X8_troubleInThought a1 a2 (f_X8_isCount a3 1 4 μ) μ) : Int32) (fun x1 => if x1 = 0 then (z_bind (f_X4_oddsToHear n a1 a2 a3 μ) (fun p2 => some (p2.1, p2.2))) else (z_let (f_X8_refuse x1 μ) (fun p3 => some ((Int32.toInt64 p3.1), p3.2))))
set_option maxRecDepth 20000 in
theorem w_X8_odds_0 {D : va_G} {cI cL : ClassId} {b : Nat} {Z : State → Heap → Prop}  (n : Nat) (a1 : Int32) (a2 : Int32) (a3 : Int32) (μ : z_M) : z_w (zEc D cI cL b Z) (RX8, cX8_odds, 5, (some .long), 6) z_el 0 [(0, .ref (b + 0)), (1, .int a1), (2, .int a2), (3, .int a3)] [] μ ((f_X8_odds n a1 a2 a3 μ)) := by
  unfold f_X8_odds
  refine z_aload_n (pc := 0) dX8_odds_0 rfl ?_
  refine z_iload_n (pc := 1) dX8_odds_1 rfl ?_
  refine z_iload_n (pc := 2) dX8_odds_2 rfl ?_
  refine z_iload_n (pc := 3) dX8_odds_3 rfl ?_
  refine z_iconst (pc := 4) dX8_odds_4 zci_1 ?_
  refine z_iconst (pc := 5) dX8_odds_5 zci_4 ?_
  refine z_callSi (pc := 6) (As := [.int a3, .int 1, .int 4]) (S := [.int a2, .int a1, .ref (b + 0)]) (c_X8_isCount a3 1 4 μ) rfl zw_X8_isCount zs_X8_isCount zm_X8_91 (n := 3) (by decide) rfl rfl (Nat.le_of_ble_eq_true rfl) (by decide) (by decide) dX8_odds_6 ?_
  refine z_callVi (pc := 9) (As := [.int a1, .int a2, .int (f_X8_isCount a3 1 4 μ)]) (S := []) (c_X8_troubleInThought a1 a2 (f_X8_isCount a3 1 4 μ) μ) rfl zw_X8_troubleInThought zv_X8_troubleInThought zm_X8_300 (n := 3) (by decide) rfl (z_recv gc_0 (T := TX8) (N := 11) rfl) rfl (Nat.le_of_ble_eq_true rfl) (by decide) (by decide) dX8_odds_9 ?_
  refine z_letIO (fun x1 => ?_)
  refine z_istore (pc := 12) (L' := [(0, .ref (b + 0)), (1, .int a1), (2, .int a2), (3, .int a3), (4, .int x1)]) dX8_odds_12 (by decide) rfl ?_
  refine z_iload (pc := 14) dX8_odds_14 rfl ?_
  refine z_if_ne (pc := 16) (tgt := 32) dX8_odds_16 (by decide) (fun _ => ?_) (fun _ => ?_)
  · refine z_aload_n (pc := 19) dX8_odds_19 rfl ?_
    refine zgR_X8_50 (pc := 20) gc_0 rfl dX8_odds_20 ?_
    refine z_iload_n (pc := 23) dX8_odds_23 rfl ?_
    refine z_iload_n (pc := 24) dX8_odds_24 rfl ?_
    refine z_iload_n (pc := 25) dX8_odds_25 rfl ?_
    refine z_bindP (fun p2 hp2 => ?_)
    refine z_callVl (pc := 26) (As := [.int a1, .int a2, .int a3]) (S := []) (c_X4_oddsToHear n a1 a2 a3 μ) hp2 zw_X4_oddsToHear zv_X4_oddsToHear zm_X8_304 (n := 3) (by decide) rfl (z_recv gc_42 (T := TX4) (N := 7) rfl) rfl (Nat.le_of_ble_eq_true rfl) (by decide) (by decide) dX8_odds_26 ?_
    refine z_goto (pc := 29) (tgt := 39) dX8_odds_29 (by decide) ?_
    exact z_lret (pc := 39) rfl dX8_odds_39
  · refine z_aload_n (pc := 32) dX8_odds_32 rfl ?_
    refine z_iload (pc := 33) dX8_odds_33 rfl ?_
    refine z_letPO (fun p3 hp3 => ?_)
    refine z_callVi (pc := 35) (As := [.int x1]) (S := []) (c_X8_refuse x1 μ) (z_pT hp3) zw_X8_refuse zv_X8_refuse zm_X8_88 (n := 1) (by decide) rfl (z_recv gc_0 (T := TX8) (N := 11) rfl) rfl (Nat.le_of_ble_eq_true rfl) (by decide) (by decide) dX8_odds_35 ?_
    refine z_i2l (pc := 38) dX8_odds_38 ?_
    exact z_lret (pc := 39) rfl dX8_odds_39

set_option maxRecDepth 20000 in
theorem c_X8_odds {D : va_G} {cI cL : ClassId} {b : Nat} {Z : State → Heap → Prop}  (n : Nat) (a1 : Int32) (a2 : Int32) (a3 : Int32) (μ : z_M) : z_S (zEc D cI cL b Z) 6 yX8_odds cX8_odds 5 (some .long) z_el [.ref (b + 0), .int a1, .int a2, .int a3] μ ((f_X8_odds n a1 a2 a3 μ)) :=
  z_entry (yn := yX8_odds) (by decide) (Nat.le_of_ble_eq_true rfl) rfl (w_X8_odds_0 n a1 a2 a3 μ)

def f_X8_shuts (n : Nat) (a1 : Int32) (a2 : Int32) (a3 : Int32) (μ : z_M) : Option (Int32 × z_M) :=
  z_let ((f_X8_troubleInThought a1 a2 (f_X8_isCount a3 1 4 μ) μ) : Int32) (fun x1 => if x1 = 0 then (z_bind (f_X4_fewestToShut n a1 a2 a3 μ) (fun p2 => some (p2.1, p2.2))) else (z_let (f_X8_refuse x1 μ) (fun p3 => some (p3.1, p3.2))))
set_option maxRecDepth 20000 in
theorem w_X8_shuts_0 {D : va_G} {cI cL : ClassId} {b : Nat} {Z : State → Heap → Prop}  (n : Nat) (a1 : Int32) (a2 : Int32) (a3 : Int32) (μ : z_M) : z_w (zEc D cI cL b Z) (RX8, cX8_shuts, 5, (some .int), 6) z_ei 0 [(0, .ref (b + 0)), (1, .int a1), (2, .int a2), (3, .int a3)] [] μ ((f_X8_shuts n a1 a2 a3 μ)) := by
  unfold f_X8_shuts
  refine z_aload_n (pc := 0) dX8_shuts_0 rfl ?_
  refine z_iload_n (pc := 1) dX8_shuts_1 rfl ?_
  refine z_iload_n (pc := 2) dX8_shuts_2 rfl ?_
  refine z_iload_n (pc := 3) dX8_shuts_3 rfl ?_
  refine z_iconst (pc := 4) dX8_shuts_4 zci_1 ?_
  refine z_iconst (pc := 5) dX8_shuts_5 zci_4 ?_
  refine z_callSi (pc := 6) (As := [.int a3, .int 1, .int 4]) (S := [.int a2, .int a1, .ref (b + 0)]) (c_X8_isCount a3 1 4 μ) rfl zw_X8_isCount zs_X8_isCount zm_X8_91 (n := 3) (by decide) rfl rfl (Nat.le_of_ble_eq_true rfl) (by decide) (by decide) dX8_shuts_6 ?_
  refine z_callVi (pc := 9) (As := [.int a1, .int a2, .int (f_X8_isCount a3 1 4 μ)]) (S := []) (c_X8_troubleInThought a1 a2 (f_X8_isCount a3 1 4 μ) μ) rfl zw_X8_troubleInThought zv_X8_troubleInThought zm_X8_300 (n := 3) (by decide) rfl (z_recv gc_0 (T := TX8) (N := 11) rfl) rfl (Nat.le_of_ble_eq_true rfl) (by decide) (by decide) dX8_shuts_9 ?_
  refine z_letIO (fun x1 => ?_)
  refine z_istore (pc := 12) (L' := [(0, .ref (b + 0)), (1, .int a1), (2, .int a2), (3, .int a3), (4, .int x1)]) dX8_shuts_12 (by decide) rfl ?_
  refine z_iload (pc := 14) dX8_shuts_14 rfl ?_
  refine z_if_ne (pc := 16) (tgt := 32) dX8_shuts_16 (by decide) (fun _ => ?_) (fun _ => ?_)
  · refine z_aload_n (pc := 19) dX8_shuts_19 rfl ?_
    refine zgR_X8_50 (pc := 20) gc_0 rfl dX8_shuts_20 ?_
    refine z_iload_n (pc := 23) dX8_shuts_23 rfl ?_
    refine z_iload_n (pc := 24) dX8_shuts_24 rfl ?_
    refine z_iload_n (pc := 25) dX8_shuts_25 rfl ?_
    refine z_bindP (fun p2 hp2 => ?_)
    refine z_callVi (pc := 26) (As := [.int a1, .int a2, .int a3]) (S := []) (c_X4_fewestToShut n a1 a2 a3 μ) hp2 zw_X4_fewestToShut zv_X4_fewestToShut zm_X8_308 (n := 3) (by decide) rfl (z_recv gc_42 (T := TX4) (N := 7) rfl) rfl (Nat.le_of_ble_eq_true rfl) (by decide) (by decide) dX8_shuts_26 ?_
    refine z_goto (pc := 29) (tgt := 38) dX8_shuts_29 (by decide) ?_
    exact z_iret (pc := 38) rfl dX8_shuts_38
  · refine z_aload_n (pc := 32) dX8_shuts_32 rfl ?_
    refine z_iload (pc := 33) dX8_shuts_33 rfl ?_
    refine z_letPO (fun p3 hp3 => ?_)
    refine z_callVi (pc := 35) (As := [.int x1]) (S := []) (c_X8_refuse x1 μ) (z_pT hp3) zw_X8_refuse zv_X8_refuse zm_X8_88 (n := 1) (by decide) rfl (z_recv gc_0 (T := TX8) (N := 11) rfl) rfl (Nat.le_of_ble_eq_true rfl) (by decide) (by decide) dX8_shuts_35 ?_
    exact z_iret (pc := 38) rfl dX8_shuts_38

set_option maxRecDepth 20000 in
theorem c_X8_shuts {D : va_G} {cI cL : ClassId} {b : Nat} {Z : State → Heap → Prop}  (n : Nat) (a1 : Int32) (a2 : Int32) (a3 : Int32) (μ : z_M) : z_S (zEc D cI cL b Z) 6 yX8_shuts cX8_shuts 5 (some .int) z_ei [.ref (b + 0), .int a1, .int a2, .int a3] μ ((f_X8_shuts n a1 a2 a3 μ)) :=
  z_entry (yn := yX8_shuts) (by decide) (Nat.le_of_ble_eq_true rfl) rfl (w_X8_shuts_0 n a1 a2 a3 μ)

def f_X8_reach (n : Nat) (a1 : Int32) (a2 : Int32) (μ : z_M) : Option (Int32 × z_M) :=
  z_let ((f_X8_troubleInThought a1 0 (f_X8_isCount a2 0 6 μ) μ) : Int32) (fun x1 => if x1 = 0 then (z_bind (f_X4_wordsInReach n a1 a2 μ) (fun p2 => some (p2.1, p2.2))) else (z_let (f_X8_refuse x1 μ) (fun p3 => some (p3.1, p3.2))))
set_option maxRecDepth 20000 in
theorem w_X8_reach_0 {D : va_G} {cI cL : ClassId} {b : Nat} {Z : State → Heap → Prop}  (n : Nat) (a1 : Int32) (a2 : Int32) (μ : z_M) : z_w (zEc D cI cL b Z) (RX8, cX8_reach, 4, (some .int), 6) z_ei 0 [(0, .ref (b + 0)), (1, .int a1), (2, .int a2)] [] μ ((f_X8_reach n a1 a2 μ)) := by
  unfold f_X8_reach
  refine z_aload_n (pc := 0) dX8_reach_0 rfl ?_
  refine z_iload_n (pc := 1) dX8_reach_1 rfl ?_
  refine z_iconst (pc := 2) dX8_reach_2 zci_0 ?_
  refine z_iload_n (pc := 3) dX8_reach_3 rfl ?_
  refine z_iconst (pc := 4) dX8_reach_4 zci_0 ?_
  refine z_bipush (pc := 5) dX8_reach_5 zcb_6 ?_
  refine z_callSi (pc := 7) (As := [.int a2, .int 0, .int 6]) (S := [.int 0, .int a1, .ref (b + 0)]) (c_X8_isCount a2 0 6 μ) rfl zw_X8_isCount zs_X8_isCount zm_X8_91 (n := 3) (by decide) rfl rfl (Nat.le_of_ble_eq_true rfl) (by decide) (by decide) dX8_reach_7 ?_
  refine z_callVi (pc := 10) (As := [.int a1, .int 0, .int (f_X8_isCount a2 0 6 μ)]) (S := []) (c_X8_troubleInThought a1 0 (f_X8_isCount a2 0 6 μ) μ) rfl zw_X8_troubleInThought zv_X8_troubleInThought zm_X8_300 (n := 3) (by decide) rfl (z_recv gc_0 (T := TX8) (N := 11) rfl) rfl (Nat.le_of_ble_eq_true rfl) (by decide) (by decide) dX8_reach_10 ?_
  refine z_letIO (fun x1 => ?_)
  refine z_istore_n (pc := 13) (L' := [(0, .ref (b + 0)), (1, .int a1), (2, .int a2), (3, .int x1)]) dX8_reach_13 (by decide) rfl ?_
  refine z_iload_n (pc := 14) dX8_reach_14 rfl ?_
  refine z_if_ne (pc := 15) (tgt := 30) dX8_reach_15 (by decide) (fun _ => ?_) (fun _ => ?_)
  · refine z_aload_n (pc := 18) dX8_reach_18 rfl ?_
    refine zgR_X8_50 (pc := 19) gc_0 rfl dX8_reach_19 ?_
    refine z_iload_n (pc := 22) dX8_reach_22 rfl ?_
    refine z_iload_n (pc := 23) dX8_reach_23 rfl ?_
    refine z_bindP (fun p2 hp2 => ?_)
    refine z_callVi (pc := 24) (As := [.int a1, .int a2]) (S := []) (c_X4_wordsInReach n a1 a2 μ) hp2 zw_X4_wordsInReach zv_X4_wordsInReach zm_X8_311 (n := 2) (by decide) rfl (z_recv gc_42 (T := TX4) (N := 7) rfl) rfl (Nat.le_of_ble_eq_true rfl) (by decide) (by decide) dX8_reach_24 ?_
    refine z_goto (pc := 27) (tgt := 35) dX8_reach_27 (by decide) ?_
    exact z_iret (pc := 35) rfl dX8_reach_35
  · refine z_aload_n (pc := 30) dX8_reach_30 rfl ?_
    refine z_iload_n (pc := 31) dX8_reach_31 rfl ?_
    refine z_letPO (fun p3 hp3 => ?_)
    refine z_callVi (pc := 32) (As := [.int x1]) (S := []) (c_X8_refuse x1 μ) (z_pT hp3) zw_X8_refuse zv_X8_refuse zm_X8_88 (n := 1) (by decide) rfl (z_recv gc_0 (T := TX8) (N := 11) rfl) rfl (Nat.le_of_ble_eq_true rfl) (by decide) (by decide) dX8_reach_32 ?_
    exact z_iret (pc := 35) rfl dX8_reach_35

set_option maxRecDepth 20000 in
theorem c_X8_reach {D : va_G} {cI cL : ClassId} {b : Nat} {Z : State → Heap → Prop}  (n : Nat) (a1 : Int32) (a2 : Int32) (μ : z_M) : z_S (zEc D cI cL b Z) 6 yX8_reach cX8_reach 4 (some .int) z_ei [.ref (b + 0), .int a1, .int a2] μ ((f_X8_reach n a1 a2 μ)) :=
  z_entry (yn := yX8_reach) (by decide) (Nat.le_of_ble_eq_true rfl) rfl (w_X8_reach_0 n a1 a2 μ)

def f_X8_first (n : Nat) (a1 : Int32) (a2 : Int32) (μ : z_M) : Option (Int32 × z_M) :=
  z_let ((f_X8_troubleInThought a1 a2 1 μ) : Int32) (fun x1 => if x1 = 0 then (z_bind (f_X4_fewestVisits n a1 a2 6 μ) (fun p2 => some (p2.1, p2.2))) else (z_let (f_X8_refuseApart x1 μ) (fun p3 => some (p3.1, p3.2))))
set_option maxRecDepth 20000 in
theorem w_X8_first_0 {D : va_G} {cI cL : ClassId} {b : Nat} {Z : State → Heap → Prop}  (n : Nat) (a1 : Int32) (a2 : Int32) (μ : z_M) : z_w (zEc D cI cL b Z) (RX8, cX8_first, 4, (some .int), 6) z_ei 0 [(0, .ref (b + 0)), (1, .int a1), (2, .int a2)] [] μ ((f_X8_first n a1 a2 μ)) := by
  unfold f_X8_first
  refine z_aload_n (pc := 0) dX8_first_0 rfl ?_
  refine z_iload_n (pc := 1) dX8_first_1 rfl ?_
  refine z_iload_n (pc := 2) dX8_first_2 rfl ?_
  refine z_iconst (pc := 3) dX8_first_3 zci_1 ?_
  refine z_callVi (pc := 4) (As := [.int a1, .int a2, .int 1]) (S := []) (c_X8_troubleInThought a1 a2 1 μ) rfl zw_X8_troubleInThought zv_X8_troubleInThought zm_X8_300 (n := 3) (by decide) rfl (z_recv gc_0 (T := TX8) (N := 11) rfl) rfl (Nat.le_of_ble_eq_true rfl) (by decide) (by decide) dX8_first_4 ?_
  refine z_letIO (fun x1 => ?_)
  refine z_istore_n (pc := 7) (L' := [(0, .ref (b + 0)), (1, .int a1), (2, .int a2), (3, .int x1)]) dX8_first_7 (by decide) rfl ?_
  refine z_iload_n (pc := 8) dX8_first_8 rfl ?_
  refine z_if_ne (pc := 9) (tgt := 26) dX8_first_9 (by decide) (fun _ => ?_) (fun _ => ?_)
  · refine z_aload_n (pc := 12) dX8_first_12 rfl ?_
    refine zgR_X8_50 (pc := 13) gc_0 rfl dX8_first_13 ?_
    refine z_iload_n (pc := 16) dX8_first_16 rfl ?_
    refine z_iload_n (pc := 17) dX8_first_17 rfl ?_
    refine z_bipush (pc := 18) dX8_first_18 zcb_6 ?_
    refine z_bindP (fun p2 hp2 => ?_)
    refine z_callVi (pc := 20) (As := [.int a1, .int a2, .int 6]) (S := []) (c_X4_fewestVisits n a1 a2 6 μ) hp2 zw_X4_fewestVisits zv_X4_fewestVisits zm_X8_314 (n := 3) (by decide) rfl (z_recv gc_42 (T := TX4) (N := 7) rfl) rfl (Nat.le_of_ble_eq_true rfl) (by decide) (by decide) dX8_first_20 ?_
    refine z_goto (pc := 23) (tgt := 31) dX8_first_23 (by decide) ?_
    exact z_iret (pc := 31) rfl dX8_first_31
  · refine z_aload_n (pc := 26) dX8_first_26 rfl ?_
    refine z_iload_n (pc := 27) dX8_first_27 rfl ?_
    refine z_letPO (fun p3 hp3 => ?_)
    refine z_callVi (pc := 28) (As := [.int x1]) (S := []) (c_X8_refuseApart x1 μ) (z_pT hp3) zw_X8_refuseApart zv_X8_refuseApart zm_X8_244 (n := 1) (by decide) rfl (z_recv gc_0 (T := TX8) (N := 11) rfl) rfl (Nat.le_of_ble_eq_true rfl) (by decide) (by decide) dX8_first_28 ?_
    exact z_iret (pc := 31) rfl dX8_first_31

set_option maxRecDepth 20000 in
theorem c_X8_first {D : va_G} {cI cL : ClassId} {b : Nat} {Z : State → Heap → Prop}  (n : Nat) (a1 : Int32) (a2 : Int32) (μ : z_M) : z_S (zEc D cI cL b Z) 6 yX8_first cX8_first 4 (some .int) z_ei [.ref (b + 0), .int a1, .int a2] μ ((f_X8_first n a1 a2 μ)) :=
  z_entry (yn := yX8_first) (by decide) (Nat.le_of_ble_eq_true rfl) rfl (w_X8_first_0 n a1 a2 μ)

def f_X8_wander_b20 (n : Nat)  (μ : z_M) : Option (Int32 × z_M) :=
  z_let (f_X8_refuse (-6) μ) (fun p1 => some (p1.1, p1.2))
def f_X8_wander_h29 : Nat → Int32 → Int32 → z_M → Option (Int32 × z_M)
  | 0, _, _, _ => none
  | n + 1, l1, l2, μ =>
    if l2 < l1 then (z_bind (f_X6_drawnWay 1 n μ) (fun p2 => if p2.1 = (-1) then (some (l2, p2.2)) else (z_bind (f_X6_goBy 1 n p2.1 p2.2) (fun p3 => f_X8_wander_h29 n l1 (l2 + 1) p3.2)))) else (some (l1, μ))
def f_X8_wander (n : Nat) (a1 : Int32) (μ : z_M) : Option (Int32 × z_M) :=
  if (f_X8_isCount a1 1 40 μ) = 0 then (f_X8_wander_b20 n μ) else (if (f_X6_hasBird 1 μ) = 0 then (f_X8_wander_b20 n μ) else (f_X8_wander_h29 n a1 0 μ))
set_option maxRecDepth 20000 in
theorem w_X8_wander_20 {D : va_G} {cI cL : ClassId} {b : Nat} {Z : State → Heap → Prop}  (n : Nat)  (μ : z_M) : z_w (zEc D cI cL b Z) (RX8, cX8_wander, 4, (some .int), 5) z_ei 20 [(0, .ref (b + 0))] [] μ ((f_X8_wander_b20 n μ)) := by
  unfold f_X8_wander_b20
  refine z_aload_n (pc := 20) dX8_wander_20 rfl ?_
  refine z_bipush (pc := 21) dX8_wander_21 zcb_m6 ?_
  refine z_letPO (fun p1 hp1 => ?_)
  refine z_callVi (pc := 23) (As := [.int (-6)]) (S := []) (c_X8_refuse (-6) μ) (z_pT hp1) zw_X8_refuse zv_X8_refuse zm_X8_88 (n := 1) (by decide) rfl (z_recv gc_0 (T := TX8) (N := 11) rfl) rfl (Nat.le_of_ble_eq_true rfl) (by decide) (by decide) dX8_wander_23 ?_
  exact z_iret (pc := 26) rfl dX8_wander_26

set_option maxRecDepth 20000 in
theorem w_X8_wander_29 {D : va_G} {cI cL : ClassId} {b : Nat} {Z : State → Heap → Prop}  : ∀ (n : Nat) (l1 : Int32) (l2 : Int32) (μ : z_M), z_w (zEc D cI cL b Z) (RX8, cX8_wander, 4, (some .int), 5) z_ei 29 [(0, .ref (b + 0)), (1, .int l1), (2, .int l2)] [] μ (f_X8_wander_h29 n l1 l2 μ) := by
  intro n
  induction n with
  | zero =>
    intro l1 l2 μ
    exact z_none
  | succ n ih =>
    intro l1 l2 μ
    unfold f_X8_wander_h29
    refine z_iload_n (pc := 29) dX8_wander_29 rfl ?_
    refine z_iload_n (pc := 30) dX8_wander_30 rfl ?_
    refine z_icmp_ge (pc := 31) (tgt := 64) dX8_wander_31 (by decide) (fun _ => ?_) (fun _ => ?_)
    · refine z_aload_n (pc := 34) dX8_wander_34 rfl ?_
      refine zgR_X8_10 (pc := 35) gc_0 rfl dX8_wander_35 ?_
      refine z_bindP (fun p2 hp2 => ?_)
      refine z_callVi (pc := 38) (As := []) (S := []) (c_X6_drawnWay zstr_1 n μ) hp2 zw_X6_drawnWay zv_X6_drawnWay zm_X8_317 (n := 0) (by decide) rfl (z_recv gc_1 (T := TX6) (N := 10) rfl) rfl (Nat.le_of_ble_eq_true rfl) (by decide) (by decide) dX8_wander_38 ?_
      refine z_istore_n (pc := 41) (L' := [(0, .ref (b + 0)), (1, .int l1), (2, .int l2), (3, .int p2.1)]) dX8_wander_41 (by decide) rfl ?_
      refine z_iload_n (pc := 42) dX8_wander_42 rfl ?_
      refine z_iconst (pc := 43) dX8_wander_43 zci_m1 ?_
      refine z_icmp_ne (pc := 44) (tgt := 49) dX8_wander_44 (by decide) (fun _ => ?_) (fun _ => ?_)
      · refine z_iload_n (pc := 47) dX8_wander_47 rfl ?_
        exact z_iret (pc := 48) rfl dX8_wander_48
      · refine z_aload_n (pc := 49) dX8_wander_49 rfl ?_
        refine zgR_X8_10 (pc := 50) gc_0 rfl dX8_wander_50 ?_
        refine z_iload_n (pc := 53) dX8_wander_53 rfl ?_
        refine z_bindP (fun p3 hp3 => ?_)
        refine z_callVi (pc := 54) (As := [.int p2.1]) (S := []) (c_X6_goBy zstr_1 n p2.1 p2.2) hp3 zw_X6_goBy zv_X6_goBy zm_X8_228 (n := 1) (by decide) rfl (z_recv gc_1 (T := TX6) (N := 10) rfl) rfl (Nat.le_of_ble_eq_true rfl) (by decide) (by decide) dX8_wander_54 ?_
        refine z_pop (pc := 57) dX8_wander_57 rfl ?_
        refine z_iinc (pc := 58) (v := (l2 + 1)) (L' := [(0, .ref (b + 0)), (1, .int l1), (2, .int (l2 + 1)), (3, .int p2.1)]) dX8_wander_58 rfl (by decide) rfl rfl ?_
        refine z_goto (pc := 61) (tgt := 29) dX8_wander_61 (by decide) ?_
        refine z_drop (L' := [(0, .ref (b + 0)), (1, .int l1), (2, .int (l2 + 1))]) [0, 1, 2] rfl ?_
        exact ih l1 (l2 + 1) p3.2
    · refine z_iload_n (pc := 64) dX8_wander_64 rfl ?_
      exact z_iret (pc := 65) rfl dX8_wander_65

set_option maxRecDepth 20000 in
theorem w_X8_wander_0 {D : va_G} {cI cL : ClassId} {b : Nat} {Z : State → Heap → Prop}  (n : Nat) (a1 : Int32) (μ : z_M) : z_w (zEc D cI cL b Z) (RX8, cX8_wander, 4, (some .int), 5) z_ei 0 [(0, .ref (b + 0)), (1, .int a1)] [] μ ((f_X8_wander n a1 μ)) := by
  unfold f_X8_wander
  refine z_iload_n (pc := 0) dX8_wander_0 rfl ?_
  refine z_iconst (pc := 1) dX8_wander_1 zci_1 ?_
  refine z_bipush (pc := 2) dX8_wander_2 zcb_40 ?_
  refine z_callSi (pc := 4) (As := [.int a1, .int 1, .int 40]) (S := []) (c_X8_isCount a1 1 40 μ) rfl zw_X8_isCount zs_X8_isCount zm_X8_91 (n := 3) (by decide) rfl rfl (Nat.le_of_ble_eq_true rfl) (by decide) (by decide) dX8_wander_4 ?_
  refine z_if_eq (pc := 7) (tgt := 20) dX8_wander_7 (by decide) (fun _ => ?_) (fun _ => ?_)
  · refine z_drop (L' := [(0, .ref (b + 0))]) [0] rfl ?_
    exact w_X8_wander_20 n μ
  · refine z_aload_n (pc := 10) dX8_wander_10 rfl ?_
    refine zgR_X8_10 (pc := 11) gc_0 rfl dX8_wander_11 ?_
    refine z_callVi (pc := 14) (As := []) (S := []) (c_X6_hasBird zstr_1 μ) rfl zw_X6_hasBird zv_X6_hasBird zm_X8_99 (n := 0) (by decide) rfl (z_recv gc_1 (T := TX6) (N := 10) rfl) rfl (Nat.le_of_ble_eq_true rfl) (by decide) (by decide) dX8_wander_14 ?_
    refine z_if_ne (pc := 17) (tgt := 27) dX8_wander_17 (by decide) (fun _ => ?_) (fun _ => ?_)
    · refine z_drop (L' := [(0, .ref (b + 0))]) [0] rfl ?_
      exact w_X8_wander_20 n μ
    · refine z_iconst (pc := 27) dX8_wander_27 zci_0 ?_
      refine z_istore_n (pc := 28) (L' := [(0, .ref (b + 0)), (1, .int a1), (2, .int 0)]) dX8_wander_28 (by decide) rfl ?_
      exact w_X8_wander_29 n a1 0 μ

set_option maxRecDepth 20000 in
theorem c_X8_wander {D : va_G} {cI cL : ClassId} {b : Nat} {Z : State → Heap → Prop}  (n : Nat) (a1 : Int32) (μ : z_M) : z_S (zEc D cI cL b Z) 5 yX8_wander cX8_wander 4 (some .int) z_ei [.ref (b + 0), .int a1] μ ((f_X8_wander n a1 μ)) :=
  z_entry (yn := yX8_wander) (by decide) (Nat.le_of_ble_eq_true rfl) rfl (w_X8_wander_0 n a1 μ)

def f_X8_who (n : Nat) (a1 : Int32) (μ : z_M) : Option (Int32 × z_M) :=
  if (f_X8_isSet a1 μ) = 0 then (z_let (f_X8_refuse (-6) μ) (fun p1 => some (p1.1, p1.2))) else (z_bind (f_X6_knowing 1 n a1 μ) (fun p2 => some (p2.1, p2.2)))
set_option maxRecDepth 20000 in
theorem w_X8_who_0 {D : va_G} {cI cL : ClassId} {b : Nat} {Z : State → Heap → Prop}  (n : Nat) (a1 : Int32) (μ : z_M) : z_w (zEc D cI cL b Z) (RX8, cX8_who, 2, (some .int), 3) z_ei 0 [(0, .ref (b + 0)), (1, .int a1)] [] μ ((f_X8_who n a1 μ)) := by
  unfold f_X8_who
  refine z_iload_n (pc := 0) dX8_who_0 rfl ?_
  refine z_callSi (pc := 1) (As := [.int a1]) (S := []) (c_X8_isSet a1 μ) rfl zw_X8_isSet zs_X8_isSet zm_X8_107 (n := 1) (by decide) rfl rfl (Nat.le_of_ble_eq_true rfl) (by decide) (by decide) dX8_who_1 ?_
  refine z_if_eq (pc := 4) (tgt := 18) dX8_who_4 (by decide) (fun _ => ?_) (fun _ => ?_)
  · refine z_aload_n (pc := 18) dX8_who_18 rfl ?_
    refine z_bipush (pc := 19) dX8_who_19 zcb_m6 ?_
    refine z_letPO (fun p1 hp1 => ?_)
    refine z_callVi (pc := 21) (As := [.int (-6)]) (S := []) (c_X8_refuse (-6) μ) (z_pT hp1) zw_X8_refuse zv_X8_refuse zm_X8_88 (n := 1) (by decide) rfl (z_recv gc_0 (T := TX8) (N := 11) rfl) rfl (Nat.le_of_ble_eq_true rfl) (by decide) (by decide) dX8_who_21 ?_
    exact z_iret (pc := 24) rfl dX8_who_24
  · refine z_aload_n (pc := 7) dX8_who_7 rfl ?_
    refine zgR_X8_10 (pc := 8) gc_0 rfl dX8_who_8 ?_
    refine z_iload_n (pc := 11) dX8_who_11 rfl ?_
    refine z_bindP (fun p2 hp2 => ?_)
    refine z_callVi (pc := 12) (As := [.int a1]) (S := []) (c_X6_knowing zstr_1 n a1 μ) hp2 zw_X6_knowing zv_X6_knowing zm_X8_320 (n := 1) (by decide) rfl (z_recv gc_1 (T := TX6) (N := 10) rfl) rfl (Nat.le_of_ble_eq_true rfl) (by decide) (by decide) dX8_who_12 ?_
    refine z_goto (pc := 15) (tgt := 24) dX8_who_15 (by decide) ?_
    exact z_iret (pc := 24) rfl dX8_who_24

set_option maxRecDepth 20000 in
theorem c_X8_who {D : va_G} {cI cL : ClassId} {b : Nat} {Z : State → Heap → Prop}  (n : Nat) (a1 : Int32) (μ : z_M) : z_S (zEc D cI cL b Z) 3 yX8_who cX8_who 2 (some .int) z_ei [.ref (b + 0), .int a1] μ ((f_X8_who n a1 μ)) :=
  z_entry (yn := yX8_who) (by decide) (Nat.le_of_ble_eq_true rfl) rfl (w_X8_who_0 n a1 μ)

def f_X8_forget (n : Nat)  (μ : z_M) : Option (Int32 × z_M) :=
  z_bind (f_X6_forgetAll 1 n μ) (fun p1 => some (p1.1, p1.2))
set_option maxRecDepth 20000 in
theorem w_X8_forget_0 {D : va_G} {cI cL : ClassId} {b : Nat} {Z : State → Heap → Prop}  (n : Nat)  (μ : z_M) : z_w (zEc D cI cL b Z) (RX8, cX8_forget, 1, (some .int), 3) z_ei 0 [(0, .ref (b + 0))] [] μ ((f_X8_forget n μ)) := by
  unfold f_X8_forget
  refine z_aload_n (pc := 0) dX8_forget_0 rfl ?_
  refine zgR_X8_10 (pc := 1) gc_0 rfl dX8_forget_1 ?_
  refine z_bindP (fun p1 hp1 => ?_)
  refine z_callVi (pc := 4) (As := []) (S := []) (c_X6_forgetAll zstr_1 n μ) hp1 zw_X6_forgetAll zv_X6_forgetAll zm_X8_323 (n := 0) (by decide) rfl (z_recv gc_1 (T := TX6) (N := 10) rfl) rfl (Nat.le_of_ble_eq_true rfl) (by decide) (by decide) dX8_forget_4 ?_
  exact z_iret (pc := 7) rfl dX8_forget_7

set_option maxRecDepth 20000 in
theorem c_X8_forget {D : va_G} {cI cL : ClassId} {b : Nat} {Z : State → Heap → Prop}  (n : Nat)  (μ : z_M) : z_S (zEc D cI cL b Z) 3 yX8_forget cX8_forget 1 (some .int) z_ei [.ref (b + 0)] μ ((f_X8_forget n μ)) :=
  z_entry (yn := yX8_forget) (by decide) (Nat.le_of_ble_eq_true rfl) rfl (w_X8_forget_0 n  μ)

def f_X8_seed (a1 : Int32) (μ : z_M) : Int32 × z_M :=
  z_let ((f_X6_seedNow 1 μ) : Int32) (fun x1 => z_let (f_X6_changeSeed 1 a1 μ) (fun m2 => (x1, m2)))
set_option maxRecDepth 20000 in
theorem w_X8_seed_0 {D : va_G} {cI cL : ClassId} {b : Nat} {Z : State → Heap → Prop}  (a1 : Int32) (μ : z_M) : z_w (zEc D cI cL b Z) (RX8, cX8_seed, 3, (some .int), 1) z_ei 0 [(0, .ref (b + 0)), (1, .int a1)] [] μ (z_oT (f_X8_seed a1 μ)) := by
  unfold f_X8_seed
  refine z_aload_n (pc := 0) dX8_seed_0 rfl ?_
  refine zgR_X8_10 (pc := 1) gc_0 rfl dX8_seed_1 ?_
  refine z_callVi (pc := 4) (As := []) (S := []) (c_X6_seedNow zstr_1 μ) rfl zw_X6_seedNow zv_X6_seedNow zm_X8_326 (n := 0) (by decide) rfl (z_recv gc_1 (T := TX6) (N := 10) rfl) rfl (Nat.le_of_ble_eq_true rfl) (by decide) (by decide) dX8_seed_4 ?_
  refine z_letI (fun x1 => ?_)
  refine z_istore_n (pc := 7) (L' := [(0, .ref (b + 0)), (1, .int a1), (2, .int x1)]) dX8_seed_7 (by decide) rfl ?_
  refine z_aload_n (pc := 8) dX8_seed_8 rfl ?_
  refine zgR_X8_10 (pc := 9) gc_0 rfl dX8_seed_9 ?_
  refine z_iload_n (pc := 12) dX8_seed_12 rfl ?_
  refine z_letP (fun m2 hm2 => ?_)
  refine z_callVv (pc := 13) (As := [.int a1]) (S := []) (c_X6_changeSeed zstr_1 a1 μ) (z_pV hm2) zw_X6_changeSeed zv_X6_changeSeed zm_X8_329 (n := 1) (by decide) rfl (z_recv gc_1 (T := TX6) (N := 10) rfl) rfl (Nat.le_of_ble_eq_true rfl) (by decide) (by decide) dX8_seed_13 ?_
  refine z_iload_n (pc := 16) dX8_seed_16 rfl ?_
  exact z_iret (pc := 17) rfl dX8_seed_17

set_option maxRecDepth 20000 in
theorem c_X8_seed {D : va_G} {cI cL : ClassId} {b : Nat} {Z : State → Heap → Prop}  (a1 : Int32) (μ : z_M) : z_S (zEc D cI cL b Z) 1 yX8_seed cX8_seed 3 (some .int) z_ei [.ref (b + 0), .int a1] μ (z_oT (f_X8_seed a1 μ)) :=
  z_entry (yn := yX8_seed) (by decide) (Nat.le_of_ble_eq_true rfl) rfl (w_X8_seed_0 a1 μ)

def f_X8_act (a1 : Int32) (a2 : Int32) (a3 : Int32) (μ : z_M) : Option (Int32 × z_M) :=
  z_let (f_X0_clearTrace μ) (fun m1 => if (f_X6_isHouse 1 a1 m1) = 0 then (some (0, m1)) else (z_bind (f_X0_perform (f_X6_ofHouse 1 a1 0 m1) a1 (f_X6_ofHouse 1 a1 2 m1) a2 a3 m1) (fun p2 => some (p2.1, p2.2))))
set_option maxRecDepth 20000 in
theorem w_X8_act_0 {D : va_G} {cI cL : ClassId} {b : Nat} {Z : State → Heap → Prop}  (a1 : Int32) (a2 : Int32) (a3 : Int32) (μ : z_M) : z_w (zEc D cI cL b Z) (RX8, cX8_act, 4, (some .int), 11) z_ei 0 [(0, .ref (b + 0)), (1, .int a1), (2, .int a2), (3, .int a3)] [] μ ((f_X8_act a1 a2 a3 μ)) := by
  unfold f_X8_act
  refine z_aload_n (pc := 0) dX8_act_0 rfl ?_
  refine zgR_X8_32 (pc := 1) gc_0 rfl dX8_act_1 ?_
  refine z_letPO (fun m1 hm1 => ?_)
  refine z_callVv (pc := 4) (As := []) (S := []) (c_X0_clearTrace μ) (z_pV hm1) zw_X0_clearTrace zv_X0_clearTrace zm_X8_332 (n := 0) (by decide) rfl (z_recv gc_28 (T := TX0) (N := 5) rfl) rfl (Nat.le_of_ble_eq_true rfl) (by decide) (by decide) dX8_act_4 ?_
  refine z_aload_n (pc := 7) dX8_act_7 rfl ?_
  refine zgR_X8_10 (pc := 8) gc_0 rfl dX8_act_8 ?_
  refine z_iload_n (pc := 11) dX8_act_11 rfl ?_
  refine z_callVi (pc := 12) (As := [.int a1]) (S := []) (c_X6_isHouse zstr_1 a1 m1) rfl zw_X6_isHouse zv_X6_isHouse zm_X8_103 (n := 1) (by decide) rfl (z_recv gc_1 (T := TX6) (N := 10) rfl) rfl (Nat.le_of_ble_eq_true rfl) (by decide) (by decide) dX8_act_12 ?_
  refine z_if_ne (pc := 15) (tgt := 20) dX8_act_15 (by decide) (fun _ => ?_) (fun _ => ?_)
  · refine z_iconst (pc := 18) dX8_act_18 zci_0 ?_
    exact z_iret (pc := 19) rfl dX8_act_19
  · refine z_aload_n (pc := 20) dX8_act_20 rfl ?_
    refine zgR_X8_32 (pc := 21) gc_0 rfl dX8_act_21 ?_
    refine z_aload_n (pc := 24) dX8_act_24 rfl ?_
    refine zgR_X8_10 (pc := 25) gc_0 rfl dX8_act_25 ?_
    refine z_iload_n (pc := 28) dX8_act_28 rfl ?_
    refine z_iconst (pc := 29) dX8_act_29 zci_0 ?_
    refine z_callVi (pc := 30) (As := [.int a1, .int 0]) (S := [.ref (b + 28)]) (c_X6_ofHouse zstr_1 a1 0 m1) rfl zw_X6_ofHouse zv_X6_ofHouse zm_X8_159 (n := 2) (by decide) rfl (z_recv gc_1 (T := TX6) (N := 10) rfl) rfl (Nat.le_of_ble_eq_true rfl) (by decide) (by decide) dX8_act_30 ?_
    refine z_iload_n (pc := 33) dX8_act_33 rfl ?_
    refine z_aload_n (pc := 34) dX8_act_34 rfl ?_
    refine zgR_X8_10 (pc := 35) gc_0 rfl dX8_act_35 ?_
    refine z_iload_n (pc := 38) dX8_act_38 rfl ?_
    refine z_iconst (pc := 39) dX8_act_39 zci_2 ?_
    refine z_callVi (pc := 40) (As := [.int a1, .int 2]) (S := [.int a1, .int (f_X6_ofHouse 1 a1 0 m1), .ref (b + 28)]) (c_X6_ofHouse zstr_1 a1 2 m1) rfl zw_X6_ofHouse zv_X6_ofHouse zm_X8_159 (n := 2) (by decide) rfl (z_recv gc_1 (T := TX6) (N := 10) rfl) rfl (Nat.le_of_ble_eq_true rfl) (by decide) (by decide) dX8_act_40 ?_
    refine z_iload_n (pc := 43) dX8_act_43 rfl ?_
    refine z_iload_n (pc := 44) dX8_act_44 rfl ?_
    refine z_bindP (fun p2 hp2 => ?_)
    refine z_callVi (pc := 45) (As := [.int (f_X6_ofHouse 1 a1 0 m1), .int a1, .int (f_X6_ofHouse 1 a1 2 m1), .int a2, .int a3]) (S := []) (c_X0_perform (f_X6_ofHouse 1 a1 0 m1) a1 (f_X6_ofHouse 1 a1 2 m1) a2 a3 m1) hp2 zw_X0_perform zv_X0_perform zm_X8_335 (n := 5) (by decide) rfl (z_recv gc_28 (T := TX0) (N := 5) rfl) rfl (Nat.le_of_ble_eq_true rfl) (by decide) (by decide) dX8_act_45 ?_
    exact z_iret (pc := 48) rfl dX8_act_48

set_option maxRecDepth 20000 in
theorem c_X8_act {D : va_G} {cI cL : ClassId} {b : Nat} {Z : State → Heap → Prop}  (a1 : Int32) (a2 : Int32) (a3 : Int32) (μ : z_M) : z_S (zEc D cI cL b Z) 11 yX8_act cX8_act 4 (some .int) z_ei [.ref (b + 0), .int a1, .int a2, .int a3] μ ((f_X8_act a1 a2 a3 μ)) :=
  z_entry (yn := yX8_act) (by decide) (Nat.le_of_ble_eq_true rfl) rfl (w_X8_act_0 a1 a2 a3 μ)

def f_X8_trace (a1 : Int32) (μ : z_M) : Int32 :=
  (f_X0_bodyAt a1 μ)
set_option maxRecDepth 20000 in
theorem w_X8_trace_0 {D : va_G} {cI cL : ClassId} {b : Nat} {Z : State → Heap → Prop}  (a1 : Int32) (μ : z_M) : z_w (zEc D cI cL b Z) (RX8, cX8_trace, 2, (some .int), 2) z_ei 0 [(0, .ref (b + 0)), (1, .int a1)] [] μ (z_oP μ (f_X8_trace a1 μ)) := by
  unfold f_X8_trace
  refine z_aload_n (pc := 0) dX8_trace_0 rfl ?_
  refine zgR_X8_32 (pc := 1) gc_0 rfl dX8_trace_1 ?_
  refine z_iload_n (pc := 4) dX8_trace_4 rfl ?_
  refine z_callVi (pc := 5) (As := [.int a1]) (S := []) (c_X0_bodyAt a1 μ) rfl zw_X0_bodyAt zv_X0_bodyAt zm_X8_339 (n := 1) (by decide) rfl (z_recv gc_28 (T := TX0) (N := 5) rfl) rfl (Nat.le_of_ble_eq_true rfl) (by decide) (by decide) dX8_trace_5 ?_
  exact z_iret (pc := 8) rfl dX8_trace_8

set_option maxRecDepth 20000 in
theorem c_X8_trace {D : va_G} {cI cL : ClassId} {b : Nat} {Z : State → Heap → Prop}  (a1 : Int32) (μ : z_M) : z_S (zEc D cI cL b Z) 2 yX8_trace cX8_trace 2 (some .int) z_ei [.ref (b + 0), .int a1] μ (z_oP μ (f_X8_trace a1 μ)) :=
  z_entry (yn := yX8_trace) (by decide) (Nat.le_of_ble_eq_true rfl) rfl (w_X8_trace_0 a1 μ)

def f_X8_image  (μ : z_M) : Int32 × z_M :=
  z_let (f_X6_becomeAs 8 1 μ) (fun m1 => z_let (z_sI m1 0 10 1) (fun m2 => ((f_X6_houseCount 8 m2), m2)))
set_option maxRecDepth 20000 in
theorem w_X8_image_0 {D : va_G} {cI cL : ClassId} {b : Nat} {Z : State → Heap → Prop}   (μ : z_M) : z_w (zEc D cI cL b Z) (RX8, cX8_image, 1, (some .int), 3) z_ei 0 [(0, .ref (b + 0))] [] μ (z_oT (f_X8_image μ)) := by
  unfold f_X8_image
  refine z_aload_n (pc := 0) dX8_image_0 rfl ?_
  refine zgR_X8_16 (pc := 1) gc_0 rfl dX8_image_1 ?_
  refine z_aload_n (pc := 4) dX8_image_4 rfl ?_
  refine zgR_X8_10 (pc := 5) gc_0 rfl dX8_image_5 ?_
  refine z_letP (fun m1 hm1 => ?_)
  refine z_callVv (pc := 8) (As := [.ref (b + 1)]) (S := []) (c_X6_becomeAs zstr_8 zstr_1 (by decide) μ) (z_pV hm1) zw_X6_becomeAs zv_X6_becomeAs zm_X8_213 (n := 1) (by decide) rfl (z_recv gc_8 (T := TX6) (N := 10) rfl) rfl (Nat.le_of_ble_eq_true rfl) (by decide) (by decide) dX8_image_8 ?_
  refine z_aload_n (pc := 11) dX8_image_11 rfl ?_
  refine z_iconst (pc := 12) dX8_image_12 zci_1 ?_
  refine zpZ_X8_76 (pc := 13) gc_0 rfl (by decide) dX8_image_13 ?_
  refine z_letM (fun m2 => ?_)
  refine z_aload_n (pc := 16) dX8_image_16 rfl ?_
  refine zgR_X8_16 (pc := 17) gc_0 rfl dX8_image_17 ?_
  refine z_callVi (pc := 20) (As := []) (S := []) (c_X6_houseCount zstr_8 m2) rfl zw_X6_houseCount zv_X6_houseCount zm_X8_342 (n := 0) (by decide) rfl (z_recv gc_8 (T := TX6) (N := 10) rfl) rfl (Nat.le_of_ble_eq_true rfl) (by decide) (by decide) dX8_image_20 ?_
  exact z_iret (pc := 23) rfl dX8_image_23

set_option maxRecDepth 20000 in
theorem c_X8_image {D : va_G} {cI cL : ClassId} {b : Nat} {Z : State → Heap → Prop}   (μ : z_M) : z_S (zEc D cI cL b Z) 3 yX8_image cX8_image 1 (some .int) z_ei [.ref (b + 0)] μ (z_oT (f_X8_image μ)) :=
  z_entry (yn := yX8_image) (by decide) (Nat.le_of_ble_eq_true rfl) rfl (w_X8_image_0  μ)

def f_X8_restore (n : Nat)  (μ : z_M) : Option (Int32 × z_M) :=
  if (μ.1 0 10) = 0 then (z_let (f_X8_refuse (-6) μ) (fun p1 => some (p1.1, p1.2))) else (z_let (f_X6_becomeAs 1 8 μ) (fun m2 => z_bind (f_X5_dropHousesFrom n (f_X6_houseCount 1 m2) m2) (fun p3 => some ((f_X6_houseCount 1 p3.2), p3.2))))
set_option maxRecDepth 20000 in
theorem w_X8_restore_0 {D : va_G} {cI cL : ClassId} {b : Nat} {Z : State → Heap → Prop}  (n : Nat)  (μ : z_M) : z_w (zEc D cI cL b Z) (RX8, cX8_restore, 1, (some .int), 3) z_ei 0 [(0, .ref (b + 0))] [] μ ((f_X8_restore n μ)) := by
  unfold f_X8_restore
  refine z_aload_n (pc := 0) dX8_restore_0 rfl ?_
  refine zgI_X8_76 (pc := 1) gc_0 rfl dX8_restore_1 ?_
  refine z_if_ne (pc := 4) (tgt := 14) dX8_restore_4 (by decide) (fun _ => ?_) (fun _ => ?_)
  · refine z_aload_n (pc := 7) dX8_restore_7 rfl ?_
    refine z_bipush (pc := 8) dX8_restore_8 zcb_m6 ?_
    refine z_letPO (fun p1 hp1 => ?_)
    refine z_callVi (pc := 10) (As := [.int (-6)]) (S := []) (c_X8_refuse (-6) μ) (z_pT hp1) zw_X8_refuse zv_X8_refuse zm_X8_88 (n := 1) (by decide) rfl (z_recv gc_0 (T := TX8) (N := 11) rfl) rfl (Nat.le_of_ble_eq_true rfl) (by decide) (by decide) dX8_restore_10 ?_
    exact z_iret (pc := 13) rfl dX8_restore_13
  · refine z_aload_n (pc := 14) dX8_restore_14 rfl ?_
    refine zgR_X8_10 (pc := 15) gc_0 rfl dX8_restore_15 ?_
    refine z_aload_n (pc := 18) dX8_restore_18 rfl ?_
    refine zgR_X8_16 (pc := 19) gc_0 rfl dX8_restore_19 ?_
    refine z_letPO (fun m2 hm2 => ?_)
    refine z_callVv (pc := 22) (As := [.ref (b + 8)]) (S := []) (c_X6_becomeAs zstr_1 zstr_8 (by decide) μ) (z_pV hm2) zw_X6_becomeAs zv_X6_becomeAs zm_X8_213 (n := 1) (by decide) rfl (z_recv gc_1 (T := TX6) (N := 10) rfl) rfl (Nat.le_of_ble_eq_true rfl) (by decide) (by decide) dX8_restore_22 ?_
    refine z_aload_n (pc := 25) dX8_restore_25 rfl ?_
    refine zgR_X8_25 (pc := 26) gc_0 rfl dX8_restore_26 ?_
    refine z_aload_n (pc := 29) dX8_restore_29 rfl ?_
    refine zgR_X8_10 (pc := 30) gc_0 rfl dX8_restore_30 ?_
    refine z_callVi (pc := 33) (As := []) (S := [.ref (b + 22)]) (c_X6_houseCount zstr_1 m2) rfl zw_X6_houseCount zv_X6_houseCount zm_X8_342 (n := 0) (by decide) rfl (z_recv gc_1 (T := TX6) (N := 10) rfl) rfl (Nat.le_of_ble_eq_true rfl) (by decide) (by decide) dX8_restore_33 ?_
    refine z_bindP (fun p3 hp3 => ?_)
    refine z_callVv (pc := 36) (As := [.int (f_X6_houseCount 1 m2)]) (S := []) (c_X5_dropHousesFrom n (f_X6_houseCount 1 m2) m2) hp3 zw_X5_dropHousesFrom zv_X5_dropHousesFrom zm_X8_345 (n := 1) (by decide) rfl (z_recv gc_22 (T := TX5) (N := 3) rfl) rfl (Nat.le_of_ble_eq_true rfl) (by decide) (by decide) dX8_restore_36 ?_
    refine z_aload_n (pc := 39) dX8_restore_39 rfl ?_
    refine zgR_X8_10 (pc := 40) gc_0 rfl dX8_restore_40 ?_
    refine z_callVi (pc := 43) (As := []) (S := []) (c_X6_houseCount zstr_1 p3.2) rfl zw_X6_houseCount zv_X6_houseCount zm_X8_342 (n := 0) (by decide) rfl (z_recv gc_1 (T := TX6) (N := 10) rfl) rfl (Nat.le_of_ble_eq_true rfl) (by decide) (by decide) dX8_restore_43 ?_
    exact z_iret (pc := 46) rfl dX8_restore_46

set_option maxRecDepth 20000 in
theorem c_X8_restore {D : va_G} {cI cL : ClassId} {b : Nat} {Z : State → Heap → Prop}  (n : Nat)  (μ : z_M) : z_S (zEc D cI cL b Z) 3 yX8_restore cX8_restore 1 (some .int) z_ei [.ref (b + 0)] μ ((f_X8_restore n μ)) :=
  z_entry (yn := yX8_restore) (by decide) (Nat.le_of_ble_eq_true rfl) rfl (w_X8_restore_0 n  μ)

def f_X8_status_b24 (n : Nat) (l1 : Int32) (μ : z_M) : Option (Int32 × z_M) :=
  if l1 = 7 then (some ((f_X0_howManyRan μ), μ)) else (z_bind (f_X6_count 1 n l1 μ) (fun p1 => some (p1.1, p1.2)))
def f_X8_status (n : Nat) (a1 : Int32) (μ : z_M) : Option (Int32 × z_M) :=
  if (10 : Int32) < a1 then (if (17 : Int32) < a1 then (f_X8_status_b24 n a1 μ) else (some ((g_get 49 8 (a1 - 10) μ), μ))) else (f_X8_status_b24 n a1 μ)
set_option maxRecDepth 20000 in
theorem w_X8_status_24 {D : va_G} {cI cL : ClassId} {b : Nat} {Z : State → Heap → Prop}  (n : Nat) (l1 : Int32) (μ : z_M) : z_w (zEc D cI cL b Z) (RX8, cX8_status, 2, (some .int), 5) z_ei 24 [(0, .ref (b + 0)), (1, .int l1)] [] μ ((f_X8_status_b24 n l1 μ)) := by
  unfold f_X8_status_b24
  refine z_iload_n (pc := 24) dX8_status_24 rfl ?_
  refine z_bipush (pc := 25) dX8_status_25 zcb_7 ?_
  refine z_icmp_ne (pc := 27) (tgt := 40) dX8_status_27 (by decide) (fun _ => ?_) (fun _ => ?_)
  · refine z_aload_n (pc := 30) dX8_status_30 rfl ?_
    refine zgR_X8_32 (pc := 31) gc_0 rfl dX8_status_31 ?_
    refine z_callVi (pc := 34) (As := []) (S := []) (c_X0_howManyRan μ) rfl zw_X0_howManyRan zv_X0_howManyRan zm_X8_348 (n := 0) (by decide) rfl (z_recv gc_28 (T := TX0) (N := 5) rfl) rfl (Nat.le_of_ble_eq_true rfl) (by decide) (by decide) dX8_status_34 ?_
    refine z_goto (pc := 37) (tgt := 48) dX8_status_37 (by decide) ?_
    exact z_iret (pc := 48) rfl dX8_status_48
  · refine z_aload_n (pc := 40) dX8_status_40 rfl ?_
    refine zgR_X8_10 (pc := 41) gc_0 rfl dX8_status_41 ?_
    refine z_iload_n (pc := 44) dX8_status_44 rfl ?_
    refine z_bindP (fun p1 hp1 => ?_)
    refine z_callVi (pc := 45) (As := [.int l1]) (S := []) (c_X6_count zstr_1 n l1 μ) hp1 zw_X6_count zv_X6_count zm_X8_351 (n := 1) (by decide) rfl (z_recv gc_1 (T := TX6) (N := 10) rfl) rfl (Nat.le_of_ble_eq_true rfl) (by decide) (by decide) dX8_status_45 ?_
    exact z_iret (pc := 48) rfl dX8_status_48

set_option maxRecDepth 20000 in
theorem w_X8_status_0 {D : va_G} {cI cL : ClassId} {b : Nat} {Z : State → Heap → Prop}  (n : Nat) (a1 : Int32) (μ : z_M) : z_w (zEc D cI cL b Z) (RX8, cX8_status, 2, (some .int), 5) z_ei 0 [(0, .ref (b + 0)), (1, .int a1)] [] μ ((f_X8_status n a1 μ)) := by
  unfold f_X8_status
  refine z_iload_n (pc := 0) dX8_status_0 rfl ?_
  refine z_bipush (pc := 1) dX8_status_1 zcb_10 ?_
  refine z_icmp_le (pc := 3) (tgt := 24) dX8_status_3 (by decide) (fun _ => ?_) (fun _ => ?_)
  · refine z_iload_n (pc := 6) dX8_status_6 rfl ?_
    refine z_bipush (pc := 7) dX8_status_7 zcb_17 ?_
    refine z_icmp_gt (pc := 9) (tgt := 24) dX8_status_9 (by decide) (fun _ => ?_) (fun _ => ?_)
    · exact w_X8_status_24 n a1 μ
    · refine z_aload_n (pc := 12) dX8_status_12 rfl ?_
      refine zgR_X8_68 (pc := 13) gc_0 rfl dX8_status_13 ?_
      refine z_iload_n (pc := 16) dX8_status_16 rfl ?_
      refine z_bipush (pc := 17) dX8_status_17 zcb_10 ?_
      refine z_isub (pc := 19) dX8_status_19 ?_
      refine z_callVi (pc := 20) (As := [.int (a1 - 10)]) (S := []) (g_X1_get gc_48 gc_49 (Nat.le_of_ble_eq_true rfl) (a1 - 10) μ) rfl zw_X1_get zv_X1_get zm_X8_80 (n := 1) (by decide) rfl (z_recv gc_48 (T := TX1) (N := 1) rfl) rfl (Nat.le_of_ble_eq_true rfl) (by decide) (by decide) dX8_status_20 ?_
      exact z_iret (pc := 23) rfl dX8_status_23
  · exact w_X8_status_24 n a1 μ

set_option maxRecDepth 20000 in
theorem c_X8_status {D : va_G} {cI cL : ClassId} {b : Nat} {Z : State → Heap → Prop}  (n : Nat) (a1 : Int32) (μ : z_M) : z_S (zEc D cI cL b Z) 5 yX8_status cX8_status 2 (some .int) z_ei [.ref (b + 0), .int a1] μ ((f_X8_status n a1 μ)) :=
  z_entry (yn := yX8_status) (by decide) (Nat.le_of_ble_eq_true rfl) rfl (w_X8_status_0 n a1 μ)

def f_X8_ways_b60 (n : Nat) (l1 : Int32) (l2 : Int32) (l3 : Int32) (l4 : Int32) (μ : z_M) : Option (Int32 × z_M) :=
  if l4 = 0 then (z_bind (f_X8_addWays n l1 l2 l3 μ) (fun p2 => some (p2.1, p2.2))) else (z_let (f_X8_refuse l4 μ) (fun p3 => some (p3.1, p3.2)))
def f_X8_ways_b45 (n : Nat) (l1 : Int32) (l2 : Int32) (l3 : Int32) (l4 : Int32) (μ : z_M) : Option (Int32 × z_M) :=
  if l4 = 0 then (if (z_rem l3 3) = 0 then (f_X8_ways_b60 n l1 l2 l3 l4 μ) else (f_X8_ways_b60 n l1 l2 l3 (-6) μ)) else (f_X8_ways_b60 n l1 l2 l3 l4 μ)
def f_X8_ways_b23 (n : Nat) (l1 : Int32) (l2 : Int32) (l3 : Int32) (l4 : Int32) (μ : z_M) : Option (Int32 × z_M) :=
  if l4 = 0 then (if (f_X5_hasElements l1 l2 l3 μ) = 0 then (f_X8_ways_b45 n l1 l2 l3 (-5) μ) else (f_X8_ways_b45 n l1 l2 l3 l4 μ)) else (f_X8_ways_b45 n l1 l2 l3 l4 μ)
def f_X8_ways (n : Nat) (a1 : Int32) (a2 : Int32) (a3 : Int32) (μ : z_M) : Option (Int32 × z_M) :=
  z_let ((f_X5_troubleWithRow a1 μ) : Int32) (fun x1 => if x1 = 0 then (if a3 < 0 then (f_X8_ways_b23 n a1 a2 a3 (-4) μ) else (f_X8_ways_b23 n a1 a2 a3 x1 μ)) else (f_X8_ways_b23 n a1 a2 a3 x1 μ))
set_option maxRecDepth 20000 in
theorem w_X8_ways_60 {D : va_G} {cI cL : ClassId} {b : Nat} {Z : State → Heap → Prop}  (n : Nat) (l1 : Int32) (l2 : Int32) (l3 : Int32) (l4 : Int32) (μ : z_M) : z_w (zEc D cI cL b Z) (RX8, cX8_ways, 5, (some .int), 5) z_ei 60 [(0, .ref (b + 0)), (1, .int l1), (2, .int l2), (3, .int l3), (4, .int l4)] [] μ ((f_X8_ways_b60 n l1 l2 l3 l4 μ)) := by
  unfold f_X8_ways_b60
  refine z_iload (pc := 60) dX8_ways_60 rfl ?_
  refine z_if_ne (pc := 62) (tgt := 75) dX8_ways_62 (by decide) (fun _ => ?_) (fun _ => ?_)
  · refine z_aload_n (pc := 65) dX8_ways_65 rfl ?_
    refine z_iload_n (pc := 66) dX8_ways_66 rfl ?_
    refine z_iload_n (pc := 67) dX8_ways_67 rfl ?_
    refine z_iload_n (pc := 68) dX8_ways_68 rfl ?_
    refine z_bindP (fun p2 hp2 => ?_)
    refine z_callVi (pc := 69) (As := [.int l1, .int l2, .int l3]) (S := []) (c_X8_addWays n l1 l2 l3 μ) hp2 zw_X8_addWays zv_X8_addWays zm_X8_184 (n := 3) (by decide) rfl (z_recv gc_0 (T := TX8) (N := 11) rfl) rfl (Nat.le_of_ble_eq_true rfl) (by decide) (by decide) dX8_ways_69 ?_
    refine z_goto (pc := 72) (tgt := 81) dX8_ways_72 (by decide) ?_
    exact z_iret (pc := 81) rfl dX8_ways_81
  · refine z_aload_n (pc := 75) dX8_ways_75 rfl ?_
    refine z_iload (pc := 76) dX8_ways_76 rfl ?_
    refine z_letPO (fun p3 hp3 => ?_)
    refine z_callVi (pc := 78) (As := [.int l4]) (S := []) (c_X8_refuse l4 μ) (z_pT hp3) zw_X8_refuse zv_X8_refuse zm_X8_88 (n := 1) (by decide) rfl (z_recv gc_0 (T := TX8) (N := 11) rfl) rfl (Nat.le_of_ble_eq_true rfl) (by decide) (by decide) dX8_ways_78 ?_
    exact z_iret (pc := 81) rfl dX8_ways_81

set_option maxRecDepth 20000 in
theorem w_X8_ways_45 {D : va_G} {cI cL : ClassId} {b : Nat} {Z : State → Heap → Prop}  (n : Nat) (l1 : Int32) (l2 : Int32) (l3 : Int32) (l4 : Int32) (μ : z_M) : z_w (zEc D cI cL b Z) (RX8, cX8_ways, 5, (some .int), 5) z_ei 45 [(0, .ref (b + 0)), (1, .int l1), (2, .int l2), (3, .int l3), (4, .int l4)] [] μ ((f_X8_ways_b45 n l1 l2 l3 l4 μ)) := by
  unfold f_X8_ways_b45
  refine z_iload (pc := 45) dX8_ways_45 rfl ?_
  refine z_if_ne (pc := 47) (tgt := 60) dX8_ways_47 (by decide) (fun _ => ?_) (fun _ => ?_)
  · refine z_iload_n (pc := 50) dX8_ways_50 rfl ?_
    refine z_iconst (pc := 51) dX8_ways_51 zci_3 ?_
    refine z_iremK (pc := 52) dX8_ways_52 (by decide) ?_
    refine z_if_eq (pc := 53) (tgt := 60) dX8_ways_53 (by decide) (fun _ => ?_) (fun _ => ?_)
    · exact w_X8_ways_60 n l1 l2 l3 l4 μ
    · refine z_bipush (pc := 56) dX8_ways_56 zcb_m6 ?_
      refine z_istore (pc := 58) (L' := [(0, .ref (b + 0)), (1, .int l1), (2, .int l2), (3, .int l3), (4, .int (-6))]) dX8_ways_58 (by decide) rfl ?_
      exact w_X8_ways_60 n l1 l2 l3 (-6) μ
  · exact w_X8_ways_60 n l1 l2 l3 l4 μ

set_option maxRecDepth 20000 in
theorem w_X8_ways_23 {D : va_G} {cI cL : ClassId} {b : Nat} {Z : State → Heap → Prop}  (n : Nat) (l1 : Int32) (l2 : Int32) (l3 : Int32) (l4 : Int32) (μ : z_M) : z_w (zEc D cI cL b Z) (RX8, cX8_ways, 5, (some .int), 5) z_ei 23 [(0, .ref (b + 0)), (1, .int l1), (2, .int l2), (3, .int l3), (4, .int l4)] [] μ ((f_X8_ways_b23 n l1 l2 l3 l4 μ)) := by
  unfold f_X8_ways_b23
  refine z_iload (pc := 23) dX8_ways_23 rfl ?_
  refine z_if_ne (pc := 25) (tgt := 45) dX8_ways_25 (by decide) (fun _ => ?_) (fun _ => ?_)
  · refine z_aload_n (pc := 28) dX8_ways_28 rfl ?_
    refine zgR_X8_25 (pc := 29) gc_0 rfl dX8_ways_29 ?_
    refine z_iload_n (pc := 32) dX8_ways_32 rfl ?_
    refine z_iload_n (pc := 33) dX8_ways_33 rfl ?_
    refine z_iload_n (pc := 34) dX8_ways_34 rfl ?_
    refine z_callVi (pc := 35) (As := [.int l1, .int l2, .int l3]) (S := []) (c_X5_hasElements l1 l2 l3 μ) rfl zw_X5_hasElements zv_X5_hasElements zm_X8_134 (n := 3) (by decide) rfl (z_recv gc_22 (T := TX5) (N := 3) rfl) rfl (Nat.le_of_ble_eq_true rfl) (by decide) (by decide) dX8_ways_35 ?_
    refine z_if_ne (pc := 38) (tgt := 45) dX8_ways_38 (by decide) (fun _ => ?_) (fun _ => ?_)
    · refine z_bipush (pc := 41) dX8_ways_41 zcb_m5 ?_
      refine z_istore (pc := 43) (L' := [(0, .ref (b + 0)), (1, .int l1), (2, .int l2), (3, .int l3), (4, .int (-5))]) dX8_ways_43 (by decide) rfl ?_
      exact w_X8_ways_45 n l1 l2 l3 (-5) μ
    · exact w_X8_ways_45 n l1 l2 l3 l4 μ
  · exact w_X8_ways_45 n l1 l2 l3 l4 μ

set_option maxRecDepth 20000 in
theorem w_X8_ways_0 {D : va_G} {cI cL : ClassId} {b : Nat} {Z : State → Heap → Prop}  (n : Nat) (a1 : Int32) (a2 : Int32) (a3 : Int32) (μ : z_M) : z_w (zEc D cI cL b Z) (RX8, cX8_ways, 5, (some .int), 5) z_ei 0 [(0, .ref (b + 0)), (1, .int a1), (2, .int a2), (3, .int a3)] [] μ ((f_X8_ways n a1 a2 a3 μ)) := by
  unfold f_X8_ways
  refine z_aload_n (pc := 0) dX8_ways_0 rfl ?_
  refine zgR_X8_25 (pc := 1) gc_0 rfl dX8_ways_1 ?_
  refine z_iload_n (pc := 4) dX8_ways_4 rfl ?_
  refine z_callVi (pc := 5) (As := [.int a1]) (S := []) (c_X5_troubleWithRow a1 μ) rfl zw_X5_troubleWithRow zv_X5_troubleWithRow zm_X8_120 (n := 1) (by decide) rfl (z_recv gc_22 (T := TX5) (N := 3) rfl) rfl (Nat.le_of_ble_eq_true rfl) (by decide) (by decide) dX8_ways_5 ?_
  refine z_letIO (fun x1 => ?_)
  refine z_istore (pc := 8) (L' := [(0, .ref (b + 0)), (1, .int a1), (2, .int a2), (3, .int a3), (4, .int x1)]) dX8_ways_8 (by decide) rfl ?_
  refine z_iload (pc := 10) dX8_ways_10 rfl ?_
  refine z_if_ne (pc := 12) (tgt := 23) dX8_ways_12 (by decide) (fun _ => ?_) (fun _ => ?_)
  · refine z_iload_n (pc := 15) dX8_ways_15 rfl ?_
    refine z_if_ge (pc := 16) (tgt := 23) dX8_ways_16 (by decide) (fun _ => ?_) (fun _ => ?_)
    · refine z_bipush (pc := 19) dX8_ways_19 zcb_m4 ?_
      refine z_istore (pc := 21) (L' := [(0, .ref (b + 0)), (1, .int a1), (2, .int a2), (3, .int a3), (4, .int (-4))]) dX8_ways_21 (by decide) rfl ?_
      exact w_X8_ways_23 n a1 a2 a3 (-4) μ
    · exact w_X8_ways_23 n a1 a2 a3 x1 μ
  · exact w_X8_ways_23 n a1 a2 a3 x1 μ

set_option maxRecDepth 20000 in
theorem c_X8_ways {D : va_G} {cI cL : ClassId} {b : Nat} {Z : State → Heap → Prop}  (n : Nat) (a1 : Int32) (a2 : Int32) (a3 : Int32) (μ : z_M) : z_S (zEc D cI cL b Z) 5 yX8_ways cX8_ways 5 (some .int) z_ei [.ref (b + 0), .int a1, .int a2, .int a3] μ ((f_X8_ways n a1 a2 a3 μ)) :=
  z_entry (yn := yX8_ways) (by decide) (Nat.le_of_ble_eq_true rfl) rfl (w_X8_ways_0 n a1 a2 a3 μ)

def f_X8_aim_b22 (n : Nat)  (μ : z_M) : Option (Int32 × z_M) :=
  z_let (f_X8_refuseApart (-1) μ) (fun p1 => some (p1.1, p1.2))
def f_X8_aim (n : Nat) (a1 : Int32) (a2 : Int32) (a3 : Int32) (a4 : Int32) (a5 : Int32) (μ : z_M) : Option (Int32 × z_M) :=
  if (f_X6_isHouse 1 a1 μ) = 0 then (f_X8_aim_b22 n μ) else (if (f_X6_isHouse 1 a2 μ) = 0 then (f_X8_aim_b22 n μ) else (z_let ((f_X8_troubleInSeeking a3 a4 a5 μ) : Int32) (fun x2 => if x2 = 0 then (z_bind (f_X4_quickest n (1 <<< (a1 &&& 31)) (1 <<< (a2 &&& 31)) a3 a4 0 μ) (fun p3 => some ((f_X4_told a5 p3.2), p3.2))) else (z_let (f_X8_refuseApart x2 μ) (fun p4 => some (p4.1, p4.2))))))
set_option maxRecDepth 20000 in
theorem w_X8_aim_22 {D : va_G} {cI cL : ClassId} {b : Nat} {Z : State → Heap → Prop}  (n : Nat)  (μ : z_M) : z_w (zEc D cI cL b Z) (RX8, cX8_aim, 7, (some .int), 6) z_ei 22 [(0, .ref (b + 0))] [] μ ((f_X8_aim_b22 n μ)) := by
  unfold f_X8_aim_b22
  refine z_aload_n (pc := 22) dX8_aim_22 rfl ?_
  refine z_iconst (pc := 23) dX8_aim_23 zci_m1 ?_
  refine z_letPO (fun p1 hp1 => ?_)
  refine z_callVi (pc := 24) (As := [.int (-1)]) (S := []) (c_X8_refuseApart (-1) μ) (z_pT hp1) zw_X8_refuseApart zv_X8_refuseApart zm_X8_244 (n := 1) (by decide) rfl (z_recv gc_0 (T := TX8) (N := 11) rfl) rfl (Nat.le_of_ble_eq_true rfl) (by decide) (by decide) dX8_aim_24 ?_
  exact z_iret (pc := 27) rfl dX8_aim_27

set_option maxRecDepth 20000 in
theorem w_X8_aim_0 {D : va_G} {cI cL : ClassId} {b : Nat} {Z : State → Heap → Prop}  (n : Nat) (a1 : Int32) (a2 : Int32) (a3 : Int32) (a4 : Int32) (a5 : Int32) (μ : z_M) : z_w (zEc D cI cL b Z) (RX8, cX8_aim, 7, (some .int), 6) z_ei 0 [(0, .ref (b + 0)), (1, .int a1), (2, .int a2), (3, .int a3), (4, .int a4), (5, .int a5)] [] μ ((f_X8_aim n a1 a2 a3 a4 a5 μ)) := by
  unfold f_X8_aim
  refine z_aload_n (pc := 0) dX8_aim_0 rfl ?_
  refine zgR_X8_10 (pc := 1) gc_0 rfl dX8_aim_1 ?_
  refine z_iload_n (pc := 4) dX8_aim_4 rfl ?_
  refine z_callVi (pc := 5) (As := [.int a1]) (S := []) (c_X6_isHouse zstr_1 a1 μ) rfl zw_X6_isHouse zv_X6_isHouse zm_X8_103 (n := 1) (by decide) rfl (z_recv gc_1 (T := TX6) (N := 10) rfl) rfl (Nat.le_of_ble_eq_true rfl) (by decide) (by decide) dX8_aim_5 ?_
  refine z_if_eq (pc := 8) (tgt := 22) dX8_aim_8 (by decide) (fun _ => ?_) (fun _ => ?_)
  · refine z_drop (L' := [(0, .ref (b + 0))]) [0] rfl ?_
    exact w_X8_aim_22 n μ
  · refine z_aload_n (pc := 11) dX8_aim_11 rfl ?_
    refine zgR_X8_10 (pc := 12) gc_0 rfl dX8_aim_12 ?_
    refine z_iload_n (pc := 15) dX8_aim_15 rfl ?_
    refine z_callVi (pc := 16) (As := [.int a2]) (S := []) (c_X6_isHouse zstr_1 a2 μ) rfl zw_X6_isHouse zv_X6_isHouse zm_X8_103 (n := 1) (by decide) rfl (z_recv gc_1 (T := TX6) (N := 10) rfl) rfl (Nat.le_of_ble_eq_true rfl) (by decide) (by decide) dX8_aim_16 ?_
    refine z_if_ne (pc := 19) (tgt := 28) dX8_aim_19 (by decide) (fun _ => ?_) (fun _ => ?_)
    · refine z_drop (L' := [(0, .ref (b + 0))]) [0] rfl ?_
      exact w_X8_aim_22 n μ
    · refine z_aload_n (pc := 28) dX8_aim_28 rfl ?_
      refine z_iload_n (pc := 29) dX8_aim_29 rfl ?_
      refine z_iload (pc := 30) dX8_aim_30 rfl ?_
      refine z_iload (pc := 32) dX8_aim_32 rfl ?_
      refine z_callVi (pc := 34) (As := [.int a3, .int a4, .int a5]) (S := []) (c_X8_troubleInSeeking a3 a4 a5 μ) rfl zw_X8_troubleInSeeking zv_X8_troubleInSeeking zm_X8_274 (n := 3) (by decide) rfl (z_recv gc_0 (T := TX8) (N := 11) rfl) rfl (Nat.le_of_ble_eq_true rfl) (by decide) (by decide) dX8_aim_34 ?_
      refine z_letIO (fun x2 => ?_)
      refine z_istore (pc := 37) (L' := [(0, .ref (b + 0)), (1, .int a1), (2, .int a2), (3, .int a3), (4, .int a4), (5, .int a5), (6, .int x2)]) dX8_aim_37 (by decide) rfl ?_
      refine z_iload (pc := 39) dX8_aim_39 rfl ?_
      refine z_if_ne (pc := 41) (tgt := 69) dX8_aim_41 (by decide) (fun _ => ?_) (fun _ => ?_)
      · refine z_aload_n (pc := 44) dX8_aim_44 rfl ?_
        refine zgR_X8_50 (pc := 45) gc_0 rfl dX8_aim_45 ?_
        refine z_iconst (pc := 48) dX8_aim_48 zci_1 ?_
        refine z_iload_n (pc := 49) dX8_aim_49 rfl ?_
        refine z_ishl (pc := 50) dX8_aim_50 ?_
        refine z_iconst (pc := 51) dX8_aim_51 zci_1 ?_
        refine z_iload_n (pc := 52) dX8_aim_52 rfl ?_
        refine z_ishl (pc := 53) dX8_aim_53 ?_
        refine z_iload_n (pc := 54) dX8_aim_54 rfl ?_
        refine z_iload (pc := 55) dX8_aim_55 rfl ?_
        refine z_iconst (pc := 57) dX8_aim_57 zci_0 ?_
        refine z_bindP (fun p3 hp3 => ?_)
        refine z_callVo (pc := 58) (As := [.int (1 <<< (a1 &&& 31)), .int (1 <<< (a2 &&& 31)), .int a3, .int a4, .int 0]) (S := []) (c_X4_quickest n (1 <<< (a1 &&& 31)) (1 <<< (a2 &&& 31)) a3 a4 0 μ) hp3 zw_X4_quickest zv_X4_quickest zm_X8_277 (n := 5) (by decide) rfl (z_recv gc_42 (T := TX4) (N := 7) rfl) rfl (Nat.le_of_ble_eq_true rfl) (by decide) (by decide) dX8_aim_58 ?_
        refine z_iload (pc := 61) dX8_aim_61 rfl ?_
        refine z_callVi (pc := 63) (As := [.int a5]) (S := []) (c_X4_told a5 p3.2) rfl zw_X4_told zv_X4_told zm_X8_281 (n := 1) (by decide) rfl (z_recv gc_42 (T := TX4) (N := 7) rfl) rfl (Nat.le_of_ble_eq_true rfl) (by decide) (by decide) dX8_aim_63 ?_
        refine z_goto (pc := 66) (tgt := 75) dX8_aim_66 (by decide) ?_
        exact z_iret (pc := 75) rfl dX8_aim_75
      · refine z_aload_n (pc := 69) dX8_aim_69 rfl ?_
        refine z_iload (pc := 70) dX8_aim_70 rfl ?_
        refine z_letPO (fun p4 hp4 => ?_)
        refine z_callVi (pc := 72) (As := [.int x2]) (S := []) (c_X8_refuseApart x2 μ) (z_pT hp4) zw_X8_refuseApart zv_X8_refuseApart zm_X8_244 (n := 1) (by decide) rfl (z_recv gc_0 (T := TX8) (N := 11) rfl) rfl (Nat.le_of_ble_eq_true rfl) (by decide) (by decide) dX8_aim_72 ?_
        exact z_iret (pc := 75) rfl dX8_aim_75

set_option maxRecDepth 20000 in
theorem c_X8_aim {D : va_G} {cI cL : ClassId} {b : Nat} {Z : State → Heap → Prop}  (n : Nat) (a1 : Int32) (a2 : Int32) (a3 : Int32) (a4 : Int32) (a5 : Int32) (μ : z_M) : z_S (zEc D cI cL b Z) 6 yX8_aim cX8_aim 7 (some .int) z_ei [.ref (b + 0), .int a1, .int a2, .int a3, .int a4, .int a5] μ ((f_X8_aim n a1 a2 a3 a4 a5 μ)) :=
  z_entry (yn := yX8_aim) (by decide) (Nat.le_of_ble_eq_true rfl) rfl (w_X8_aim_0 n a1 a2 a3 a4 a5 μ)

def f_X8_round_b30 (n : Nat) (l1 : Int32) (l2 : Int32) (l3 : Int32) (l4 : Int32) (l5 : Int32) (μ : z_M) : Option (Int32 × z_M) :=
  if l5 = 0 then (z_bind (f_X4_quickest n l1 0 l2 l3 1 μ) (fun p2 => some ((f_X4_told l4 p2.2), p2.2))) else (z_let (f_X8_refuseApart l5 μ) (fun p3 => some (p3.1, p3.2)))
def f_X8_round (n : Nat) (a1 : Int32) (a2 : Int32) (a3 : Int32) (a4 : Int32) (μ : z_M) : Option (Int32 × z_M) :=
  z_let ((f_X8_troubleInSeeking a2 a3 a4 μ) : Int32) (fun x1 => if x1 = 0 then (if (f_X6_isSetOfHouses 1 a1 μ) = 0 then (f_X8_round_b30 n a1 a2 a3 a4 (-6) μ) else (f_X8_round_b30 n a1 a2 a3 a4 x1 μ)) else (f_X8_round_b30 n a1 a2 a3 a4 x1 μ))
set_option maxRecDepth 20000 in
theorem w_X8_round_30 {D : va_G} {cI cL : ClassId} {b : Nat} {Z : State → Heap → Prop}  (n : Nat) (l1 : Int32) (l2 : Int32) (l3 : Int32) (l4 : Int32) (l5 : Int32) (μ : z_M) : z_w (zEc D cI cL b Z) (RX8, cX8_round, 6, (some .int), 6) z_ei 30 [(0, .ref (b + 0)), (1, .int l1), (2, .int l2), (3, .int l3), (4, .int l4), (5, .int l5)] [] μ ((f_X8_round_b30 n l1 l2 l3 l4 l5 μ)) := by
  unfold f_X8_round_b30
  refine z_iload (pc := 30) dX8_round_30 rfl ?_
  refine z_if_ne (pc := 32) (tgt := 55) dX8_round_32 (by decide) (fun _ => ?_) (fun _ => ?_)
  · refine z_aload_n (pc := 35) dX8_round_35 rfl ?_
    refine zgR_X8_50 (pc := 36) gc_0 rfl dX8_round_36 ?_
    refine z_iload_n (pc := 39) dX8_round_39 rfl ?_
    refine z_iconst (pc := 40) dX8_round_40 zci_0 ?_
    refine z_iload_n (pc := 41) dX8_round_41 rfl ?_
    refine z_iload_n (pc := 42) dX8_round_42 rfl ?_
    refine z_iconst (pc := 43) dX8_round_43 zci_1 ?_
    refine z_bindP (fun p2 hp2 => ?_)
    refine z_callVo (pc := 44) (As := [.int l1, .int 0, .int l2, .int l3, .int 1]) (S := []) (c_X4_quickest n l1 0 l2 l3 1 μ) hp2 zw_X4_quickest zv_X4_quickest zm_X8_277 (n := 5) (by decide) rfl (z_recv gc_42 (T := TX4) (N := 7) rfl) rfl (Nat.le_of_ble_eq_true rfl) (by decide) (by decide) dX8_round_44 ?_
    refine z_iload (pc := 47) dX8_round_47 rfl ?_
    refine z_callVi (pc := 49) (As := [.int l4]) (S := []) (c_X4_told l4 p2.2) rfl zw_X4_told zv_X4_told zm_X8_281 (n := 1) (by decide) rfl (z_recv gc_42 (T := TX4) (N := 7) rfl) rfl (Nat.le_of_ble_eq_true rfl) (by decide) (by decide) dX8_round_49 ?_
    refine z_goto (pc := 52) (tgt := 61) dX8_round_52 (by decide) ?_
    exact z_iret (pc := 61) rfl dX8_round_61
  · refine z_aload_n (pc := 55) dX8_round_55 rfl ?_
    refine z_iload (pc := 56) dX8_round_56 rfl ?_
    refine z_letPO (fun p3 hp3 => ?_)
    refine z_callVi (pc := 58) (As := [.int l5]) (S := []) (c_X8_refuseApart l5 μ) (z_pT hp3) zw_X8_refuseApart zv_X8_refuseApart zm_X8_244 (n := 1) (by decide) rfl (z_recv gc_0 (T := TX8) (N := 11) rfl) rfl (Nat.le_of_ble_eq_true rfl) (by decide) (by decide) dX8_round_58 ?_
    exact z_iret (pc := 61) rfl dX8_round_61

set_option maxRecDepth 20000 in
theorem w_X8_round_0 {D : va_G} {cI cL : ClassId} {b : Nat} {Z : State → Heap → Prop}  (n : Nat) (a1 : Int32) (a2 : Int32) (a3 : Int32) (a4 : Int32) (μ : z_M) : z_w (zEc D cI cL b Z) (RX8, cX8_round, 6, (some .int), 6) z_ei 0 [(0, .ref (b + 0)), (1, .int a1), (2, .int a2), (3, .int a3), (4, .int a4)] [] μ ((f_X8_round n a1 a2 a3 a4 μ)) := by
  unfold f_X8_round
  refine z_aload_n (pc := 0) dX8_round_0 rfl ?_
  refine z_iload_n (pc := 1) dX8_round_1 rfl ?_
  refine z_iload_n (pc := 2) dX8_round_2 rfl ?_
  refine z_iload (pc := 3) dX8_round_3 rfl ?_
  refine z_callVi (pc := 5) (As := [.int a2, .int a3, .int a4]) (S := []) (c_X8_troubleInSeeking a2 a3 a4 μ) rfl zw_X8_troubleInSeeking zv_X8_troubleInSeeking zm_X8_274 (n := 3) (by decide) rfl (z_recv gc_0 (T := TX8) (N := 11) rfl) rfl (Nat.le_of_ble_eq_true rfl) (by decide) (by decide) dX8_round_5 ?_
  refine z_letIO (fun x1 => ?_)
  refine z_istore (pc := 8) (L' := [(0, .ref (b + 0)), (1, .int a1), (2, .int a2), (3, .int a3), (4, .int a4), (5, .int x1)]) dX8_round_8 (by decide) rfl ?_
  refine z_iload (pc := 10) dX8_round_10 rfl ?_
  refine z_if_ne (pc := 12) (tgt := 30) dX8_round_12 (by decide) (fun _ => ?_) (fun _ => ?_)
  · refine z_aload_n (pc := 15) dX8_round_15 rfl ?_
    refine zgR_X8_10 (pc := 16) gc_0 rfl dX8_round_16 ?_
    refine z_iload_n (pc := 19) dX8_round_19 rfl ?_
    refine z_callVi (pc := 20) (As := [.int a1]) (S := []) (c_X6_isSetOfHouses zstr_1 a1 μ) rfl zw_X6_isSetOfHouses zv_X6_isSetOfHouses zm_X8_284 (n := 1) (by decide) rfl (z_recv gc_1 (T := TX6) (N := 10) rfl) rfl (Nat.le_of_ble_eq_true rfl) (by decide) (by decide) dX8_round_20 ?_
    refine z_if_ne (pc := 23) (tgt := 30) dX8_round_23 (by decide) (fun _ => ?_) (fun _ => ?_)
    · refine z_bipush (pc := 26) dX8_round_26 zcb_m6 ?_
      refine z_istore (pc := 28) (L' := [(0, .ref (b + 0)), (1, .int a1), (2, .int a2), (3, .int a3), (4, .int a4), (5, .int (-6))]) dX8_round_28 (by decide) rfl ?_
      exact w_X8_round_30 n a1 a2 a3 a4 (-6) μ
    · exact w_X8_round_30 n a1 a2 a3 a4 x1 μ
  · exact w_X8_round_30 n a1 a2 a3 a4 x1 μ

set_option maxRecDepth 20000 in
theorem c_X8_round {D : va_G} {cI cL : ClassId} {b : Nat} {Z : State → Heap → Prop}  (n : Nat) (a1 : Int32) (a2 : Int32) (a3 : Int32) (a4 : Int32) (μ : z_M) : z_S (zEc D cI cL b Z) 6 yX8_round cX8_round 6 (some .int) z_ei [.ref (b + 0), .int a1, .int a2, .int a3, .int a4] μ ((f_X8_round n a1 a2 a3 a4 μ)) :=
  z_entry (yn := yX8_round) (by decide) (Nat.le_of_ble_eq_true rfl) rfl (w_X8_round_0 n a1 a2 a3 a4 μ)

def f_X8_street (n : Nat) (a1 : Int32) (μ : z_M) : Option (Int32 × z_M) :=
  z_let ((f_X5_troubleWithRow a1 μ) : Int32) (fun x1 => if x1 = 0 then (z_let (f_X6_becomeAs 15 1 μ) (fun m2 => z_bind (f_X3_readItems n a1 m2) (fun p3 => z_let (z_sI p3.2 0 9 (f_X3_faultFound p3.2)) (fun m4 => if (m4.1 0 9) = (-1) then (z_let (f_X6_becomeAs 1 15 m4) (fun m5 => some (p3.1, m5))) else (z_let (f_X8_refuse (-6) m4) (fun p6 => some (p6.1, p6.2))))))) else (z_let (f_X8_refuse x1 μ) (fun p7 => some (p7.1, p7.2))))
set_option maxRecDepth 20000 in
theorem w_X8_street_0 {D : va_G} {cI cL : ClassId} {b : Nat} {Z : State → Heap → Prop} {adK adV : Nat → Nat} {w : Option Nat} (hZ : ∀ s H, (zEc D cI cL b Z).2.1 s H → z_ZS adK adV w (zEc D cI cL b Z).2.2 s H) (n : Nat) (a1 : Int32) (μ : z_M) : z_w (zEc D cI cL b Z) (RX8, cX8_street, 4, (some .int), 8) z_ei 0 [(0, .ref (b + 0)), (1, .int a1)] [] μ ((f_X8_street n a1 μ)) := by
  unfold f_X8_street
  refine z_aload_n (pc := 0) dX8_street_0 rfl ?_
  refine zgR_X8_25 (pc := 1) gc_0 rfl dX8_street_1 ?_
  refine z_iload_n (pc := 4) dX8_street_4 rfl ?_
  refine z_callVi (pc := 5) (As := [.int a1]) (S := []) (c_X5_troubleWithRow a1 μ) rfl zw_X5_troubleWithRow zv_X5_troubleWithRow zm_X8_120 (n := 1) (by decide) rfl (z_recv gc_22 (T := TX5) (N := 3) rfl) rfl (Nat.le_of_ble_eq_true rfl) (by decide) (by decide) dX8_street_5 ?_
  refine z_letIO (fun x1 => ?_)
  refine z_istore_n (pc := 8) (L' := [(0, .ref (b + 0)), (1, .int a1), (2, .int x1)]) dX8_street_8 (by decide) rfl ?_
  refine z_iload_n (pc := 9) dX8_street_9 rfl ?_
  refine z_if_eq (pc := 10) (tgt := 19) dX8_street_10 (by decide) (fun _ => ?_) (fun _ => ?_)
  · refine z_aload_n (pc := 19) dX8_street_19 rfl ?_
    refine zgR_X8_19 (pc := 20) gc_0 rfl dX8_street_20 ?_
    refine z_aload_n (pc := 23) dX8_street_23 rfl ?_
    refine zgR_X8_10 (pc := 24) gc_0 rfl dX8_street_24 ?_
    refine z_letPO (fun m2 hm2 => ?_)
    refine z_callVv (pc := 27) (As := [.ref (b + 1)]) (S := []) (c_X6_becomeAs zstr_15 zstr_1 (by decide) μ) (z_pV hm2) zw_X6_becomeAs zv_X6_becomeAs zm_X8_213 (n := 1) (by decide) rfl (z_recv gc_15 (T := TX6) (N := 10) rfl) rfl (Nat.le_of_ble_eq_true rfl) (by decide) (by decide) dX8_street_27 ?_
    refine z_aload_n (pc := 30) dX8_street_30 rfl ?_
    refine zgR_X8_59 (pc := 31) gc_0 rfl dX8_street_31 ?_
    refine z_iload_n (pc := 34) dX8_street_34 rfl ?_
    refine z_bindP (fun p3 hp3 => ?_)
    refine z_callVi (pc := 35) (As := [.int a1]) (S := []) (c_X3_readItems hZ n a1 m2) hp3 zw_X3_readItems zv_X3_readItems zm_X8_216 (n := 1) (by decide) rfl (z_recv gc_45 (T := TX3) (N := 5) rfl) rfl (Nat.le_of_ble_eq_true rfl) (by decide) (by decide) dX8_street_35 ?_
    refine z_istore_n (pc := 38) (L' := [(0, .ref (b + 0)), (1, .int a1), (2, .int x1), (3, .int p3.1)]) dX8_street_38 (by decide) rfl ?_
    refine z_aload_n (pc := 39) dX8_street_39 rfl ?_
    refine z_aload_n (pc := 40) dX8_street_40 rfl ?_
    refine zgR_X8_59 (pc := 41) gc_0 rfl dX8_street_41 ?_
    refine z_callVi (pc := 44) (As := []) (S := [.ref (b + 0)]) (c_X3_faultFound p3.2) rfl zw_X3_faultFound zv_X3_faultFound zm_X8_219 (n := 0) (by decide) rfl (z_recv gc_45 (T := TX3) (N := 5) rfl) rfl (Nat.le_of_ble_eq_true rfl) (by decide) (by decide) dX8_street_44 ?_
    refine zpI_X8_72 (pc := 47) gc_0 rfl dX8_street_47 ?_
    refine z_letMO (fun m4 => ?_)
    refine z_aload_n (pc := 50) dX8_street_50 rfl ?_
    refine zgI_X8_72 (pc := 51) gc_0 rfl dX8_street_51 ?_
    refine z_iconst (pc := 54) dX8_street_54 zci_m1 ?_
    refine z_icmp_eq (pc := 55) (tgt := 65) dX8_street_55 (by decide) (fun _ => ?_) (fun _ => ?_)
    · refine z_aload_n (pc := 65) dX8_street_65 rfl ?_
      refine zgR_X8_10 (pc := 66) gc_0 rfl dX8_street_66 ?_
      refine z_aload_n (pc := 69) dX8_street_69 rfl ?_
      refine zgR_X8_19 (pc := 70) gc_0 rfl dX8_street_70 ?_
      refine z_letPO (fun m5 hm5 => ?_)
      refine z_callVv (pc := 73) (As := [.ref (b + 15)]) (S := []) (c_X6_becomeAs zstr_1 zstr_15 (by decide) m4) (z_pV hm5) zw_X6_becomeAs zv_X6_becomeAs zm_X8_213 (n := 1) (by decide) rfl (z_recv gc_1 (T := TX6) (N := 10) rfl) rfl (Nat.le_of_ble_eq_true rfl) (by decide) (by decide) dX8_street_73 ?_
      refine z_iload_n (pc := 76) dX8_street_76 rfl ?_
      exact z_iret (pc := 77) rfl dX8_street_77
    · refine z_aload_n (pc := 58) dX8_street_58 rfl ?_
      refine z_bipush (pc := 59) dX8_street_59 zcb_m6 ?_
      refine z_letPO (fun p6 hp6 => ?_)
      refine z_callVi (pc := 61) (As := [.int (-6)]) (S := []) (c_X8_refuse (-6) m4) (z_pT hp6) zw_X8_refuse zv_X8_refuse zm_X8_88 (n := 1) (by decide) rfl (z_recv gc_0 (T := TX8) (N := 11) rfl) rfl (Nat.le_of_ble_eq_true rfl) (by decide) (by decide) dX8_street_61 ?_
      exact z_iret (pc := 64) rfl dX8_street_64
  · refine z_aload_n (pc := 13) dX8_street_13 rfl ?_
    refine z_iload_n (pc := 14) dX8_street_14 rfl ?_
    refine z_letPO (fun p7 hp7 => ?_)
    refine z_callVi (pc := 15) (As := [.int x1]) (S := []) (c_X8_refuse x1 μ) (z_pT hp7) zw_X8_refuse zv_X8_refuse zm_X8_88 (n := 1) (by decide) rfl (z_recv gc_0 (T := TX8) (N := 11) rfl) rfl (Nat.le_of_ble_eq_true rfl) (by decide) (by decide) dX8_street_15 ?_
    exact z_iret (pc := 18) rfl dX8_street_18

set_option maxRecDepth 20000 in
theorem c_X8_street {D : va_G} {cI cL : ClassId} {b : Nat} {Z : State → Heap → Prop} {adK adV : Nat → Nat} {w : Option Nat} (hZ : ∀ s H, (zEc D cI cL b Z).2.1 s H → z_ZS adK adV w (zEc D cI cL b Z).2.2 s H) (n : Nat) (a1 : Int32) (μ : z_M) : z_S (zEc D cI cL b Z) 8 yX8_street cX8_street 4 (some .int) z_ei [.ref (b + 0), .int a1] μ ((f_X8_street n a1 μ)) :=
  z_entry (yn := yX8_street) (by decide) (Nat.le_of_ble_eq_true rfl) rfl (w_X8_street_0 hZ n a1 μ)
