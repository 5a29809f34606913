def f_X9_passes_b41 (a : Nat) (n0 : Nat) (r2 : Int32 → Int32 → z_M → Option (Unit × z_M)) (n : Nat) (l2 : Int32) (l3 : Int32) (μ : z_M) : Option (Unit × z_M) :=
  z_let (z_sI μ 0 44 ((μ.1 0 44) + 1)) (fun m2 => r2 l2 (l3 + 1) m2)
def f_X9_passes_h2 (a : Nat) (n0 : Nat) : Nat → Int32 → Int32 → z_M → Option (Unit × z_M)
  | 0, _, _, _ => none
  | n + 1, l2, l3, μ =>
    if l3 < l2 then (if (μ.1 0 43) = 0 then (z_chk (μ.1 0 44) 400 (z_chk l3 n0 (z_let (z_sI μ a (z_ix l3) (μ.1 24 (z_ix (μ.1 0 44)))) (fun m1 => f_X9_passes_b41 a n0 (f_X9_passes_h2 a n0 n) n l2 l3 m1)))) else (z_chk l3 n0 (z_chk (μ.1 0 44) 400 (z_let (z_sI μ 24 (z_ix (μ.1 0 44)) (μ.1 a (z_ix l3))) (fun m3 => f_X9_passes_b41 a n0 (f_X9_passes_h2 a n0 n) n l2 l3 m3))))) else (some ((), μ))
def f_X9_passes (a : Nat) (n0 : Nat) (n : Nat) (a2 : Int32) (μ : z_M) : Option (Unit × z_M) :=
  f_X9_passes_h2 a n0 n a2 0 μ
set_option maxRecDepth 20000 in
theorem w_X9_passes_41 {D : va_G} {cI cL : ClassId} {b : Nat} {Z : State → Heap → Prop} {a n0 : Nat} (ha : G_m[a]? = some (.inr (false, n0))) (r2 : Int32 → Int32 → z_M → Option (Unit × z_M)) (hr2 : ∀ (l2 : Int32) (l3 : Int32) (μ : z_M), z_w (zEm D cI cL b Z) (RX9, cX9_passes, 4, none, 0) z_ev 2 [(0, .ref (b + 0)), (1, .ref (b + a)), (2, .int l2), (3, .int l3)] [] μ ((r2 l2 l3 μ))) (n : Nat) (l2 : Int32) (l3 : Int32) (μ : z_M) : z_w (zEm D cI cL b Z) (RX9, cX9_passes, 4, none, 0) z_ev 41 [(0, .ref (b + 0)), (1, .ref (b + a)), (2, .int l2), (3, .int l3)] [] μ ((f_X9_passes_b41 a n0 r2 n l2 l3 μ)) := by
  unfold f_X9_passes_b41
  refine z_aload_n (pc := 41) dX9_passes_41 rfl ?_
  refine z_dup (pc := 42) dX9_passes_42 rfl ?_
  refine zgI_X9_272 (pc := 43) gm_0 rfl dX9_passes_43 ?_
  refine z_iconst (pc := 46) dX9_passes_46 zci_1 ?_
  refine z_iadd (pc := 47) dX9_passes_47 ?_
  refine zpI_X9_272 (pc := 48) gm_0 rfl dX9_passes_48 ?_
  refine z_letMO (fun m2 => ?_)
  refine z_iinc (pc := 51) (v := (l3 + 1)) (L' := [(0, .ref (b + 0)), (1, .ref (b + a)), (2, .int l2), (3, .int (l3 + 1))]) dX9_passes_51 rfl (by decide) rfl rfl ?_
  refine z_goto (pc := 54) (tgt := 2) dX9_passes_54 (by decide) ?_
  exact hr2 l2 (l3 + 1) m2

set_option maxRecDepth 20000 in
theorem w_X9_passes_2 {D : va_G} {cI cL : ClassId} {b : Nat} {Z : State → Heap → Prop} {a n0 : Nat} (ha : G_m[a]? = some (.inr (false, n0))) : ∀ (n : Nat) (l2 : Int32) (l3 : Int32) (μ : z_M), z_w (zEm D cI cL b Z) (RX9, cX9_passes, 4, none, 0) z_ev 2 [(0, .ref (b + 0)), (1, .ref (b + a)), (2, .int l2), (3, .int l3)] [] μ (f_X9_passes_h2 a n0 n l2 l3 μ) := by
  intro n
  induction n with
  | zero =>
    intro l2 l3 μ
    exact z_none
  | succ n ih =>
    intro l2 l3 μ
    unfold f_X9_passes_h2
    refine z_iload_n (pc := 2) dX9_passes_2 rfl ?_
    refine z_iload_n (pc := 3) dX9_passes_3 rfl ?_
    refine z_icmp_ge (pc := 4) (tgt := 57) dX9_passes_4 (by decide) (fun _ => ?_) (fun _ => ?_)
    · refine z_aload_n (pc := 7) dX9_passes_7 rfl ?_
      refine zgI_X9_269 (pc := 8) gm_0 rfl dX9_passes_8 ?_
      refine z_if_eq (pc := 11) (tgt := 29) dX9_passes_11 (by decide) (fun _ => ?_) (fun _ => ?_)
      · refine z_aload_n (pc := 29) dX9_passes_29 rfl ?_
        refine z_iload_n (pc := 30) dX9_passes_30 rfl ?_
        refine z_aload_n (pc := 31) dX9_passes_31 rfl ?_
        refine zgR_X9_93 (pc := 32) gm_0 rfl dX9_passes_32 ?_
        refine z_aload_n (pc := 35) dX9_passes_35 rfl ?_
        refine zgI_X9_272 (pc := 36) gm_0 rfl dX9_passes_36 ?_
        refine z_iald (pc := 39) gm_24 dX9_passes_39 ?_
        refine z_iast (pc := 40) ha dX9_passes_40 ?_
        refine z_letMO (fun m1 => ?_)
        exact w_X9_passes_41 ha _ ih n l2 l3 m1
      · refine z_aload_n (pc := 14) dX9_passes_14 rfl ?_
        refine zgR_X9_93 (pc := 15) gm_0 rfl dX9_passes_15 ?_
        refine z_aload_n (pc := 18) dX9_passes_18 rfl ?_
        refine zgI_X9_272 (pc := 19) gm_0 rfl dX9_passes_19 ?_
        refine z_aload_n (pc := 22) dX9_passes_22 rfl ?_
        refine z_iload_n (pc := 23) dX9_passes_23 rfl ?_
        refine z_iald (pc := 24) ha dX9_passes_24 ?_
        refine z_iast (pc := 25) gm_24 dX9_passes_25 ?_
        refine z_letMO (fun m3 => ?_)
        refine z_goto (pc := 26) (tgt := 41) dX9_passes_26 (by decide) ?_
        exact w_X9_passes_41 ha _ ih n l2 l3 m3
    · exact z_vret (pc := 57) rfl dX9_passes_57

set_option maxRecDepth 20000 in
theorem w_X9_passes_0 {D : va_G} {cI cL : ClassId} {b : Nat} {Z : State → Heap → Prop} {a n0 : Nat} (ha : G_m[a]? = some (.inr (false, n0))) (n : Nat) (a2 : Int32) (μ : z_M) : z_w (zEm D cI cL b Z) (RX9, cX9_passes, 4, none, 0) z_ev 0 [(0, .ref (b + 0)), (1, .ref (b + a)), (2, .int a2)] [] μ ((f_X9_passes a n0 n a2 μ)) := by
  unfold f_X9_passes
  refine z_iconst (pc := 0) dX9_passes_0 zci_0 ?_
  refine z_istore_n (pc := 1) (L' := [(0, .ref (b + 0)), (1, .ref (b + a)), (2, .int a2), (3, .int 0)]) dX9_passes_1 (by decide) rfl ?_
  exact w_X9_passes_2 ha n a2 0 μ

set_option maxRecDepth 20000 in
theorem c_X9_passes {D : va_G} {cI cL : ClassId} {b : Nat} {Z : State → Heap → Prop} {a n0 : Nat} (ha : G_m[a]? = some (.inr (false, n0))) (n : Nat) (a2 : Int32) (μ : z_M) : z_S (zEm D cI cL b Z) 0 yX9_passes cX9_passes 4 none z_ev [.ref (b + 0), .ref (b + a), .int a2] μ ((f_X9_passes a n0 n a2 μ)) :=
  z_entry (yn := yX9_passes) (by decide) (Nat.le_of_ble_eq_true rfl) rfl (w_X9_passes_0 ha n a2 μ)

def f_X9_no (a1 : Int32) (μ : z_M) : Option (Int32 × z_M) :=
  z_chk (-a1) 8 (z_chk (-a1) 8 (z_let (z_sI μ 1 (z_ix (-a1)) ((μ.1 1 (z_ix (-a1))) + 1)) (fun m1 => some (a1, m1))))
set_option maxRecDepth 20000 in
theorem w_X9_no_0 {D : va_G} {cI cL : ClassId} {b : Nat} {Z : State → Heap → Prop}  (a1 : Int32) (μ : z_M) : z_w (zEm D cI cL b Z) (RX9, cX9_no, 2, (some .int), 0) z_ei 0 [(0, .ref (b + 0)), (1, .int a1)] [] μ ((f_X9_no a1 μ)) := by
  unfold f_X9_no
  refine z_aload_n (pc := 0) dX9_no_0 rfl ?_
  refine zgR_X9_7 (pc := 1) gm_0 rfl dX9_no_1 ?_
  refine z_iload_n (pc := 4) dX9_no_4 rfl ?_
  refine z_ineg (pc := 5) dX9_no_5 ?_
  refine z_dup2 (pc := 6) dX9_no_6 rfl rfl ?_
  refine z_iald (pc := 7) gm_1 dX9_no_7 ?_
  refine z_iconst (pc := 8) dX9_no_8 zci_1 ?_
  refine z_iadd (pc := 9) dX9_no_9 ?_
  refine z_iast (pc := 10) gm_1 dX9_no_10 ?_
  refine z_letMO (fun m1 => ?_)
  refine z_iload_n (pc := 11) dX9_no_11 rfl ?_
  exact z_iret (pc := 12) rfl dX9_no_12

set_option maxRecDepth 20000 in
theorem c_X9_no {D : va_G} {cI cL : ClassId} {b : Nat} {Z : State → Heap → Prop}  (a1 : Int32) (μ : z_M) : z_S (zEm D cI cL b Z) 0 yX9_no cX9_no 2 (some .int) z_ei [.ref (b + 0), .int a1] μ ((f_X9_no a1 μ)) :=
  z_entry (yn := yX9_no) (by decide) (Nat.le_of_ble_eq_true rfl) rfl (w_X9_no_0 a1 μ)

def f_X9_noTen (a1 : Int32) (μ : z_M) : Option (Int32 × z_M) :=
  z_chk (-a1) 8 (z_chk (-a1) 8 (z_let (z_sI μ 1 (z_ix (-a1)) ((μ.1 1 (z_ix (-a1))) + 1)) (fun m1 => some ((a1 - 10), m1))))
set_option maxRecDepth 20000 in
theorem w_X9_noTen_0 {D : va_G} {cI cL : ClassId} {b : Nat} {Z : State → Heap → Prop}  (a1 : Int32) (μ : z_M) : z_w (zEm D cI cL b Z) (RX9, cX9_noTen, 2, (some .int), 0) z_ei 0 [(0, .ref (b + 0)), (1, .int a1)] [] μ ((f_X9_noTen a1 μ)) := by
  unfold f_X9_noTen
  refine z_aload_n (pc := 0) dX9_noTen_0 rfl ?_
  refine zgR_X9_7 (pc := 1) gm_0 rfl dX9_noTen_1 ?_
  refine z_iload_n (pc := 4) dX9_noTen_4 rfl ?_
  refine z_ineg (pc := 5) dX9_noTen_5 ?_
  refine z_dup2 (pc := 6) dX9_noTen_6 rfl rfl ?_
  refine z_iald (pc := 7) gm_1 dX9_noTen_7 ?_
  refine z_iconst (pc := 8) dX9_noTen_8 zci_1 ?_
  refine z_iadd (pc := 9) dX9_noTen_9 ?_
  refine z_iast (pc := 10) gm_1 dX9_noTen_10 ?_
  refine z_letMO (fun m1 => ?_)
  refine z_iload_n (pc := 11) dX9_noTen_11 rfl ?_
  refine z_bipush (pc := 12) dX9_noTen_12 zcb_10 ?_
  refine z_isub (pc := 14) dX9_noTen_14 ?_
  exact z_iret (pc := 15) rfl dX9_noTen_15

set_option maxRecDepth 20000 in
theorem c_X9_noTen {D : va_G} {cI cL : ClassId} {b : Nat} {Z : State → Heap → Prop}  (a1 : Int32) (μ : z_M) : z_S (zEm D cI cL b Z) 0 yX9_noTen cX9_noTen 2 (some .int) z_ei [.ref (b + 0), .int a1] μ ((f_X9_noTen a1 μ)) :=
  z_entry (yn := yX9_noTen) (by decide) (Nat.le_of_ble_eq_true rfl) rfl (w_X9_noTen_0 a1 μ)

def f_X9_isIn (a0 : Int32) (a1 : Int32) (a2 : Int32) (μ : z_M) : Int32 :=
  if a0 < a1 then (0) else (if a2 < a0 then (0) else (1))
set_option maxRecDepth 20000 in
theorem w_X9_isIn_0 {D : va_G} {cI cL : ClassId} {b : Nat} {Z : State → Heap → Prop}  (a0 : Int32) (a1 : Int32) (a2 : Int32) (μ : z_M) : z_w (zEm D cI cL b Z) (RX9, cX9_isIn, 3, (some .boolean), 0) z_ei 0 [(0, .int a0), (1, .int a1), (2, .int a2)] [] μ (z_oP μ (f_X9_isIn a0 a1 a2 μ)) := by
  unfold f_X9_isIn
  refine z_iload_n (pc := 0) dX9_isIn_0 rfl ?_
  refine z_iload_n (pc := 1) dX9_isIn_1 rfl ?_
  refine z_outIf ?_
  refine z_icmp_lt (pc := 2) (tgt := 14) dX9_isIn_2 (by decide) (fun _ => ?_) (fun _ => ?_)
  · refine z_iconst (pc := 14) dX9_isIn_14 zci_0 ?_
    exact z_zret (pc := 15) rfl dX9_isIn_15 (by decide)
  · refine z_iload_n (pc := 5) dX9_isIn_5 rfl ?_
    refine z_iload_n (pc := 6) dX9_isIn_6 rfl ?_
    refine z_outIf ?_
    refine z_icmp_gt (pc := 7) (tgt := 14) dX9_isIn_7 (by decide) (fun _ => ?_) (fun _ => ?_)
    · refine z_iconst (pc := 14) dX9_isIn_14 zci_0 ?_
      exact z_zret (pc := 15) rfl dX9_isIn_15 (by decide)
    · refine z_iconst (pc := 10) dX9_isIn_10 zci_1 ?_
      refine z_goto (pc := 11) (tgt := 15) dX9_isIn_11 (by decide) ?_
      exact z_zret (pc := 15) rfl dX9_isIn_15 (by decide)

set_option maxRecDepth 20000 in
theorem c_X9_isIn {D : va_G} {cI cL : ClassId} {b : Nat} {Z : State → Heap → Prop}  (a0 : Int32) (a1 : Int32) (a2 : Int32) (μ : z_M) : z_S (zEm D cI cL b Z) 0 yX9_isIn cX9_isIn 3 (some .boolean) z_ei [.int a0, .int a1, .int a2] μ (z_oP μ (f_X9_isIn a0 a1 a2 μ)) :=
  z_entry (yn := yX9_isIn) (by decide) (Nat.le_of_ble_eq_true rfl) rfl (w_X9_isIn_0 a0 a1 a2 μ)
set_option maxRecDepth 20000 in
theorem bl_X9_isIn (a0 : Int32) (a1 : Int32) (a2 : Int32) (μ : z_M) : f_X9_isIn a0 a1 a2 μ = 0 ∨ f_X9_isIn a0 a1 a2 μ = 1 := by
  unfold f_X9_isIn
  repeat' (first | with_reducible exact z_bl0 | with_reducible exact z_bl1 | with_reducible refine z_blI ?_ ?_ | with_reducible refine z_blL (fun _ => ?_))

def f_X9_isSet (a0 : Int32) (μ : z_M) : Int32 :=
  if a0 < 0 then (0) else (if a0 < 256 then (1) else (0))
set_option maxRecDepth 20000 in
theorem w_X9_isSet_0 {D : va_G} {cI cL : ClassId} {b : Nat} {Z : State → Heap → Prop}  (a0 : Int32) (μ : z_M) : z_w (zEm D cI cL b Z) (RX9, cX9_isSet, 1, (some .boolean), 0) z_ei 0 [(0, .int a0)] [] μ (z_oP μ (f_X9_isSet a0 μ)) := by
  unfold f_X9_isSet
  refine z_iload_n (pc := 0) dX9_isSet_0 rfl ?_
  refine z_outIf ?_
  refine z_if_lt (pc := 1) (tgt := 15) dX9_isSet_1 (by decide) (fun _ => ?_) (fun _ => ?_)
  · refine z_iconst (pc := 15) dX9_isSet_15 zci_0 ?_
    exact z_zret (pc := 16) rfl dX9_isSet_16 (by decide)
  · refine z_iload_n (pc := 4) dX9_isSet_4 rfl ?_
    refine z_sipush (pc := 5) dX9_isSet_5 zcs_256 ?_
    refine z_outIf ?_
    refine z_icmp_ge (pc := 8) (tgt := 15) dX9_isSet_8 (by decide) (fun _ => ?_) (fun _ => ?_)
    · refine z_iconst (pc := 11) dX9_isSet_11 zci_1 ?_
      refine z_goto (pc := 12) (tgt := 16) dX9_isSet_12 (by decide) ?_
      exact z_zret (pc := 16) rfl dX9_isSet_16 (by decide)
    · refine z_iconst (pc := 15) dX9_isSet_15 zci_0 ?_
      exact z_zret (pc := 16) rfl dX9_isSet_16 (by decide)

set_option maxRecDepth 20000 in
theorem c_X9_isSet {D : va_G} {cI cL : ClassId} {b : Nat} {Z : State → Heap → Prop}  (a0 : Int32) (μ : z_M) : z_S (zEm D cI cL b Z) 0 yX9_isSet cX9_isSet 1 (some .boolean) z_ei [.int a0] μ (z_oP μ (f_X9_isSet a0 μ)) :=
  z_entry (yn := yX9_isSet) (by decide) (Nat.le_of_ble_eq_true rfl) rfl (w_X9_isSet_0 a0 μ)
set_option maxRecDepth 20000 in
theorem bl_X9_isSet (a0 : Int32) (μ : z_M) : f_X9_isSet a0 μ = 0 ∨ f_X9_isSet a0 μ = 1 := by
  unfold f_X9_isSet
  repeat' (first | with_reducible exact z_bl0 | with_reducible exact z_bl1 | with_reducible refine z_blI ?_ ?_ | with_reducible refine z_blL (fun _ => ?_))

def f_X9_isHouse (a1 : Int32) (μ : z_M) : Int32 :=
  if a1 < 0 then (0) else (if a1 < (μ.1 0 8) then (1) else (0))
set_option maxRecDepth 20000 in
theorem w_X9_isHouse_0 {D : va_G} {cI cL : ClassId} {b : Nat} {Z : State → Heap → Prop}  (a1 : Int32) (μ : z_M) : z_w (zEm D cI cL b Z) (RX9, cX9_isHouse, 2, (some .boolean), 0) z_ei 0 [(0, .ref (b + 0)), (1, .int a1)] [] μ (z_oP μ (f_X9_isHouse a1 μ)) := by
  unfold f_X9_isHouse
  refine z_iload_n (pc := 0) dX9_isHouse_0 rfl ?_
  refine z_outIf ?_
  refine z_if_lt (pc := 1) (tgt := 16) dX9_isHouse_1 (by decide) (fun _ => ?_) (fun _ => ?_)
  · refine z_iconst (pc := 16) dX9_isHouse_16 zci_0 ?_
    exact z_zret (pc := 17) rfl dX9_isHouse_17 (by decide)
  · refine z_iload_n (pc := 4) dX9_isHouse_4 rfl ?_
    refine z_aload_n (pc := 5) dX9_isHouse_5 rfl ?_
    refine zgI_X9_102 (pc := 6) gm_0 rfl dX9_isHouse_6 ?_
    refine z_outIf ?_
    refine z_icmp_ge (pc := 9) (tgt := 16) dX9_isHouse_9 (by decide) (fun _ => ?_) (fun _ => ?_)
    · refine z_iconst (pc := 12) dX9_isHouse_12 zci_1 ?_
      refine z_goto (pc := 13) (tgt := 17) dX9_isHouse_13 (by decide) ?_
      exact z_zret (pc := 17) rfl dX9_isHouse_17 (by decide)
    · refine z_iconst (pc := 16) dX9_isHouse_16 zci_0 ?_
      exact z_zret (pc := 17) rfl dX9_isHouse_17 (by decide)

set_option maxRecDepth 20000 in
theorem c_X9_isHouse {D : va_G} {cI cL : ClassId} {b : Nat} {Z : State → Heap → Prop}  (a1 : Int32) (μ : z_M) : z_S (zEm D cI cL b Z) 0 yX9_isHouse cX9_isHouse 2 (some .boolean) z_ei [.ref (b + 0), .int a1] μ (z_oP μ (f_X9_isHouse a1 μ)) :=
  z_entry (yn := yX9_isHouse) (by decide) (Nat.le_of_ble_eq_true rfl) rfl (w_X9_isHouse_0 a1 μ)
set_option maxRecDepth 20000 in
theorem bl_X9_isHouse (a1 : Int32) (μ : z_M) : f_X9_isHouse a1 μ = 0 ∨ f_X9_isHouse a1 μ = 1 := by
  unfold f_X9_isHouse
  repeat' (first | with_reducible exact z_bl0 | with_reducible exact z_bl1 | with_reducible refine z_blI ?_ ?_ | with_reducible refine z_blL (fun _ => ?_))

def f_X9_isWay (a1 : Int32) (μ : z_M) : Int32 :=
  if a1 < 0 then (0) else (if a1 < (μ.1 0 9) then (1) else (0))
set_option maxRecDepth 20000 in
theorem w_X9_isWay_0 {D : va_G} {cI cL : ClassId} {b : Nat} {Z : State → Heap → Prop}  (a1 : Int32) (μ : z_M) : z_w (zEm D cI cL b Z) (RX9, cX9_isWay, 2, (some .boolean), 0) z_ei 0 [(0, .ref (b + 0)), (1, .int a1)] [] μ (z_oP μ (f_X9_isWay a1 μ)) := by
  unfold f_X9_isWay
  refine z_iload_n (pc := 0) dX9_isWay_0 rfl ?_
  refine z_outIf ?_
  refine z_if_lt (pc := 1) (tgt := 16) dX9_isWay_1 (by decide) (fun _ => ?_) (fun _ => ?_)
  · refine z_iconst (pc := 16) dX9_isWay_16 zci_0 ?_
    exact z_zret (pc := 17) rfl dX9_isWay_17 (by decide)
  · refine z_iload_n (pc := 4) dX9_isWay_4 rfl ?_
    refine z_aload_n (pc := 5) dX9_isWay_5 rfl ?_
    refine zgI_X9_105 (pc := 6) gm_0 rfl dX9_isWay_6 ?_
    refine z_outIf ?_
    refine z_icmp_ge (pc := 9) (tgt := 16) dX9_isWay_9 (by decide) (fun _ => ?_) (fun _ => ?_)
    · refine z_iconst (pc := 12) dX9_isWay_12 zci_1 ?_
      refine z_goto (pc := 13) (tgt := 17) dX9_isWay_13 (by decide) ?_
      exact z_zret (pc := 17) rfl dX9_isWay_17 (by decide)
    · refine z_iconst (pc := 16) dX9_isWay_16 zci_0 ?_
      exact z_zret (pc := 17) rfl dX9_isWay_17 (by decide)

set_option maxRecDepth 20000 in
theorem c_X9_isWay {D : va_G} {cI cL : ClassId} {b : Nat} {Z : State → Heap → Prop}  (a1 : Int32) (μ : z_M) : z_S (zEm D cI cL b Z) 0 yX9_isWay cX9_isWay 2 (some .boolean) z_ei [.ref (b + 0), .int a1] μ (z_oP μ (f_X9_isWay a1 μ)) :=
  z_entry (yn := yX9_isWay) (by decide) (Nat.le_of_ble_eq_true rfl) rfl (w_X9_isWay_0 a1 μ)
set_option maxRecDepth 20000 in
theorem bl_X9_isWay (a1 : Int32) (μ : z_M) : f_X9_isWay a1 μ = 0 ∨ f_X9_isWay a1 μ = 1 := by
  unfold f_X9_isWay
  repeat' (first | with_reducible exact z_bl0 | with_reducible exact z_bl1 | with_reducible refine z_blI ?_ ?_ | with_reducible refine z_blL (fun _ => ?_))

def f_X9_isOpen (a1 : Int32) (μ : z_M) : Option (Int32 × z_M) :=
  z_chk a1 12 (if (μ.1 8 (z_ix a1)) = 0 then (if (((μ.1 0 24) >>> (a1 &&& 31)) &&& 1) = 0 then (some (1, μ)) else (some (0, μ))) else (some (0, μ)))
set_option maxRecDepth 20000 in
theorem w_X9_isOpen_0 {D : va_G} {cI cL : ClassId} {b : Nat} {Z : State → Heap → Prop}  (a1 : Int32) (μ : z_M) : z_w (zEm D cI cL b Z) (RX9, cX9_isOpen, 2, (some .boolean), 0) z_ei 0 [(0, .ref (b + 0)), (1, .int a1)] [] μ ((f_X9_isOpen a1 μ)) := by
  unfold f_X9_isOpen
  refine z_aload_n (pc := 0) dX9_isOpen_0 rfl ?_
  refine zgR_X9_31 (pc := 1) gm_0 rfl dX9_isOpen_1 ?_
  refine z_iload_n (pc := 4) dX9_isOpen_4 rfl ?_
  refine z_iald (pc := 5) gm_8 dX9_isOpen_5 ?_
  refine z_if_ne (pc := 6) (tgt := 24) dX9_isOpen_6 (by decide) (fun _ => ?_) (fun _ => ?_)
  · refine z_aload_n (pc := 9) dX9_isOpen_9 rfl ?_
    refine zgI_X9_108 (pc := 10) gm_0 rfl dX9_isOpen_10 ?_
    refine z_iload_n (pc := 13) dX9_isOpen_13 rfl ?_
    refine z_ishr (pc := 14) dX9_isOpen_14 ?_
    refine z_iconst (pc := 15) dX9_isOpen_15 zci_1 ?_
    refine z_iand (pc := 16) dX9_isOpen_16 ?_
    refine z_if_ne (pc := 17) (tgt := 24) dX9_isOpen_17 (by decide) (fun _ => ?_) (fun _ => ?_)
    · refine z_iconst (pc := 20) dX9_isOpen_20 zci_1 ?_
      refine z_goto (pc := 21) (tgt := 25) dX9_isOpen_21 (by decide) ?_
      exact z_zret (pc := 25) rfl dX9_isOpen_25 (by decide)
    · refine z_iconst (pc := 24) dX9_isOpen_24 zci_0 ?_
      exact z_zret (pc := 25) rfl dX9_isOpen_25 (by decide)
  · refine z_iconst (pc := 24) dX9_isOpen_24 zci_0 ?_
    exact z_zret (pc := 25) rfl dX9_isOpen_25 (by decide)

set_option maxRecDepth 20000 in
theorem c_X9_isOpen {D : va_G} {cI cL : ClassId} {b : Nat} {Z : State → Heap → Prop}  (a1 : Int32) (μ : z_M) : z_S (zEm D cI cL b Z) 0 yX9_isOpen cX9_isOpen 2 (some .boolean) z_ei [.ref (b + 0), .int a1] μ ((f_X9_isOpen a1 μ)) :=
  z_entry (yn := yX9_isOpen) (by decide) (Nat.le_of_ble_eq_true rfl) rfl (w_X9_isOpen_0 a1 μ)

def f_X9_speaksNext (a1 : Int32) (μ : z_M) : Option (Int32 × z_M) :=
  z_chk a1 9 (if (μ.1 14 (z_ix a1)) < (μ.1 0 23) then (some (0, μ)) else (z_chk (((3 * a1) + (μ.1 0 23)) - 1) 27 (some ((μ.1 13 (z_ix (((3 * a1) + (μ.1 0 23)) - 1))), μ))))
set_option maxRecDepth 20000 in
theorem w_X9_speaksNext_0 {D : va_G} {cI cL : ClassId} {b : Nat} {Z : State → Heap → Prop}  (a1 : Int32) (μ : z_M) : z_w (zEm D cI cL b Z) (RX9, cX9_speaksNext, 2, (some .int), 0) z_ei 0 [(0, .ref (b + 0)), (1, .int a1)] [] μ ((f_X9_speaksNext a1 μ)) := by
  unfold f_X9_speaksNext
  refine z_aload_n (pc := 0) dX9_speaksNext_0 rfl ?_
  refine zgR_X9_56 (pc := 1) gm_0 rfl dX9_speaksNext_1 ?_
  refine z_iload_n (pc := 4) dX9_speaksNext_4 rfl ?_
  refine z_iald (pc := 5) gm_14 dX9_speaksNext_5 ?_
  refine z_aload_n (pc := 6) dX9_speaksNext_6 rfl ?_
  refine zgI_X9_69 (pc := 7) gm_0 rfl dX9_speaksNext_7 ?_
  refine z_icmp_lt (pc := 10) (tgt := 31) dX9_speaksNext_10 (by decide) (fun _ => ?_) (fun _ => ?_)
  · refine z_iconst (pc := 31) dX9_speaksNext_31 zci_0 ?_
    exact z_iret (pc := 32) rfl dX9_speaksNext_32
  · refine z_aload_n (pc := 13) dX9_speaksNext_13 rfl ?_
    refine zgR_X9_53 (pc := 14) gm_0 rfl dX9_speaksNext_14 ?_
    refine z_iconst (pc := 17) dX9_speaksNext_17 zci_3 ?_
    refine z_iload_n (pc := 18) dX9_speaksNext_18 rfl ?_
    refine z_imul (pc := 19) dX9_speaksNext_19 ?_
    refine z_aload_n (pc := 20) dX9_speaksNext_20 rfl ?_
    refine zgI_X9_69 (pc := 21) gm_0 rfl dX9_speaksNext_21 ?_
    refine z_iadd (pc := 24) dX9_speaksNext_24 ?_
    refine z_iconst (pc := 25) dX9_speaksNext_25 zci_1 ?_
    refine z_isub (pc := 26) dX9_speaksNext_26 ?_
    refine z_iald (pc := 27) gm_13 dX9_speaksNext_27 ?_
    refine z_goto (pc := 28) (tgt := 32) dX9_speaksNext_28 (by decide) ?_
    exact z_iret (pc := 32) rfl dX9_speaksNext_32

set_option maxRecDepth 20000 in
theorem c_X9_speaksNext {D : va_G} {cI cL : ClassId} {b : Nat} {Z : State → Heap → Prop}  (a1 : Int32) (μ : z_M) : z_S (zEm D cI cL b Z) 0 yX9_speaksNext cX9_speaksNext 2 (some .int) z_ei [.ref (b + 0), .int a1] μ ((f_X9_speaksNext a1 μ)) :=
  z_entry (yn := yX9_speaksNext) (by decide) (Nat.le_of_ble_eq_true rfl) rfl (w_X9_speaksNext_0 a1 μ)

def f_X9_answerOf_b127 (s0 : Int32) (μ : z_M) : Option (Int32 × z_M) :=
  some ((((s0 <<< (1 &&& 31)) ||| (s0 >>> (7 &&& 31))) &&& 255), μ)
def f_X9_answerOf (a1 : Int32) (a2 : Int32) (a3 : Int32) (μ : z_M) : Option (Int32 × z_M) :=
  z_chk a2 8 (z_let ((μ.1 3 (z_ix a2)) : Int32) (fun x1 => z_chk a2 8 (if (μ.1 2 (z_ix a2)) = 1 then (some (0, μ)) else (if (μ.1 2 (z_ix a2)) = 2 then (z_chk ((8 * a1) + a2) 72 (some ((x1 ||| (μ.1 10 (z_ix ((8 * a1) + a2)))), μ))) else (if (μ.1 2 (z_ix a2)) = 3 then (z_chk ((8 * a1) + a2) 72 (some (((x1 ||| (μ.1 10 (z_ix ((8 * a1) + a2)))) ||| a3), μ))) else (if (μ.1 2 (z_ix a2)) = 4 then (if a3 = 0 then (some (x1, μ)) else (z_chk a2 8 (some ((x1 &&& ((μ.1 4 (z_ix a2)) ^^^ (-1))), μ)))) else (if (μ.1 2 (z_ix a2)) = 5 then (if a3 = 0 then (f_X9_answerOf_b127 x1 μ) else (z_chk a2 8 (f_X9_answerOf_b127 (x1 &&& ((μ.1 4 (z_ix a2)) ^^^ (-1))) μ))) else (if (μ.1 2 (z_ix a2)) = 6 then (z_chk ((8 * a1) + a2) 72 (z_chk a2 8 (if (μ.1 11 (z_ix ((8 * a1) + a2))) < (μ.1 4 (z_ix a2)) then (some (0, μ)) else (some (x1, μ))))) else (some (x1, μ))))))))))
set_option maxRecDepth 20000 in
theorem w_X9_answerOf_127 {D : va_G} {cI cL : ClassId} {b : Nat} {Z : State → Heap → Prop}  (s0 : Int32) (μ : z_M) : z_w (zEm D cI cL b Z) (RX9, cX9_answerOf, 6, (some .int), 0) z_ei 127 [] [.int s0] μ ((f_X9_answerOf_b127 s0 μ)) := by
  unfold f_X9_answerOf_b127
  refine z_istore (pc := 127) (L' := [(5, .int s0)]) dX9_answerOf_127 (by decide) rfl ?_
  refine z_iload (pc := 129) dX9_answerOf_129 rfl ?_
  refine z_iconst (pc := 131) dX9_answerOf_131 zci_1 ?_
  refine z_ishl (pc := 132) dX9_answerOf_132 ?_
  refine z_iload (pc := 133) dX9_answerOf_133 rfl ?_
  refine z_bipush (pc := 135) dX9_answerOf_135 zcb_7 ?_
  refine z_ishr (pc := 137) dX9_answerOf_137 ?_
  refine z_ior (pc := 138) dX9_answerOf_138 ?_
  refine z_sipush (pc := 139) dX9_answerOf_139 zcs_255 ?_
  refine z_iand (pc := 142) dX9_answerOf_142 ?_
  exact z_iret (pc := 143) rfl dX9_answerOf_143

set_option maxRecDepth 20000 in
theorem w_X9_answerOf_0 {D : va_G} {cI cL : ClassId} {b : Nat} {Z : State → Heap → Prop}  (a1 : Int32) (a2 : Int32) (a3 : Int32) (μ : z_M) : z_w (zEm D cI cL b Z) (RX9, cX9_answerOf, 6, (some .int), 0) z_ei 0 [(0, .ref (b + 0)), (1, .int a1), (2, .int a2), (3, .int a3)] [] μ ((f_X9_answerOf a1 a2 a3 μ)) := by
  unfold f_X9_answerOf
  refine z_aload_n (pc := 0) dX9_answerOf_0 rfl ?_
  refine zgR_X9_16 (pc := 1) gm_0 rfl dX9_answerOf_1 ?_
  refine z_iload_n (pc := 4) dX9_answerOf_4 rfl ?_
  refine z_iald (pc := 5) gm_3 dX9_answerOf_5 ?_
  refine z_letIO (fun x1 => ?_)
  refine z_istore (pc := 6) (L' := [(0, .ref (b + 0)), (1, .int a1), (2, .int a2), (3, .int a3), (4, .int x1)]) dX9_answerOf_6 (by decide) rfl ?_
  refine z_aload_n (pc := 8) dX9_answerOf_8 rfl ?_
  refine zgR_X9_13 (pc := 9) gm_0 rfl dX9_answerOf_9 ?_
  refine z_iload_n (pc := 12) dX9_answerOf_12 rfl ?_
  refine z_iald (pc := 13) gm_2 dX9_answerOf_13 ?_
  refine z_split (fun hx => ?_) (fun hs14_0 => ?_)
  · refine z_tableIn (pc := 14) (x0 := 1) (off := 38) (tgt := 52) dX9_answerOf_14 hx (by decide) (by decide) (by decide) (by decide) ?_
    refine z_iconst (pc := 52) dX9_answerOf_52 zci_0 ?_
    exact z_iret (pc := 53) rfl dX9_answerOf_53
  · refine z_split (fun hx => ?_) (fun hs14_1 => ?_)
    · refine z_tableIn (pc := 14) (x0 := 2) (off := 40) (tgt := 54) dX9_answerOf_14 hx (by decide) (by decide) (by decide) (by decide) ?_
      refine z_iload (pc := 54) dX9_answerOf_54 rfl ?_
      refine z_aload_n (pc := 56) dX9_answerOf_56 rfl ?_
      refine zgR_X9_44 (pc := 57) gm_0 rfl dX9_answerOf_57 ?_
      refine z_bipush (pc := 60) dX9_answerOf_60 zcb_8 ?_
      refine z_iload_n (pc := 62) dX9_answerOf_62 rfl ?_
      refine z_imul (pc := 63) dX9_answerOf_63 ?_
      refine z_iload_n (pc := 64) dX9_answerOf_64 rfl ?_
      refine z_iadd (pc := 65) dX9_answerOf_65 ?_
      refine z_iald (pc := 66) gm_10 dX9_answerOf_66 ?_
      refine z_ior (pc := 67) dX9_answerOf_67 ?_
      exact z_iret (pc := 68) rfl dX9_answerOf_68
    · refine z_split (fun hx => ?_) (fun hs14_2 => ?_)
      · refine z_tableIn (pc := 14) (x0 := 3) (off := 55) (tgt := 69) dX9_answerOf_14 hx (by decide) (by decide) (by decide) (by decide) ?_
        refine z_iload (pc := 69) dX9_answerOf_69 rfl ?_
        refine z_aload_n (pc := 71) dX9_answerOf_71 rfl ?_
        refine zgR_X9_44 (pc := 72) gm_0 rfl dX9_answerOf_72 ?_
        refine z_bipush (pc := 75) dX9_answerOf_75 zcb_8 ?_
        refine z_iload_n (pc := 77) dX9_answerOf_77 rfl ?_
        refine z_imul (pc := 78) dX9_answerOf_78 ?_
        refine z_iload_n (pc := 79) dX9_answerOf_79 rfl ?_
        refine z_iadd (pc := 80) dX9_answerOf_80 ?_
        refine z_iald (pc := 81) gm_10 dX9_answerOf_81 ?_
        refine z_ior (pc := 82) dX9_answerOf_82 ?_
        refine z_iload_n (pc := 83) dX9_answerOf_83 rfl ?_
        refine z_ior (pc := 84) dX9_answerOf_84 ?_
        exact z_iret (pc := 85) rfl dX9_answerOf_85
      · refine z_split (fun hx => ?_) (fun hs14_3 => ?_)
        · refine z_tableIn (pc := 14) (x0 := 4) (off := 72) (tgt := 86) dX9_answerOf_14 hx (by decide) (by decide) (by decide) (by decide) ?_
          refine z_iload_n (pc := 86) dX9_answerOf_86 rfl ?_
          refine z_if_eq (pc := 87) (tgt := 104) dX9_answerOf_87 (by decide) (fun _ => ?_) (fun _ => ?_)
          · refine z_iload (pc := 104) dX9_answerOf_104 rfl ?_
            exact z_iret (pc := 106) rfl dX9_answerOf_106
          · refine z_iload (pc := 90) dX9_answerOf_90 rfl ?_
            refine z_aload_n (pc := 92) dX9_answerOf_92 rfl ?_
            refine zgR_X9_19 (pc := 93) gm_0 rfl dX9_answerOf_93 ?_
            refine z_iload_n (pc := 96) dX9_answerOf_96 rfl ?_
            refine z_iald (pc := 97) gm_4 dX9_answerOf_97 ?_
            refine z_iconst (pc := 98) dX9_answerOf_98 zci_m1 ?_
            refine z_ixor (pc := 99) dX9_answerOf_99 ?_
            refine z_iand (pc := 100) dX9_answerOf_100 ?_
            refine z_goto (pc := 101) (tgt := 106) dX9_answerOf_101 (by decide) ?_
            exact z_iret (pc := 106) rfl dX9_answerOf_106
        · refine z_split (fun hx => ?_) (fun hs14_4 => ?_)
          · refine z_tableIn (pc := 14) (x0 := 5) (off := 93) (tgt := 107) dX9_answerOf_14 hx (by decide) (by decide) (by decide) (by decide) ?_
            refine z_iload_n (pc := 107) dX9_answerOf_107 rfl ?_
            refine z_if_eq (pc := 108) (tgt := 125) dX9_answerOf_108 (by decide) (fun _ => ?_) (fun _ => ?_)
            · refine z_iload (pc := 125) dX9_answerOf_125 rfl ?_
              refine z_drop (L' := []) [] rfl ?_
              exact w_X9_answerOf_127 x1 μ
            · refine z_iload (pc := 111) dX9_answerOf_111 rfl ?_
              refine z_aload_n (pc := 113) dX9_answerOf_113 rfl ?_
              refine zgR_X9_19 (pc := 114) gm_0 rfl dX9_answerOf_114 ?_
              refine z_iload_n (pc := 117) dX9_answerOf_117 rfl ?_
              refine z_iald (pc := 118) gm_4 dX9_answerOf_118 ?_
              refine z_iconst (pc := 119) dX9_answerOf_119 zci_m1 ?_
              refine z_ixor (pc := 120) dX9_answerOf_120 ?_
              refine z_iand (pc := 121) dX9_answerOf_121 ?_
              refine z_goto (pc := 122) (tgt := 127) dX9_answerOf_122 (by decide) ?_
              refine z_drop (L' := []) [] rfl ?_
              exact w_X9_answerOf_127 (x1 &&& ((μ.1 4 (z_ix a2)) ^^^ (-1))) μ
          · refine z_split (fun hx => ?_) (fun hs14_5 => ?_)
            · refine z_tableIn (pc := 14) (x0 := 6) (off := 130) (tgt := 144) dX9_answerOf_14 hx (by decide) (by decide) (by decide) (by decide) ?_
              refine z_aload_n (pc := 144) dX9_answerOf_144 rfl ?_
              refine zgR_X9_47 (pc := 145) gm_0 rfl dX9_answerOf_145 ?_
              refine z_bipush (pc := 148) dX9_answerOf_148 zcb_8 ?_
              refine z_iload_n (pc := 150) dX9_answerOf_150 rfl ?_
              refine z_imul (pc := 151) dX9_answerOf_151 ?_
              refine z_iload_n (pc := 152) dX9_answerOf_152 rfl ?_
              refine z_iadd (pc := 153) dX9_answerOf_153 ?_
              refine z_iald (pc := 154) gm_11 dX9_answerOf_154 ?_
              refine z_aload_n (pc := 155) dX9_answerOf_155 rfl ?_
              refine zgR_X9_19 (pc := 156) gm_0 rfl dX9_answerOf_156 ?_
              refine z_iload_n (pc := 159) dX9_answerOf_159 rfl ?_
              refine z_iald (pc := 160) gm_4 dX9_answerOf_160 ?_
              refine z_icmp_lt (pc := 161) (tgt := 169) dX9_answerOf_161 (by decide) (fun _ => ?_) (fun _ => ?_)
              · refine z_iconst (pc := 169) dX9_answerOf_169 zci_0 ?_
                exact z_iret (pc := 170) rfl dX9_answerOf_170
              · refine z_iload (pc := 164) dX9_answerOf_164 rfl ?_
                refine z_goto (pc := 166) (tgt := 170) dX9_answerOf_166 (by decide) ?_
                exact z_iret (pc := 170) rfl dX9_answerOf_170
            · have hk0 := lv_neT hs14_0 (show Int32.toInt 1 = 1 by decide)
              have hk1 := lv_neT hs14_1 (show Int32.toInt 2 = 2 by decide)
              have hk2 := lv_neT hs14_2 (show Int32.toInt 3 = 3 by decide)
              have hk3 := lv_neT hs14_3 (show Int32.toInt 4 = 4 by decide)
              have hk4 := lv_neT hs14_4 (show Int32.toInt 5 = 5 by decide)
              have hk5 := lv_neT hs14_5 (show Int32.toInt 6 = 6 by decide)
              refine z_tableOut (pc := 14) (tgt := 171) dX9_answerOf_14 (by omega) (by decide) ?_
              refine z_iload (pc := 171) dX9_answerOf_171 rfl ?_
              exact z_iret (pc := 173) rfl dX9_answerOf_173

set_option maxRecDepth 20000 in
theorem c_X9_answerOf {D : va_G} {cI cL : ClassId} {b : Nat} {Z : State → Heap → Prop}  (a1 : Int32) (a2 : Int32) (a3 : Int32) (μ : z_M) : z_S (zEm D cI cL b Z) 0 yX9_answerOf cX9_answerOf 6 (some .int) z_ei [.ref (b + 0), .int a1, .int a2, .int a3] μ ((f_X9_answerOf a1 a2 a3 μ)) :=
  z_entry (yn := yX9_answerOf) (by decide) (Nat.le_of_ble_eq_true rfl) rfl (w_X9_answerOf_0 a1 a2 a3 μ)

def f_X9_visits_b130 (l1 : Int32) (l2 : Int32) (l3 : Int32) (s0 : Int32) (s1 : Int32) (s2 : Int32) (μ : z_M) : Option (Unit × z_M) :=
  z_chk s2 9 (z_let (z_sI μ 14 (z_ix s2) (s1 + s0)) (fun m9 => z_chk l1 9 (z_let (z_sI m9 9 (z_ix l1) l2) (fun m10 => z_chk l1 9 (z_let (z_sI m10 16 (z_ix l1) l3) (fun m11 => some ((), m11)))))))
def f_X9_visits (a1 : Int32) (a2 : Int32) (μ : z_M) : Option (Unit × z_M) :=
  z_bind (f_X9_speaksNext a1 μ) (fun p1 => z_bind (f_X9_answerOf a1 a2 p1.1 p1.2) (fun p2 => z_chk ((8 * a1) + a2) 72 (z_chk ((8 * a1) + a2) 72 (z_let (z_sI p2.2 10 (z_ix ((8 * a1) + a2)) ((p2.2.1 10 (z_ix ((8 * a1) + a2))) ||| p1.1)) (fun m3 => z_chk ((8 * a1) + a2) 72 (z_chk ((8 * a1) + a2) 72 (z_let (z_sI m3 12 (z_ix ((8 * a1) + a2)) ((m3.1 12 (z_ix ((8 * a1) + a2))) ||| p1.1)) (fun m4 => z_chk ((8 * a1) + a2) 72 (z_chk ((8 * a1) + a2) 72 (z_let (z_sI m4 11 (z_ix ((8 * a1) + a2)) ((m4.1 11 (z_ix ((8 * a1) + a2))) + 1)) (fun m5 => z_chk ((3 * a1) + 1) 27 (z_chk ((3 * a1) + 2) 27 (z_let (z_sI m5 13 (z_ix ((3 * a1) + 2)) (m5.1 13 (z_ix ((3 * a1) + 1)))) (fun m6 => z_chk (3 * a1) 27 (z_chk ((3 * a1) + 1) 27 (z_let (z_sI m6 13 (z_ix ((3 * a1) + 1)) (m6.1 13 (z_ix (3 * a1)))) (fun m7 => z_chk (3 * a1) 27 (z_let (z_sI m7 13 (z_ix (3 * a1)) p2.1) (fun m8 => z_chk a1 9 (z_chk a1 9 (if (m8.1 14 (z_ix a1)) < 3 then (f_X9_visits_b130 a1 a2 p1.1 1 (m8.1 14 (z_ix a1)) a1 m8) else (f_X9_visits_b130 a1 a2 p1.1 0 (m8.1 14 (z_ix a1)) a1 m8))))))))))))))))))))))
set_option maxRecDepth 20000 in
theorem w_X9_visits_130 {D : va_G} {cI cL : ClassId} {b : Nat} {Z : State → Heap → Prop}  (l1 : Int32) (l2 : Int32) (l3 : Int32) (s0 : Int32) (s1 : Int32) (s2 : Int32) (μ : z_M) : z_w (zEm D cI cL b Z) (RX9, cX9_visits, 5, none, 1) z_ev 130 [(0, .ref (b + 0)), (1, .int l1), (2, .int l2), (3, .int l3)] [.int s0, .int s1, .int s2, .ref (b + 14)] μ ((f_X9_visits_b130 l1 l2 l3 s0 s1 s2 μ)) := by
  unfold f_X9_visits_b130
  refine z_iadd (pc := 130) dX9_visits_130 ?_
  refine z_iast (pc := 131) gm_14 dX9_visits_131 ?_
  refine z_letMO (fun m9 => ?_)
  refine z_aload_n (pc := 132) dX9_visits_132 rfl ?_
  refine zgR_X9_41 (pc := 133) gm_0 rfl dX9_visits_133 ?_
  refine z_iload_n (pc := 136) dX9_visits_136 rfl ?_
  refine z_iload_n (pc := 137) dX9_visits_137 rfl ?_
  refine z_iast (pc := 138) gm_9 dX9_visits_138 ?_
  refine z_letMO (fun m10 => ?_)
  refine z_aload_n (pc := 139) dX9_visits_139 rfl ?_
  refine zgR_X9_62 (pc := 140) gm_0 rfl dX9_visits_140 ?_
  refine z_iload_n (pc := 143) dX9_visits_143 rfl ?_
  refine z_iload_n (pc := 144) dX9_visits_144 rfl ?_
  refine z_iast (pc := 145) gm_16 dX9_visits_145 ?_
  refine z_letMO (fun m11 => ?_)
  exact z_vret (pc := 146) rfl dX9_visits_146

set_option maxRecDepth 20000 in
theorem w_X9_visits_0 {D : va_G} {cI cL : ClassId} {b : Nat} {Z : State → Heap → Prop}  (a1 : Int32) (a2 : Int32) (μ : z_M) : z_w (zEm D cI cL b Z) (RX9, cX9_visits, 5, none, 1) z_ev 0 [(0, .ref (b + 0)), (1, .int a1), (2, .int a2)] [] μ ((f_X9_visits a1 a2 μ)) := by
  unfold f_X9_visits
  refine z_aload_n (pc := 0) dX9_visits_0 rfl ?_
  refine z_iload_n (pc := 1) dX9_visits_1 rfl ?_
  refine z_bindP (fun p1 hp1 => ?_)
  refine z_callVi (pc := 2) (As := [.int a1]) (S := []) (c_X9_speaksNext a1 μ) hp1 zw_X9_speaksNext zv_X9_speaksNext zm_X9_111 (n := 1) (by decide) rfl (z_recv gm_0 (T := TX9) (N := 52) rfl) rfl (Nat.le_of_ble_eq_true rfl) (by decide) (by decide) dX9_visits_2 ?_
  refine z_istore_n (pc := 5) (L' := [(0, .ref (b + 0)), (1, .int a1), (2, .int a2), (3, .int p1.1)]) dX9_visits_5 (by decide) rfl ?_
  refine z_aload_n (pc := 6) dX9_visits_6 rfl ?_
  refine z_iload_n (pc := 7) dX9_visits_7 rfl ?_
  refine z_iload_n (pc := 8) dX9_visits_8 rfl ?_
  refine z_iload_n (pc := 9) dX9_visits_9 rfl ?_
  refine z_bindP (fun p2 hp2 => ?_)
  refine z_callVi (pc := 10) (As := [.int a1, .int a2, .int p1.1]) (S := []) (c_X9_answerOf a1 a2 p1.1 p1.2) hp2 zw_X9_answerOf zv_X9_answerOf zm_X9_115 (n := 3) (by decide) rfl (z_recv gm_0 (T := TX9) (N := 52) rfl) rfl (Nat.le_of_ble_eq_true rfl) (by decide) (by decide) dX9_visits_10 ?_
  refine z_istore (pc := 13) (L' := [(0, .ref (b + 0)), (1, .int a1), (2, .int a2), (3, .int p1.1), (4, .int p2.1)]) dX9_visits_13 (by decide) rfl ?_
  refine z_aload_n (pc := 15) dX9_visits_15 rfl ?_
  refine zgR_X9_44 (pc := 16) gm_0 rfl dX9_visits_16 ?_
  refine z_bipush (pc := 19) dX9_visits_19 zcb_8 ?_
  refine z_iload_n (pc := 21) dX9_visits_21 rfl ?_
  refine z_imul (pc := 22) dX9_visits_22 ?_
  refine z_iload_n (pc := 23) dX9_visits_23 rfl ?_
  refine z_iadd (pc := 24) dX9_visits_24 ?_
  refine z_dup2 (pc := 25) dX9_visits_25 rfl rfl ?_
  refine z_iald (pc := 26) gm_10 dX9_visits_26 ?_
  refine z_iload_n (pc := 27) dX9_visits_27 rfl ?_
  refine z_ior (pc := 28) dX9_visits_28 ?_
  refine z_iast (pc := 29) gm_10 dX9_visits_29 ?_
  refine z_letMO (fun m3 => ?_)
  refine z_aload_n (pc := 30) dX9_visits_30 rfl ?_
  refine zgR_X9_50 (pc := 31) gm_0 rfl dX9_visits_31 ?_
  refine z_bipush (pc := 34) dX9_visits_34 zcb_8 ?_
  refine z_iload_n (pc := 36) dX9_visits_36 rfl ?_
  refine z_imul (pc := 37) dX9_visits_37 ?_
  refine z_iload_n (pc := 38) dX9_visits_38 rfl ?_
  refine z_iadd (pc := 39) dX9_visits_39 ?_
  refine z_dup2 (pc := 40) dX9_visits_40 rfl rfl ?_
  refine z_iald (pc := 41) gm_12 dX9_visits_41 ?_
  refine z_iload_n (pc := 42) dX9_visits_42 rfl ?_
  refine z_ior (pc := 43) dX9_visits_43 ?_
  refine z_iast (pc := 44) gm_12 dX9_visits_44 ?_
  refine z_letMO (fun m4 => ?_)
  refine z_aload_n (pc := 45) dX9_visits_45 rfl ?_
  refine zgR_X9_47 (pc := 46) gm_0 rfl dX9_visits_46 ?_
  refine z_bipush (pc := 49) dX9_visits_49 zcb_8 ?_
  refine z_iload_n (pc := 51) dX9_visits_51 rfl ?_
  refine z_imul (pc := 52) dX9_visits_52 ?_
  refine z_iload_n (pc := 53) dX9_visits_53 rfl ?_
  refine z_iadd (pc := 54) dX9_visits_54 ?_
  refine z_dup2 (pc := 55) dX9_visits_55 rfl rfl ?_
  refine z_iald (pc := 56) gm_11 dX9_visits_56 ?_
  refine z_iconst (pc := 57) dX9_visits_57 zci_1 ?_
  refine z_iadd (pc := 58) dX9_visits_58 ?_
  refine z_iast (pc := 59) gm_11 dX9_visits_59 ?_
  refine z_letMO (fun m5 => ?_)
  refine z_aload_n (pc := 60) dX9_visits_60 rfl ?_
  refine zgR_X9_53 (pc := 61) gm_0 rfl dX9_visits_61 ?_
  refine z_iconst (pc := 64) dX9_visits_64 zci_3 ?_
  refine z_iload_n (pc := 65) dX9_visits_65 rfl ?_
  refine z_imul (pc := 66) dX9_visits_66 ?_
  refine z_iconst (pc := 67) dX9_visits_67 zci_2 ?_
  refine z_iadd (pc := 68) dX9_visits_68 ?_
  refine z_aload_n (pc := 69) dX9_visits_69 rfl ?_
  refine zgR_X9_53 (pc := 70) gm_0 rfl dX9_visits_70 ?_
  refine z_iconst (pc := 73) dX9_visits_73 zci_3 ?_
  refine z_iload_n (pc := 74) dX9_visits_74 rfl ?_
  refine z_imul (pc := 75) dX9_visits_75 ?_
  refine z_iconst (pc := 76) dX9_visits_76 zci_1 ?_
  refine z_iadd (pc := 77) dX9_visits_77 ?_
  refine z_iald (pc := 78) gm_13 dX9_visits_78 ?_
  refine z_iast (pc := 79) gm_13 dX9_visits_79 ?_
  refine z_letMO (fun m6 => ?_)
  refine z_aload_n (pc := 80) dX9_visits_80 rfl ?_
  refine zgR_X9_53 (pc := 81) gm_0 rfl dX9_visits_81 ?_
  refine z_iconst (pc := 84) dX9_visits_84 zci_3 ?_
  refine z_iload_n (pc := 85) dX9_visits_85 rfl ?_
  refine z_imul (pc := 86) dX9_visits_86 ?_
  refine z_iconst (pc := 87) dX9_visits_87 zci_1 ?_
  refine z_iadd (pc := 88) dX9_visits_88 ?_
  refine z_aload_n (pc := 89) dX9_visits_89 rfl ?_
  refine zgR_X9_53 (pc := 90) gm_0 rfl dX9_visits_90 ?_
  refine z_iconst (pc := 93) dX9_visits_93 zci_3 ?_
  refine z_iload_n (pc := 94) dX9_visits_94 rfl ?_
  refine z_imul (pc := 95) dX9_visits_95 ?_
  refine z_iald (pc := 96) gm_13 dX9_visits_96 ?_
  refine z_iast (pc := 97) gm_13 dX9_visits_97 ?_
  refine z_letMO (fun m7 => ?_)
  refine z_aload_n (pc := 98) dX9_visits_98 rfl ?_
  refine zgR_X9_53 (pc := 99) gm_0 rfl dX9_visits_99 ?_
  refine z_iconst (pc := 102) dX9_visits_102 zci_3 ?_
  refine z_iload_n (pc := 103) dX9_visits_103 rfl ?_
  refine z_imul (pc := 104) dX9_visits_104 ?_
  refine z_iload (pc := 105) dX9_visits_105 rfl ?_
  refine z_iast (pc := 107) gm_13 dX9_visits_107 ?_
  refine z_letMO (fun m8 => ?_)
  refine z_aload_n (pc := 108) dX9_visits_108 rfl ?_
  refine zgR_X9_56 (pc := 109) gm_0 rfl dX9_visits_109 ?_
  refine z_iload_n (pc := 112) dX9_visits_112 rfl ?_
  refine z_dup2 (pc := 113) dX9_visits_113 rfl rfl ?_
  refine z_iald (pc := 114) gm_14 dX9_visits_114 ?_
  refine z_aload_n (pc := 115) dX9_visits_115 rfl ?_
  refine zgR_X9_56 (pc := 116) gm_0 rfl dX9_visits_116 ?_
  refine z_iload_n (pc := 119) dX9_visits_119 rfl ?_
  refine z_iald (pc := 120) gm_14 dX9_visits_120 ?_
  refine z_iconst (pc := 121) dX9_visits_121 zci_3 ?_
  refine z_icmp_ge (pc := 122) (tgt := 129) dX9_visits_122 (by decide) (fun _ => ?_) (fun _ => ?_)
  · refine z_iconst (pc := 125) dX9_visits_125 zci_1 ?_
    refine z_goto (pc := 126) (tgt := 130) dX9_visits_126 (by decide) ?_
    refine z_drop (L' := [(0, .ref (b + 0)), (1, .int a1), (2, .int a2), (3, .int p1.1)]) [0, 1, 2, 3] rfl ?_
    exact w_X9_visits_130 a1 a2 p1.1 1 (m8.1 14 (z_ix a1)) a1 m8
  · refine z_iconst (pc := 129) dX9_visits_129 zci_0 ?_
    refine z_drop (L' := [(0, .ref (b + 0)), (1, .int a1), (2, .int a2), (3, .int p1.1)]) [0, 1, 2, 3] rfl ?_
    exact w_X9_visits_130 a1 a2 p1.1 0 (m8.1 14 (z_ix a1)) a1 m8

set_option maxRecDepth 20000 in
theorem c_X9_visits {D : va_G} {cI cL : ClassId} {b : Nat} {Z : State → Heap → Prop}  (a1 : Int32) (a2 : Int32) (μ : z_M) : z_S (zEm D cI cL b Z) 1 yX9_visits cX9_visits 5 none z_ev [.ref (b + 0), .int a1, .int a2] μ ((f_X9_visits a1 a2 μ)) :=
  z_entry (yn := yX9_visits) (by decide) (Nat.le_of_ble_eq_true rfl) rfl (w_X9_visits_0 a1 a2 μ)

def f_X9_copies_h82 : Nat → Int32 → Int32 → Int32 → z_M → Option (Unit × z_M)
  | 0, _, _, _, _ => none
  | n + 1, l1, l2, l3, μ =>
    if l3 < 3 then (z_chk ((3 * l1) + l3) 27 (z_chk ((3 * l2) + l3) 27 (z_let (z_sI μ 13 (z_ix ((3 * l2) + l3)) (μ.1 13 (z_ix ((3 * l1) + l3)))) (fun m4 => f_X9_copies_h82 n l1 l2 (l3 + 1) m4)))) else (z_chk l1 9 (z_chk l2 9 (z_let (z_sI μ 14 (z_ix l2) (μ.1 14 (z_ix l1))) (fun m5 => z_chk l1 9 (z_chk l2 9 (z_let (z_sI m5 9 (z_ix l2) (m5.1 9 (z_ix l1))) (fun m6 => z_chk l1 9 (z_chk l2 9 (z_let (z_sI m6 15 (z_ix l2) (m6.1 15 (z_ix l1))) (fun m7 => z_chk l1 9 (z_chk l2 9 (z_let (z_sI m7 16 (z_ix l2) (m7.1 16 (z_ix l1))) (fun m8 => z_chk l1 9 (z_chk l2 9 (z_let (z_sL m8 17 (z_ix l2) (m8.2 17 (z_ix l1))) (fun m9 => some ((), m9)))))))))))))))))
def f_X9_copies_h2 : Nat → Int32 → Int32 → Int32 → z_M → Option (Unit × z_M)
  | 0, _, _, _, _ => none
  | n + 1, l1, l2, l3, μ =>
    if l3 < 8 then (z_chk ((8 * l1) + l3) 72 (z_chk ((8 * l2) + l3) 72 (z_let (z_sI μ 10 (z_ix ((8 * l2) + l3)) (μ.1 10 (z_ix ((8 * l1) + l3)))) (fun m1 => z_chk ((8 * l1) + l3) 72 (z_chk ((8 * l2) + l3) 72 (z_let (z_sI m1 11 (z_ix ((8 * l2) + l3)) (m1.1 11 (z_ix ((8 * l1) + l3)))) (fun m2 => z_chk ((8 * l1) + l3) 72 (z_chk ((8 * l2) + l3) 72 (z_let (z_sI m2 12 (z_ix ((8 * l2) + l3)) (m2.1 12 (z_ix ((8 * l1) + l3)))) (fun m3 => f_X9_copies_h2 n l1 l2 (l3 + 1) m3)))))))))) else (f_X9_copies_h82 n l1 l2 0 μ)
def f_X9_copies (n : Nat) (a1 : Int32) (a2 : Int32) (μ : z_M) : Option (Unit × z_M) :=
  f_X9_copies_h2 n a1 a2 0 μ
set_option maxRecDepth 20000 in
theorem w_X9_copies_82 {D : va_G} {cI cL : ClassId} {b : Nat} {Z : State → Heap → Prop}  : ∀ (n : Nat) (l1 : Int32) (l2 : Int32) (l3 : Int32) (μ : z_M), z_w (zEm D cI cL b Z) (RX9, cX9_copies, 4, none, 0) z_ev 82 [(0, .ref (b + 0)), (1, .int l1), (2, .int l2), (3, .int l3)] [] μ (f_X9_copies_h82 n l1 l2 l3 μ) := by
  intro n
  induction n with
  | zero =>
    intro l1 l2 l3 μ
    exact z_none
  | succ n ih =>
    intro l1 l2 l3 μ
    unfold f_X9_copies_h82
    refine z_iload_n (pc := 82) dX9_copies_82 rfl ?_
    refine z_iconst (pc := 83) dX9_copies_83 zci_3 ?_
    refine z_icmp_ge (pc := 84) (tgt := 113) dX9_copies_84 (by decide) (fun _ => ?_) (fun _ => ?_)
    · refine z_aload_n (pc := 87) dX9_copies_87 rfl ?_
      refine zgR_X9_53 (pc := 88) gm_0 rfl dX9_copies_88 ?_
      refine z_iconst (pc := 91) dX9_copies_91 zci_3 ?_
      refine z_iload_n (pc := 92) dX9_copies_92 rfl ?_
      refine z_imul (pc := 93) dX9_copies_93 ?_
      refine z_iload_n (pc := 94) dX9_copies_94 rfl ?_
      refine z_iadd (pc := 95) dX9_copies_95 ?_
      refine z_aload_n (pc := 96) dX9_copies_96 rfl ?_
      refine zgR_X9_53 (pc := 97) gm_0 rfl dX9_copies_97 ?_
      refine z_iconst (pc := 100) dX9_copies_100 zci_3 ?_
      refine z_iload_n (pc := 101) dX9_copies_101 rfl ?_
      refine z_imul (pc := 102) dX9_copies_102 ?_
      refine z_iload_n (pc := 103) dX9_copies_103 rfl ?_
      refine z_iadd (pc := 104) dX9_copies_104 ?_
      refine z_iald (pc := 105) gm_13 dX9_copies_105 ?_
      refine z_iast (pc := 106) gm_13 dX9_copies_106 ?_
      refine z_letMO (fun m4 => ?_)
      refine z_iinc (pc := 107) (v := (l3 + 1)) (L' := [(0, .ref (b + 0)), (1, .int l1), (2, .int l2), (3, .int (l3 + 1))]) dX9_copies_107 rfl (by decide) rfl rfl ?_
      refine z_goto (pc := 110) (tgt := 82) dX9_copies_110 (by decide) ?_
      exact ih l1 l2 (l3 + 1) m4
    · refine z_aload_n (pc := 113) dX9_copies_113 rfl ?_
      refine zgR_X9_56 (pc := 114) gm_0 rfl dX9_copies_114 ?_
      refine z_iload_n (pc := 117) dX9_copies_117 rfl ?_
      refine z_aload_n (pc := 118) dX9_copies_118 rfl ?_
      refine zgR_X9_56 (pc := 119) gm_0 rfl dX9_copies_119 ?_
      refine z_iload_n (pc := 122) dX9_copies_122 rfl ?_
      refine z_iald (pc := 123) gm_14 dX9_copies_123 ?_
      refine z_iast (pc := 124) gm_14 dX9_copies_124 ?_
      refine z_letMO (fun m5 => ?_)
      refine z_aload_n (pc := 125) dX9_copies_125 rfl ?_
      refine zgR_X9_41 (pc := 126) gm_0 rfl dX9_copies_126 ?_
      refine z_iload_n (pc := 129) dX9_copies_129 rfl ?_
      refine z_aload_n (pc := 130) dX9_copies_130 rfl ?_
      refine zgR_X9_41 (pc := 131) gm_0 rfl dX9_copies_131 ?_
      refine z_iload_n (pc := 134) dX9_copies_134 rfl ?_
      refine z_iald (pc := 135) gm_9 dX9_copies_135 ?_
      refine z_iast (pc := 136) gm_9 dX9_copies_136 ?_
      refine z_letMO (fun m6 => ?_)
      refine z_aload_n (pc := 137) dX9_copies_137 rfl ?_
      refine zgR_X9_59 (pc := 138) gm_0 rfl dX9_copies_138 ?_
      refine z_iload_n (pc := 141) dX9_copies_141 rfl ?_
      refine z_aload_n (pc := 142) dX9_copies_142 rfl ?_
      refine zgR_X9_59 (pc := 143) gm_0 rfl dX9_copies_143 ?_
      refine z_iload_n (pc := 146) dX9_copies_146 rfl ?_
      refine z_iald (pc := 147) gm_15 dX9_copies_147 ?_
      refine z_iast (pc := 148) gm_15 dX9_copies_148 ?_
      refine z_letMO (fun m7 => ?_)
      refine z_aload_n (pc := 149) dX9_copies_149 rfl ?_
      refine zgR_X9_62 (pc := 150) gm_0 rfl dX9_copies_150 ?_
      refine z_iload_n (pc := 153) dX9_copies_153 rfl ?_
      refine z_aload_n (pc := 154) dX9_copies_154 rfl ?_
      refine zgR_X9_62 (pc := 155) gm_0 rfl dX9_copies_155 ?_
      refine z_iload_n (pc := 158) dX9_copies_158 rfl ?_
      refine z_iald (pc := 159) gm_16 dX9_copies_159 ?_
      refine z_iast (pc := 160) gm_16 dX9_copies_160 ?_
      refine z_letMO (fun m8 => ?_)
      refine z_aload_n (pc := 161) dX9_copies_161 rfl ?_
      refine zgR_X9_65 (pc := 162) gm_0 rfl dX9_copies_162 ?_
      refine z_iload_n (pc := 165) dX9_copies_165 rfl ?_
      refine z_aload_n (pc := 166) dX9_copies_166 rfl ?_
      refine zgR_X9_65 (pc := 167) gm_0 rfl dX9_copies_167 ?_
      refine z_iload_n (pc := 170) dX9_copies_170 rfl ?_
      refine z_lald (pc := 171) gm_17 dX9_copies_171 ?_
      refine z_last (pc := 172) gm_17 dX9_copies_172 ?_
      refine z_letMO (fun m9 => ?_)
      exact z_vret (pc := 173) rfl dX9_copies_173

set_option maxRecDepth 20000 in
theorem w_X9_copies_2 {D : va_G} {cI cL : ClassId} {b : Nat} {Z : State → Heap → Prop}  : ∀ (n : Nat) (l1 : Int32) (l2 : Int32) (l3 : Int32) (μ : z_M), z_w (zEm D cI cL b Z) (RX9, cX9_copies, 4, none, 0) z_ev 2 [(0, .ref (b + 0)), (1, .int l1), (2, .int l2), (3, .int l3)] [] μ (f_X9_copies_h2 n l1 l2 l3 μ) := by
  intro n
  induction n with
  | zero =>
    intro l1 l2 l3 μ
    exact z_none
  | succ n ih =>
    intro l1 l2 l3 μ
    unfold f_X9_copies_h2
    refine z_iload_n (pc := 2) dX9_copies_2 rfl ?_
    refine z_bipush (pc := 3) dX9_copies_3 zcb_8 ?_
    refine z_icmp_ge (pc := 5) (tgt := 80) dX9_copies_5 (by decide) (fun _ => ?_) (fun _ => ?_)
    · refine z_aload_n (pc := 8) dX9_copies_8 rfl ?_
      refine zgR_X9_44 (pc := 9) gm_0 rfl dX9_copies_9 ?_
      refine z_bipush (pc := 12) dX9_copies_12 zcb_8 ?_
      refine z_iload_n (pc := 14) dX9_copies_14 rfl ?_
      refine z_imul (pc := 15) dX9_copies_15 ?_
      refine z_iload_n (pc := 16) dX9_copies_16 rfl ?_
      refine z_iadd (pc := 17) dX9_copies_17 ?_
      refine z_aload_n (pc := 18) dX9_copies_18 rfl ?_
      refine zgR_X9_44 (pc := 19) gm_0 rfl dX9_copies_19 ?_
      refine z_bipush (pc := 22) dX9_copies_22 zcb_8 ?_
      refine z_iload_n (pc := 24) dX9_copies_24 rfl ?_
      refine z_imul (pc := 25) dX9_copies_25 ?_
      refine z_iload_n (pc := 26) dX9_copies_26 rfl ?_
      refine z_iadd (pc := 27) dX9_copies_27 ?_
      refine z_iald (pc := 28) gm_10 dX9_copies_28 ?_
      refine z_iast (pc := 29) gm_10 dX9_copies_29 ?_
      refine z_letMO (fun m1 => ?_)
      refine z_aload_n (pc := 30) dX9_copies_30 rfl ?_
      refine zgR_X9_47 (pc := 31) gm_0 rfl dX9_copies_31 ?_
      refine z_bipush (pc := 34) dX9_copies_34 zcb_8 ?_
      refine z_iload_n (pc := 36) dX9_copies_36 rfl ?_
      refine z_imul (pc := 37) dX9_copies_37 ?_
      refine z_iload_n (pc := 38) dX9_copies_38 rfl ?_
      refine z_iadd (pc := 39) dX9_copies_39 ?_
      refine z_aload_n (pc := 40) dX9_copies_40 rfl ?_
      refine zgR_X9_47 (pc := 41) gm_0 rfl dX9_copies_41 ?_
      refine z_bipush (pc := 44) dX9_copies_44 zcb_8 ?_
      refine z_iload_n (pc := 46) dX9_copies_46 rfl ?_
      refine z_imul (pc := 47) dX9_copies_47 ?_
      refine z_iload_n (pc := 48) dX9_copies_48 rfl ?_
      refine z_iadd (pc := 49) dX9_copies_49 ?_
      refine z_iald (pc := 50) gm_11 dX9_copies_50 ?_
      refine z_iast (pc := 51) gm_11 dX9_copies_51 ?_
      refine z_letMO (fun m2 => ?_)
      refine z_aload_n (pc := 52) dX9_copies_52 rfl ?_
      refine zgR_X9_50 (pc := 53) gm_0 rfl dX9_copies_53 ?_
      refine z_bipush (pc := 56) dX9_copies_56 zcb_8 ?_
      refine z_iload_n (pc := 58) dX9_copies_58 rfl ?_
      refine z_imul (pc := 59) dX9_copies_59 ?_
      refine z_iload_n (pc := 60) dX9_copies_60 rfl ?_
      refine z_iadd (pc := 61) dX9_copies_61 ?_
      refine z_aload_n (pc := 62) dX9_copies_62 rfl ?_
      refine zgR_X9_50 (pc := 63) gm_0 rfl dX9_copies_63 ?_
      refine z_bipush (pc := 66) dX9_copies_66 zcb_8 ?_
      refine z_iload_n (pc := 68) dX9_copies_68 rfl ?_
      refine z_imul (pc := 69) dX9_copies_69 ?_
      refine z_iload_n (pc := 70) dX9_copies_70 rfl ?_
      refine z_iadd (pc := 71) dX9_copies_71 ?_
      refine z_iald (pc := 72) gm_12 dX9_copies_72 ?_
      refine z_iast (pc := 73) gm_12 dX9_copies_73 ?_
      refine z_letMO (fun m3 => ?_)
      refine z_iinc (pc := 74) (v := (l3 + 1)) (L' := [(0, .ref (b + 0)), (1, .int l1), (2, .int l2), (3, .int (l3 + 1))]) dX9_copies_74 rfl (by decide) rfl rfl ?_
      refine z_goto (pc := 77) (tgt := 2) dX9_copies_77 (by decide) ?_
      exact ih l1 l2 (l3 + 1) m3
    · refine z_iconst (pc := 80) dX9_copies_80 zci_0 ?_
      refine z_istore_n (pc := 81) (L' := [(0, .ref (b + 0)), (1, .int l1), (2, .int l2), (3, .int 0)]) dX9_copies_81 (by decide) rfl ?_
      exact w_X9_copies_82 n l1 l2 0 μ

set_option maxRecDepth 20000 in
theorem w_X9_copies_0 {D : va_G} {cI cL : ClassId} {b : Nat} {Z : State → Heap → Prop}  (n : Nat) (a1 : Int32) (a2 : Int32) (μ : z_M) : z_w (zEm D cI cL b Z) (RX9, cX9_copies, 4, none, 0) z_ev 0 [(0, .ref (b + 0)), (1, .int a1), (2, .int a2)] [] μ ((f_X9_copies n a1 a2 μ)) := by
  unfold f_X9_copies
  refine z_iconst (pc := 0) dX9_copies_0 zci_0 ?_
  refine z_istore_n (pc := 1) (L' := [(0, .ref (b + 0)), (1, .int a1), (2, .int a2), (3, .int 0)]) dX9_copies_1 (by decide) rfl ?_
  exact w_X9_copies_2 n a1 a2 0 μ

set_option maxRecDepth 20000 in
theorem c_X9_copies {D : va_G} {cI cL : ClassId} {b : Nat} {Z : State → Heap → Prop}  (n : Nat) (a1 : Int32) (a2 : Int32) (μ : z_M) : z_S (zEm D cI cL b Z) 0 yX9_copies cX9_copies 4 none z_ev [.ref (b + 0), .int a1, .int a2] μ ((f_X9_copies n a1 a2 μ)) :=
  z_entry (yn := yX9_copies) (by decide) (Nat.le_of_ble_eq_true rfl) rfl (w_X9_copies_0 n a1 a2 μ)

def f_X9_begins_h2 : Nat → Int32 → Int32 → z_M → Option (Unit × z_M)
  | 0, _, _, _ => none
  | n + 1, l1, l2, μ =>
    if l2 < 8 then (z_chk ((8 * l1) + l2) 72 (z_let (z_sI μ 12 (z_ix ((8 * l1) + l2)) 0) (fun m1 => f_X9_begins_h2 n l1 (l2 + 1) m1))) else (z_chk l1 9 (z_let (z_sI μ 15 (z_ix l1) 0) (fun m2 => z_chk l1 9 (z_let (z_sL m2 17 (z_ix l1) 1) (fun m3 => some ((), m3))))))
def f_X9_begins (n : Nat) (a1 : Int32) (μ : z_M) : Option (Unit × z_M) :=
  f_X9_begins_h2 n a1 0 μ
set_option maxRecDepth 20000 in
theorem w_X9_begins_2 {D : va_G} {cI cL : ClassId} {b : Nat} {Z : State → Heap → Prop}  : ∀ (n : Nat) (l1 : Int32) (l2 : Int32) (μ : z_M), z_w (zEm D cI cL b Z) (RX9, cX9_begins, 3, none, 0) z_ev 2 [(0, .ref (b + 0)), (1, .int l1), (2, .int l2)] [] μ (f_X9_begins_h2 n l1 l2 μ) := by
  intro n
  induction n with
  | zero =>
    intro l1 l2 μ
    exact z_none
  | succ n ih =>
    intro l1 l2 μ
    unfold f_X9_begins_h2
    refine z_iload_n (pc := 2) dX9_begins_2 rfl ?_
    refine z_bipush (pc := 3) dX9_begins_3 zcb_8 ?_
    refine z_icmp_ge (pc := 5) (tgt := 26) dX9_begins_5 (by decide) (fun _ => ?_) (fun _ => ?_)
    · refine z_aload_n (pc := 8) dX9_begins_8 rfl ?_
      refine zgR_X9_50 (pc := 9) gm_0 rfl dX9_begins_9 ?_
      refine z_bipush (pc := 12) dX9_begins_12 zcb_8 ?_
      refine z_iload_n (pc := 14) dX9_begins_14 rfl ?_
      refine z_imul (pc := 15) dX9_begins_15 ?_
      refine z_iload_n (pc := 16) dX9_begins_16 rfl ?_
      refine z_iadd (pc := 17) dX9_begins_17 ?_
      refine z_iconst (pc := 18) dX9_begins_18 zci_0 ?_
      refine z_iast (pc := 19) gm_12 dX9_begins_19 ?_
      refine z_letMO (fun m1 => ?_)
      refine z_iinc (pc := 20) (v := (l2 + 1)) (L' := [(0, .ref (b + 0)), (1, .int l1), (2, .int (l2 + 1))]) dX9_begins_20 rfl (by decide) rfl rfl ?_
      refine z_goto (pc := 23) (tgt := 2) dX9_begins_23 (by decide) ?_
      exact ih l1 (l2 + 1) m1
    · refine z_aload_n (pc := 26) dX9_begins_26 rfl ?_
      refine zgR_X9_59 (pc := 27) gm_0 rfl dX9_begins_27 ?_
      refine z_iload_n (pc := 30) dX9_begins_30 rfl ?_
      refine z_iconst (pc := 31) dX9_begins_31 zci_0 ?_
      refine z_iast (pc := 32) gm_15 dX9_begins_32 ?_
      refine z_letMO (fun m2 => ?_)
      refine z_aload_n (pc := 33) dX9_begins_33 rfl ?_
      refine zgR_X9_65 (pc := 34) gm_0 rfl dX9_begins_34 ?_
      refine z_iload_n (pc := 37) dX9_begins_37 rfl ?_
      refine z_lconst (pc := 38) dX9_begins_38 zcl_1 ?_
      refine z_last (pc := 39) gm_17 dX9_begins_39 ?_
      refine z_letMO (fun m3 => ?_)
      exact z_vret (pc := 40) rfl dX9_begins_40

set_option maxRecDepth 20000 in
theorem w_X9_begins_0 {D : va_G} {cI cL : ClassId} {b : Nat} {Z : State → Heap → Prop}  (n : Nat) (a1 : Int32) (μ : z_M) : z_w (zEm D cI cL b Z) (RX9, cX9_begins, 3, none, 0) z_ev 0 [(0, .ref (b + 0)), (1, .int a1)] [] μ ((f_X9_begins n a1 μ)) := by
  unfold f_X9_begins
  refine z_iconst (pc := 0) dX9_begins_0 zci_0 ?_
  refine z_istore_n (pc := 1) (L' := [(0, .ref (b + 0)), (1, .int a1), (2, .int 0)]) dX9_begins_1 (by decide) rfl ?_
  exact w_X9_begins_2 n a1 0 μ

set_option maxRecDepth 20000 in
theorem c_X9_begins {D : va_G} {cI cL : ClassId} {b : Nat} {Z : State → Heap → Prop}  (n : Nat) (a1 : Int32) (μ : z_M) : z_S (zEm D cI cL b Z) 0 yX9_begins cX9_begins 3 none z_ev [.ref (b + 0), .int a1] μ ((f_X9_begins n a1 μ)) :=
  z_entry (yn := yX9_begins) (by decide) (Nat.le_of_ble_eq_true rfl) rfl (w_X9_begins_0 n a1 μ)

def f_X9_betweenOf_b102 (r5 : Int32 → Int32 → Int32 → Int32 → z_M → Option (Int32 × z_M)) (n : Nat) (l1 : Int32) (l2 : Int32) (l3 : Int32) (l4 : Int32) (μ : z_M) : Option (Int32 × z_M) :=
  r5 l1 l2 l3 (l4 + 1) μ
def f_X9_betweenOf_b99 (r5 : Int32 → Int32 → Int32 → Int32 → z_M → Option (Int32 × z_M)) (n : Nat) (l1 : Int32) (l2 : Int32) (l4 : Int32) (μ : z_M) : Option (Int32 × z_M) :=
  f_X9_betweenOf_b102 r5 n l1 l2 l4 l4 μ
def f_X9_betweenOf_b63 (r5 : Int32 → Int32 → Int32 → Int32 → z_M → Option (Int32 × z_M)) (n : Nat) (l1 : Int32) (l2 : Int32) (l3 : Int32) (l4 : Int32) (s0 : Int32) (μ : z_M) : Option (Int32 × z_M) :=
  if s0 = 0 then (f_X9_betweenOf_b102 r5 n l1 l2 l3 l4 μ) else (z_bind (f_X9_isOpen l4 μ) (fun p1 => if p1.1 = 0 then (f_X9_betweenOf_b102 r5 n l1 l2 l3 l4 p1.2) else (if l3 < 0 then (f_X9_betweenOf_b99 r5 n l1 l2 l4 p1.2) else (z_chk l4 12 (z_chk l3 12 (if (p1.2.1 7 (z_ix l4)) < (p1.2.1 7 (z_ix l3)) then (f_X9_betweenOf_b99 r5 n l1 l2 l4 p1.2) else (f_X9_betweenOf_b102 r5 n l1 l2 l3 l4 p1.2)))))))
def f_X9_betweenOf_b58 (r5 : Int32 → Int32 → Int32 → Int32 → z_M → Option (Int32 × z_M)) (n : Nat) (l1 : Int32) (l2 : Int32) (l3 : Int32) (l4 : Int32) (μ : z_M) : Option (Int32 × z_M) :=
  f_X9_betweenOf_b63 r5 n l1 l2 l3 l4 1 μ
def f_X9_betweenOf_b62 (r5 : Int32 → Int32 → Int32 → Int32 → z_M → Option (Int32 × z_M)) (n : Nat) (l1 : Int32) (l2 : Int32) (l3 : Int32) (l4 : Int32) (μ : z_M) : Option (Int32 × z_M) :=
  f_X9_betweenOf_b63 r5 n l1 l2 l3 l4 0 μ
def f_X9_betweenOf_b36 (r5 : Int32 → Int32 → Int32 → Int32 → z_M → Option (Int32 × z_M)) (n : Nat) (l1 : Int32) (l2 : Int32) (l3 : Int32) (l4 : Int32) (μ : z_M) : Option (Int32 × z_M) :=
  z_chk l4 12 (if (μ.1 5 (z_ix l4)) = l2 then (z_chk l4 12 (if (μ.1 6 (z_ix l4)) = l1 then (f_X9_betweenOf_b58 r5 n l1 l2 l3 l4 μ) else (f_X9_betweenOf_b62 r5 n l1 l2 l3 l4 μ))) else (f_X9_betweenOf_b62 r5 n l1 l2 l3 l4 μ))
def f_X9_betweenOf_h5 : Nat → Int32 → Int32 → Int32 → Int32 → z_M → Option (Int32 × z_M)
  | 0, _, _, _, _, _ => none
  | n + 1, l1, l2, l3, l4, μ =>
    if l4 < (μ.1 0 9) then (z_chk l4 12 (if (μ.1 5 (z_ix l4)) = l1 then (z_chk l4 12 (if (μ.1 6 (z_ix l4)) = l2 then (f_X9_betweenOf_b58 (f_X9_betweenOf_h5 n) n l1 l2 l3 l4 μ) else (f_X9_betweenOf_b36 (f_X9_betweenOf_h5 n) n l1 l2 l3 l4 μ))) else (f_X9_betweenOf_b36 (f_X9_betweenOf_h5 n) n l1 l2 l3 l4 μ))) else (some (l3, μ))
def f_X9_betweenOf (n : Nat) (a1 : Int32) (a2 : Int32) (μ : z_M) : Option (Int32 × z_M) :=
  f_X9_betweenOf_h5 n a1 a2 (-1) 0 μ
set_option maxRecDepth 20000 in
theorem w_X9_betweenOf_102 {D : va_G} {cI cL : ClassId} {b : Nat} {Z : State → Heap → Prop}  (r5 : Int32 → Int32 → Int32 → Int32 → z_M → Option (Int32 × z_M)) (hr5 : ∀ (l1 : Int32) (l2 : Int32) (l3 : Int32) (l4 : Int32) (μ : z_M), z_w (zEm D cI cL b Z) (RX9, cX9_betweenOf, 6, (some .int), 1) z_ei 5 [(0, .ref (b + 0)), (1, .int l1), (2, .int l2), (3, .int l3), (4, .int l4)] [] μ ((r5 l1 l2 l3 l4 μ))) (n : Nat) (l1 : Int32) (l2 : Int32) (l3 : Int32) (l4 : Int32) (μ : z_M) : z_w (zEm D cI cL b Z) (RX9, cX9_betweenOf, 6, (some .int), 1) z_ei 102 [(0, .ref (b + 0)), (1, .int l1), (2, .int l2), (3, .int l3), (4, .int l4)] [] μ ((f_X9_betweenOf_b102 r5 n l1 l2 l3 l4 μ)) := by
  unfold f_X9_betweenOf_b102
  refine z_iinc (pc := 102) (v := (l4 + 1)) (L' := [(0, .ref (b + 0)), (1, .int l1), (2, .int l2), (3, .int l3), (4, .int (l4 + 1))]) dX9_betweenOf_102 rfl (by decide) rfl rfl ?_
  refine z_goto (pc := 105) (tgt := 5) dX9_betweenOf_105 (by decide) ?_
  exact hr5 l1 l2 l3 (l4 + 1) μ

set_option maxRecDepth 20000 in
theorem w_X9_betweenOf_99 {D : va_G} {cI cL : ClassId} {b : Nat} {Z : State → Heap → Prop}  (r5 : Int32 → Int32 → Int32 → Int32 → z_M → Option (Int32 × z_M)) (hr5 : ∀ (l1 : Int32) (l2 : Int32) (l3 : Int32) (l4 : Int32) (μ : z_M), z_w (zEm D cI cL b Z) (RX9, cX9_betweenOf, 6, (some .int), 1) z_ei 5 [(0, .ref (b + 0)), (1, .int l1), (2, .int l2), (3, .int l3), (4, .int l4)] [] μ ((r5 l1 l2 l3 l4 μ))) (n : Nat) (l1 : Int32) (l2 : Int32) (l4 : Int32) (μ : z_M) : z_w (zEm D cI cL b Z) (RX9, cX9_betweenOf, 6, (some .int), 1) z_ei 99 [(0, .ref (b + 0)), (1, .int l1), (2, .int l2), (4, .int l4)] [] μ ((f_X9_betweenOf_b99 r5 n l1 l2 l4 μ)) := by
  unfold f_X9_betweenOf_b99
  refine z_iload (pc := 99) dX9_betweenOf_99 rfl ?_
  refine z_istore_n (pc := 101) (L' := [(0, .ref (b + 0)), (1, .int l1), (2, .int l2), (3, .int l4), (4, .int l4)]) dX9_betweenOf_101 (by decide) rfl ?_
  exact w_X9_betweenOf_102 _ hr5 n l1 l2 l4 l4 μ

set_option maxRecDepth 20000 in
theorem w_X9_betweenOf_63 {D : va_G} {cI cL : ClassId} {b : Nat} {Z : State → Heap → Prop}  (r5 : Int32 → Int32 → Int32 → Int32 → z_M → Option (Int32 × z_M)) (hr5 : ∀ (l1 : Int32) (l2 : Int32) (l3 : Int32) (l4 : Int32) (μ : z_M), z_w (zEm D cI cL b Z) (RX9, cX9_betweenOf, 6, (some .int), 1) z_ei 5 [(0, .ref (b + 0)), (1, .int l1), (2, .int l2), (3, .int l3), (4, .int l4)] [] μ ((r5 l1 l2 l3 l4 μ))) (n : Nat) (l1 : Int32) (l2 : Int32) (l3 : Int32) (l4 : Int32) (s0 : Int32) (μ : z_M) : z_w (zEm D cI cL b Z) (RX9, cX9_betweenOf, 6, (some .int), 1) z_ei 63 [(0, .ref (b + 0)), (1, .int l1), (2, .int l2), (3, .int l3), (4, .int l4)] [.int s0] μ ((f_X9_betweenOf_b63 r5 n l1 l2 l3 l4 s0 μ)) := by
  unfold f_X9_betweenOf_b63
  refine z_istore (pc := 63) (L' := [(0, .ref (b + 0)), (1, .int l1), (2, .int l2), (3, .int l3), (4, .int l4), (5, .int s0)]) dX9_betweenOf_63 (by decide) rfl ?_
  refine z_iload (pc := 65) dX9_betweenOf_65 rfl ?_
  refine z_if_eq (pc := 67) (tgt := 102) dX9_betweenOf_67 (by decide) (fun _ => ?_) (fun _ => ?_)
  · refine z_drop (L' := [(0, .ref (b + 0)), (1, .int l1), (2, .int l2), (3, .int l3), (4, .int l4)]) [0, 1, 2, 3, 4] rfl ?_
    exact w_X9_betweenOf_102 _ hr5 n l1 l2 l3 l4 μ
  · refine z_aload_n (pc := 70) dX9_betweenOf_70 rfl ?_
    refine z_iload (pc := 71) dX9_betweenOf_71 rfl ?_
    refine z_bindP (fun p1 hp1 => ?_)
    refine z_callVi (pc := 73) (As := [.int l4]) (S := []) (c_X9_isOpen l4 μ) hp1 zw_X9_isOpen zv_X9_isOpen zm_X9_119 (n := 1) (by decide) rfl (z_recv gm_0 (T := TX9) (N := 52) rfl) rfl (Nat.le_of_ble_eq_true rfl) (by decide) (by decide) dX9_betweenOf_73 ?_
    refine z_if_eq (pc := 76) (tgt := 102) dX9_betweenOf_76 (by decide) (fun _ => ?_) (fun _ => ?_)
    · refine z_drop (L' := [(0, .ref (b + 0)), (1, .int l1), (2, .int l2), (3, .int l3), (4, .int l4)]) [0, 1, 2, 3, 4] rfl ?_
      exact w_X9_betweenOf_102 _ hr5 n l1 l2 l3 l4 p1.2
    · refine z_iload_n (pc := 79) dX9_betweenOf_79 rfl ?_
      refine z_if_lt (pc := 80) (tgt := 99) dX9_betweenOf_80 (by decide) (fun _ => ?_) (fun _ => ?_)
      · refine z_drop (L' := [(0, .ref (b + 0)), (1, .int l1), (2, .int l2), (4, .int l4)]) [0, 1, 2, 4] rfl ?_
        exact w_X9_betweenOf_99 _ hr5 n l1 l2 l4 p1.2
      · refine z_aload_n (pc := 83) dX9_betweenOf_83 rfl ?_
        refine zgR_X9_28 (pc := 84) gm_0 rfl dX9_betweenOf_84 ?_
        refine z_iload (pc := 87) dX9_betweenOf_87 rfl ?_
        refine z_iald (pc := 89) gm_7 dX9_betweenOf_89 ?_
        refine z_aload_n (pc := 90) dX9_betweenOf_90 rfl ?_
        refine zgR_X9_28 (pc := 91) gm_0 rfl dX9_betweenOf_91 ?_
        refine z_iload_n (pc := 94) dX9_betweenOf_94 rfl ?_
        refine z_iald (pc := 95) gm_7 dX9_betweenOf_95 ?_
        refine z_icmp_ge (pc := 96) (tgt := 102) dX9_betweenOf_96 (by decide) (fun _ => ?_) (fun _ => ?_)
        · refine z_drop (L' := [(0, .ref (b + 0)), (1, .int l1), (2, .int l2), (4, .int l4)]) [0, 1, 2, 4] rfl ?_
          exact w_X9_betweenOf_99 _ hr5 n l1 l2 l4 p1.2
        · refine z_drop (L' := [(0, .ref (b + 0)), (1, .int l1), (2, .int l2), (3, .int l3), (4, .int l4)]) [0, 1, 2, 3, 4] rfl ?_
          exact w_X9_betweenOf_102 _ hr5 n l1 l2 l3 l4 p1.2

set_option maxRecDepth 20000 in
theorem w_X9_betweenOf_58 {D : va_G} {cI cL : ClassId} {b : Nat} {Z : State → Heap → Prop}  (r5 : Int32 → Int32 → Int32 → Int32 → z_M → Option (Int32 × z_M)) (hr5 : ∀ (l1 : Int32) (l2 : Int32) (l3 : Int32) (l4 : Int32) (μ : z_M), z_w (zEm D cI cL b Z) (RX9, cX9_betweenOf, 6, (some .int), 1) z_ei 5 [(0, .ref (b + 0)), (1, .int l1), (2, .int l2), (3, .int l3), (4, .int l4)] [] μ ((r5 l1 l2 l3 l4 μ))) (n : Nat) (l1 : Int32) (l2 : Int32) (l3 : Int32) (l4 : Int32) (μ : z_M) : z_w (zEm D cI cL b Z) (RX9, cX9_betweenOf, 6, (some .int), 1) z_ei 58 [(0, .ref (b + 0)), (1, .int l1), (2, .int l2), (3, .int l3), (4, .int l4)] [] μ ((f_X9_betweenOf_b58 r5 n l1 l2 l3 l4 μ)) := by
  unfold f_X9_betweenOf_b58
  refine z_iconst (pc := 58) dX9_betweenOf_58 zci_1 ?_
  refine z_goto (pc := 59) (tgt := 63) dX9_betweenOf_59 (by decide) ?_
  exact w_X9_betweenOf_63 _ hr5 n l1 l2 l3 l4 1 μ

set_option maxRecDepth 20000 in
theorem w_X9_betweenOf_62 {D : va_G} {cI cL : ClassId} {b : Nat} {Z : State → Heap → Prop}  (r5 : Int32 → Int32 → Int32 → Int32 → z_M → Option (Int32 × z_M)) (hr5 : ∀ (l1 : Int32) (l2 : Int32) (l3 : Int32) (l4 : Int32) (μ : z_M), z_w (zEm D cI cL b Z) (RX9, cX9_betweenOf, 6, (some .int), 1) z_ei 5 [(0, .ref (b + 0)), (1, .int l1), (2, .int l2), (3, .int l3), (4, .int l4)] [] μ ((r5 l1 l2 l3 l4 μ))) (n : Nat) (l1 : Int32) (l2 : Int32) (l3 : Int32) (l4 : Int32) (μ : z_M) : z_w (zEm D cI cL b Z) (RX9, cX9_betweenOf, 6, (some .int), 1) z_ei 62 [(0, .ref (b + 0)), (1, .int l1), (2, .int l2), (3, .int l3), (4, .int l4)] [] μ ((f_X9_betweenOf_b62 r5 n l1 l2 l3 l4 μ)) := by
  unfold f_X9_betweenOf_b62
  refine z_iconst (pc := 62) dX9_betweenOf_62 zci_0 ?_
  exact w_X9_betweenOf_63 _ hr5 n l1 l2 l3 l4 0 μ

set_option maxRecDepth 20000 in
theorem w_X9_betweenOf_36 {D : va_G} {cI cL : ClassId} {b : Nat} {Z : State → Heap → Prop}  (r5 : Int32 → Int32 → Int32 → Int32 → z_M → Option (Int32 × z_M)) (hr5 : ∀ (l1 : Int32) (l2 : Int32) (l3 : Int32) (l4 : Int32) (μ : z_M), z_w (zEm D cI cL b Z) (RX9, cX9_betweenOf, 6, (some .int), 1) z_ei 5 [(0, .ref (b + 0)), (1, .int l1), (2, .int l2), (3, .int l3), (4, .int l4)] [] μ ((r5 l1 l2 l3 l4 μ))) (n : Nat) (l1 : Int32) (l2 : Int32) (l3 : Int32) (l4 : Int32) (μ : z_M) : z_w (zEm D cI cL b Z) (RX9, cX9_betweenOf, 6, (some .int), 1) z_ei 36 [(0, .ref (b + 0)), (1, .int l1), (2, .int l2), (3, .int l3), (4, .int l4)] [] μ ((f_X9_betweenOf_b36 r5 n l1 l2 l3 l4 μ)) := by
  unfold f_X9_betweenOf_b36
  refine z_aload_n (pc := 36) dX9_betweenOf_36 rfl ?_
  refine zgR_X9_22 (pc := 37) gm_0 rfl dX9_betweenOf_37 ?_
  refine z_iload (pc := 40) dX9_betweenOf_40 rfl ?_
  refine z_iald (pc := 42) gm_5 dX9_betweenOf_42 ?_
  refine z_iload_n (pc := 43) dX9_betweenOf_43 rfl ?_
  refine z_icmp_ne (pc := 44) (tgt := 62) dX9_betweenOf_44 (by decide) (fun _ => ?_) (fun _ => ?_)
  · refine z_aload_n (pc := 47) dX9_betweenOf_47 rfl ?_
    refine zgR_X9_25 (pc := 48) gm_0 rfl dX9_betweenOf_48 ?_
    refine z_iload (pc := 51) dX9_betweenOf_51 rfl ?_
    refine z_iald (pc := 53) gm_6 dX9_betweenOf_53 ?_
    refine z_iload_n (pc := 54) dX9_betweenOf_54 rfl ?_
    refine z_icmp_ne (pc := 55) (tgt := 62) dX9_betweenOf_55 (by decide) (fun _ => ?_) (fun _ => ?_)
    · exact w_X9_betweenOf_58 _ hr5 n l1 l2 l3 l4 μ
    · exact w_X9_betweenOf_62 _ hr5 n l1 l2 l3 l4 μ
  · exact w_X9_betweenOf_62 _ hr5 n l1 l2 l3 l4 μ

set_option maxRecDepth 20000 in
theorem w_X9_betweenOf_5 {D : va_G} {cI cL : ClassId} {b : Nat} {Z : State → Heap → Prop}  : ∀ (n : Nat) (l1 : Int32) (l2 : Int32) (l3 : Int32) (l4 : Int32) (μ : z_M), z_w (zEm D cI cL b Z) (RX9, cX9_betweenOf, 6, (some .int), 1) z_ei 5 [(0, .ref (b + 0)), (1, .int l1), (2, .int l2), (3, .int l3), (4, .int l4)] [] μ (f_X9_betweenOf_h5 n l1 l2 l3 l4 μ) := by
  intro n
  induction n with
  | zero =>
    intro l1 l2 l3 l4 μ
    exact z_none
  | succ n ih =>
    intro l1 l2 l3 l4 μ
    unfold f_X9_betweenOf_h5
    refine z_iload (pc := 5) dX9_betweenOf_5 rfl ?_
    refine z_aload_n (pc := 7) dX9_betweenOf_7 rfl ?_
    refine zgI_X9_105 (pc := 8) gm_0 rfl dX9_betweenOf_8 ?_
    refine z_icmp_ge (pc := 11) (tgt := 108) dX9_betweenOf_11 (by decide) (fun _ => ?_) (fun _ => ?_)
    · refine z_aload_n (pc := 14) dX9_betweenOf_14 rfl ?_
      refine zgR_X9_22 (pc := 15) gm_0 rfl dX9_betweenOf_15 ?_
      refine z_iload (pc := 18) dX9_betweenOf_18 rfl ?_
      refine z_iald (pc := 20) gm_5 dX9_betweenOf_20 ?_
      refine z_iload_n (pc := 21) dX9_betweenOf_21 rfl ?_
      refine z_icmp_ne (pc := 22) (tgt := 36) dX9_betweenOf_22 (by decide) (fun _ => ?_) (fun _ => ?_)
      · refine z_aload_n (pc := 25) dX9_betweenOf_25 rfl ?_
        refine zgR_X9_25 (pc := 26) gm_0 rfl dX9_betweenOf_26 ?_
        refine z_iload (pc := 29) dX9_betweenOf_29 rfl ?_
        refine z_iald (pc := 31) gm_6 dX9_betweenOf_31 ?_
        refine z_iload_n (pc := 32) dX9_betweenOf_32 rfl ?_
        refine z_icmp_eq (pc := 33) (tgt := 58) dX9_betweenOf_33 (by decide) (fun _ => ?_) (fun _ => ?_)
        · exact w_X9_betweenOf_58 _ ih n l1 l2 l3 l4 μ
        · exact w_X9_betweenOf_36 _ ih n l1 l2 l3 l4 μ
      · exact w_X9_betweenOf_36 _ ih n l1 l2 l3 l4 μ
    · refine z_iload_n (pc := 108) dX9_betweenOf_108 rfl ?_
      exact z_iret (pc := 109) rfl dX9_betweenOf_109

set_option maxRecDepth 20000 in
theorem w_X9_betweenOf_0 {D : va_G} {cI cL : ClassId} {b : Nat} {Z : State → Heap → Prop}  (n : Nat) (a1 : Int32) (a2 : Int32) (μ : z_M) : z_w (zEm D cI cL b Z) (RX9, cX9_betweenOf, 6, (some .int), 1) z_ei 0 [(0, .ref (b + 0)), (1, .int a1), (2, .int a2)] [] μ ((f_X9_betweenOf n a1 a2 μ)) := by
  unfold f_X9_betweenOf
  refine z_iconst (pc := 0) dX9_betweenOf_0 zci_m1 ?_
  refine z_istore_n (pc := 1) (L' := [(0, .ref (b + 0)), (1, .int a1), (2, .int a2), (3, .int (-1))]) dX9_betweenOf_1 (by decide) rfl ?_
  refine z_iconst (pc := 2) dX9_betweenOf_2 zci_0 ?_
  refine z_istore (pc := 3) (L' := [(0, .ref (b + 0)), (1, .int a1), (2, .int a2), (3, .int (-1)), (4, .int 0)]) dX9_betweenOf_3 (by decide) rfl ?_
  exact w_X9_betweenOf_5 n a1 a2 (-1) 0 μ

set_option maxRecDepth 20000 in
theorem c_X9_betweenOf {D : va_G} {cI cL : ClassId} {b : Nat} {Z : State → Heap → Prop}  (n : Nat) (a1 : Int32) (a2 : Int32) (μ : z_M) : z_S (zEm D cI cL b Z) 1 yX9_betweenOf cX9_betweenOf 6 (some .int) z_ei [.ref (b + 0), .int a1, .int a2] μ ((f_X9_betweenOf n a1 a2 μ)) :=
  z_entry (yn := yX9_betweenOf) (by decide) (Nat.le_of_ble_eq_true rfl) rfl (w_X9_betweenOf_0 n a1 a2 μ)

def f_X9_openAt_b46 (r4 : Int32 → Int32 → Int32 → z_M → Option (Int32 × z_M)) (n : Nat) (l1 : Int32) (l3 : Int32) (s0 : Int32) (s1 : Int32) (μ : z_M) : Option (Int32 × z_M) :=
  z_let ((s1 + s0) : Int32) (fun x2 => r4 l1 x2 (l3 + 1) μ)
def f_X9_openAt_b45 (r4 : Int32 → Int32 → Int32 → z_M → Option (Int32 × z_M)) (n : Nat) (l1 : Int32) (l3 : Int32) (s0 : Int32) (μ : z_M) : Option (Int32 × z_M) :=
  f_X9_openAt_b46 r4 n l1 l3 0 s0 μ
def f_X9_openAt_b41 (r4 : Int32 → Int32 → Int32 → z_M → Option (Int32 × z_M)) (n : Nat) (l1 : Int32) (l3 : Int32) (s0 : Int32) (μ : z_M) : Option (Int32 × z_M) :=
  f_X9_openAt_b46 r4 n l1 l3 1 s0 μ
def f_X9_openAt_h4 : Nat → Int32 → Int32 → Int32 → z_M → Option (Int32 × z_M)
  | 0, _, _, _, _ => none
  | n + 1, l1, l2, l3, μ =>
    if l3 < (μ.1 0 9) then (z_bind (f_X9_isOpen l3 μ) (fun p1 => if p1.1 = 0 then (f_X9_openAt_b45 (f_X9_openAt_h4 n) n l1 l3 l2 p1.2) else (z_chk l3 12 (if (p1.2.1 5 (z_ix l3)) = l1 then (f_X9_openAt_b41 (f_X9_openAt_h4 n) n l1 l3 l2 p1.2) else (z_chk l3 12 (if (p1.2.1 6 (z_ix l3)) = l1 then (f_X9_openAt_b41 (f_X9_openAt_h4 n) n l1 l3 l2 p1.2) else (f_X9_openAt_b45 (f_X9_openAt_h4 n) n l1 l3 l2 p1.2))))))) else (some (l2, μ))
def f_X9_openAt (n : Nat) (a1 : Int32) (μ : z_M) : Option (Int32 × z_M) :=
  f_X9_openAt_h4 n a1 0 0 μ
set_option maxRecDepth 20000 in
theorem w_X9_openAt_46 {D : va_G} {cI cL : ClassId} {b : Nat} {Z : State → Heap → Prop}  (r4 : Int32 → Int32 → Int32 → z_M → Option (Int32 × z_M)) (hr4 : ∀ (l1 : Int32) (l2 : Int32) (l3 : Int32) (μ : z_M), z_w (zEm D cI cL b Z) (RX9, cX9_openAt, 4, (some .int), 1) z_ei 4 [(0, .ref (b + 0)), (1, .int l1), (2, .int l2), (3, .int l3)] [] μ ((r4 l1 l2 l3 μ))) (n : Nat) (l1 : Int32) (l3 : Int32) (s0 : Int32) (s1 : Int32) (μ : z_M) : z_w (zEm D cI cL b Z) (RX9, cX9_openAt, 4, (some .int), 1) z_ei 46 [(0, .ref (b + 0)), (1, .int l1), (3, .int l3)] [.int s0, .int s1] μ ((f_X9_openAt_b46 r4 n l1 l3 s0 s1 μ)) := by
  unfold f_X9_openAt_b46
  refine z_iadd (pc := 46) dX9_openAt_46 ?_
  refine z_letIO (fun x2 => ?_)
  refine z_istore_n (pc := 47) (L' := [(0, .ref (b + 0)), (1, .int l1), (2, .int x2), (3, .int l3)]) dX9_openAt_47 (by decide) rfl ?_
  refine z_iinc (pc := 48) (v := (l3 + 1)) (L' := [(0, .ref (b + 0)), (1, .int l1), (2, .int x2), (3, .int (l3 + 1))]) dX9_openAt_48 rfl (by decide) rfl rfl ?_
  refine z_goto (pc := 51) (tgt := 4) dX9_openAt_51 (by decide) ?_
  exact hr4 l1 x2 (l3 + 1) μ

set_option maxRecDepth 20000 in
theorem w_X9_openAt_45 {D : va_G} {cI cL : ClassId} {b : Nat} {Z : State → Heap → Prop}  (r4 : Int32 → Int32 → Int32 → z_M → Option (Int32 × z_M)) (hr4 : ∀ (l1 : Int32) (l2 : Int32) (l3 : Int32) (μ : z_M), z_w (zEm D cI cL b Z) (RX9, cX9_openAt, 4, (some .int), 1) z_ei 4 [(0, .ref (b + 0)), (1, .int l1), (2, .int l2), (3, .int l3)] [] μ ((r4 l1 l2 l3 μ))) (n : Nat) (l1 : Int32) (l3 : Int32) (s0 : Int32) (μ : z_M) : z_w (zEm D cI cL b Z) (RX9, cX9_openAt, 4, (some .int), 1) z_ei 45 [(0, .ref (b + 0)), (1, .int l1), (3, .int l3)] [.int s0] μ ((f_X9_openAt_b45 r4 n l1 l3 s0 μ)) := by
  unfold f_X9_openAt_b45
  refine z_iconst (pc := 45) dX9_openAt_45 zci_0 ?_
  exact w_X9_openAt_46 _ hr4 n l1 l3 0 s0 μ

set_option maxRecDepth 20000 in
theorem w_X9_openAt_41 {D : va_G} {cI cL : ClassId} {b : Nat} {Z : State → Heap → Prop}  (r4 : Int32 → Int32 → Int32 → z_M → Option (Int32 × z_M)) (hr4 : ∀ (l1 : Int32) (l2 : Int32) (l3 : Int32) (μ : z_M), z_w (zEm D cI cL b Z) (RX9, cX9_openAt, 4, (some .int), 1) z_ei 4 [(0, .ref (b + 0)), (1, .int l1), (2, .int l2), (3, .int l3)] [] μ ((r4 l1 l2 l3 μ))) (n : Nat) (l1 : Int32) (l3 : Int32) (s0 : Int32) (μ : z_M) : z_w (zEm D cI cL b Z) (RX9, cX9_openAt, 4, (some .int), 1) z_ei 41 [(0, .ref (b + 0)), (1, .int l1), (3, .int l3)] [.int s0] μ ((f_X9_openAt_b41 r4 n l1 l3 s0 μ)) := by
  unfold f_X9_openAt_b41
  refine z_iconst (pc := 41) dX9_openAt_41 zci_1 ?_
  refine z_goto (pc := 42) (tgt := 46) dX9_openAt_42 (by decide) ?_
  exact w_X9_openAt_46 _ hr4 n l1 l3 1 s0 μ

set_option maxRecDepth 20000 in
theorem w_X9_openAt_4 {D : va_G} {cI cL : ClassId} {b : Nat} {Z : State → Heap → Prop}  : ∀ (n : Nat) (l1 : Int32) (l2 : Int32) (l3 : Int32) (μ : z_M), z_w (zEm D cI cL b Z) (RX9, cX9_openAt, 4, (some .int), 1) z_ei 4 [(0, .ref (b + 0)), (1, .int l1), (2, .int l2), (3, .int l3)] [] μ (f_X9_openAt_h4 n l1 l2 l3 μ) := by
  intro n
  induction n with
  | zero =>
    intro l1 l2 l3 μ
    exact z_none
  | succ n ih =>
    intro l1 l2 l3 μ
    unfold f_X9_openAt_h4
    refine z_iload_n (pc := 4) dX9_openAt_4 rfl ?_
    refine z_aload_n (pc := 5) dX9_openAt_5 rfl ?_
    refine zgI_X9_105 (pc := 6) gm_0 rfl dX9_openAt_6 ?_
    refine z_icmp_ge (pc := 9) (tgt := 54) dX9_openAt_9 (by decide) (fun _ => ?_) (fun _ => ?_)
    · refine z_iload_n (pc := 12) dX9_openAt_12 rfl ?_
      refine z_aload_n (pc := 13) dX9_openAt_13 rfl ?_
      refine z_iload_n (pc := 14) dX9_openAt_14 rfl ?_
      refine z_bindP (fun p1 hp1 => ?_)
      refine z_callVi (pc := 15) (As := [.int l3]) (S := [.int l2]) (c_X9_isOpen l3 μ) hp1 zw_X9_isOpen zv_X9_isOpen zm_X9_119 (n := 1) (by decide) rfl (z_recv gm_0 (T := TX9) (N := 52) rfl) rfl (Nat.le_of_ble_eq_true rfl) (by decide) (by decide) dX9_openAt_15 ?_
      refine z_if_eq (pc := 18) (tgt := 45) dX9_openAt_18 (by decide) (fun _ => ?_) (fun _ => ?_)
      · refine z_drop (L' := [(0, .ref (b + 0)), (1, .int l1), (3, .int l3)]) [0, 1, 3] rfl ?_
        exact w_X9_openAt_45 _ ih n l1 l3 l2 p1.2
      · refine z_aload_n (pc := 21) dX9_openAt_21 rfl ?_
        refine zgR_X9_22 (pc := 22) gm_0 rfl dX9_openAt_22 ?_
        refine z_iload_n (pc := 25) dX9_openAt_25 rfl ?_
        refine z_iald (pc := 26) gm_5 dX9_openAt_26 ?_
        refine z_iload_n (pc := 27) dX9_openAt_27 rfl ?_
        refine z_icmp_eq (pc := 28) (tgt := 41) dX9_openAt_28 (by decide) (fun _ => ?_) (fun _ => ?_)
        · refine z_drop (L' := [(0, .ref (b + 0)), (1, .int l1), (3, .int l3)]) [0, 1, 3] rfl ?_
          exact w_X9_openAt_41 _ ih n l1 l3 l2 p1.2
        · refine z_aload_n (pc := 31) dX9_openAt_31 rfl ?_
          refine zgR_X9_25 (pc := 32) gm_0 rfl dX9_openAt_32 ?_
          refine z_iload_n (pc := 35) dX9_openAt_35 rfl ?_
          refine z_iald (pc := 36) gm_6 dX9_openAt_36 ?_
          refine z_iload_n (pc := 37) dX9_openAt_37 rfl ?_
          refine z_icmp_ne (pc := 38) (tgt := 45) dX9_openAt_38 (by decide) (fun _ => ?_) (fun _ => ?_)
          · refine z_drop (L' := [(0, .ref (b + 0)), (1, .int l1), (3, .int l3)]) [0, 1, 3] rfl ?_
            exact w_X9_openAt_41 _ ih n l1 l3 l2 p1.2
          · refine z_drop (L' := [(0, .ref (b + 0)), (1, .int l1), (3, .int l3)]) [0, 1, 3] rfl ?_
            exact w_X9_openAt_45 _ ih n l1 l3 l2 p1.2
    · refine z_iload_n (pc := 54) dX9_openAt_54 rfl ?_
      exact z_iret (pc := 55) rfl dX9_openAt_55

set_option maxRecDepth 20000 in
theorem w_X9_openAt_0 {D : va_G} {cI cL : ClassId} {b : Nat} {Z : State → Heap → Prop}  (n : Nat) (a1 : Int32) (μ : z_M) : z_w (zEm D cI cL b Z) (RX9, cX9_openAt, 4, (some .int), 1) z_ei 0 [(0, .ref (b + 0)), (1, .int a1)] [] μ ((f_X9_openAt n a1 μ)) := by
  unfold f_X9_openAt
  refine z_iconst (pc := 0) dX9_openAt_0 zci_0 ?_
  refine z_istore_n (pc := 1) (L' := [(0, .ref (b + 0)), (1, .int a1), (2, .int 0)]) dX9_openAt_1 (by decide) rfl ?_
  refine z_iconst (pc := 2) dX9_openAt_2 zci_0 ?_
  refine z_istore_n (pc := 3) (L' := [(0, .ref (b + 0)), (1, .int a1), (2, .int 0), (3, .int 0)]) dX9_openAt_3 (by decide) rfl ?_
  exact w_X9_openAt_4 n a1 0 0 μ

set_option maxRecDepth 20000 in
theorem c_X9_openAt {D : va_G} {cI cL : ClassId} {b : Nat} {Z : State → Heap → Prop}  (n : Nat) (a1 : Int32) (μ : z_M) : z_S (zEm D cI cL b Z) 1 yX9_openAt cX9_openAt 4 (some .int) z_ei [.ref (b + 0), .int a1] μ ((f_X9_openAt n a1 μ)) :=
  z_entry (yn := yX9_openAt) (by decide) (Nat.le_of_ble_eq_true rfl) rfl (w_X9_openAt_0 n a1 μ)

def f_X9_beginsRoutes (n : Nat) (a1 : Int32) (a2 : Int32) (μ : z_M) : Option (Unit × z_M) :=
  z_let (z_sI μ 0 26 0) (fun m1 => z_let (z_sI m1 0 27 a1) (fun m2 => z_let (z_sI m2 0 28 0) (fun m3 => z_let (z_sI m3 0 29 0) (fun m4 => z_bool a2 (z_let (z_sI m4 0 30 a2) (fun m5 => z_chk 0 8 (z_let (z_sI m5 18 (z_ix 0) 0) (fun m6 => z_bind (f_X9_begins n 0 m6) (fun p7 => some ((), p7.2))))))))))
set_option maxRecDepth 20000 in
theorem w_X9_beginsRoutes_0 {D : va_G} {cI cL : ClassId} {b : Nat} {Z : State → Heap → Prop}  (n : Nat) (a1 : Int32) (a2 : Int32) (μ : z_M) : z_w (zEm D cI cL b Z) (RX9, cX9_beginsRoutes, 3, none, 1) z_ev 0 [(0, .ref (b + 0)), (1, .int a1), (2, .int a2)] [] μ ((f_X9_beginsRoutes n a1 a2 μ)) := by
  unfold f_X9_beginsRoutes
  refine z_aload_n (pc := 0) dX9_beginsRoutes_0 rfl ?_
  refine z_iconst (pc := 1) dX9_beginsRoutes_1 zci_0 ?_
  refine zpI_X9_123 (pc := 2) gm_0 rfl dX9_beginsRoutes_2 ?_
  refine z_letMO (fun m1 => ?_)
  refine z_aload_n (pc := 5) dX9_beginsRoutes_5 rfl ?_
  refine z_iload_n (pc := 6) dX9_beginsRoutes_6 rfl ?_
  refine zpI_X9_126 (pc := 7) gm_0 rfl dX9_beginsRoutes_7 ?_
  refine z_letMO (fun m2 => ?_)
  refine z_aload_n (pc := 10) dX9_beginsRoutes_10 rfl ?_
  refine z_iconst (pc := 11) dX9_beginsRoutes_11 zci_0 ?_
  refine zpZ_X9_129 (pc := 12) gm_0 rfl (by decide) dX9_beginsRoutes_12 ?_
  refine z_letMO (fun m3 => ?_)
  refine z_aload_n (pc := 15) dX9_beginsRoutes_15 rfl ?_
  refine z_iconst (pc := 16) dX9_beginsRoutes_16 zci_0 ?_
  refine zpZ_X9_133 (pc := 17) gm_0 rfl (by decide) dX9_beginsRoutes_17 ?_
  refine z_letMO (fun m4 => ?_)
  refine z_aload_n (pc := 20) dX9_beginsRoutes_20 rfl ?_
  refine z_iload_n (pc := 21) dX9_beginsRoutes_21 rfl ?_
  refine z_guardW (fun _ h => z_bool_some h) (fun hb22 => ?_)
  refine zpZ_X9_136 (pc := 22) gm_0 rfl hb22 dX9_beginsRoutes_22 ?_
  refine z_letMO (fun m5 => ?_)
  refine z_aload_n (pc := 25) dX9_beginsRoutes_25 rfl ?_
  refine zgR_X9_72 (pc := 26) gm_0 rfl dX9_beginsRoutes_26 ?_
  refine z_iconst (pc := 29) dX9_beginsRoutes_29 zci_0 ?_
  refine z_iconst (pc := 30) dX9_beginsRoutes_30 zci_0 ?_
  refine z_iast (pc := 31) gm_18 dX9_beginsRoutes_31 ?_
  refine z_letMO (fun m6 => ?_)
  refine z_aload_n (pc := 32) dX9_beginsRoutes_32 rfl ?_
  refine z_iconst (pc := 33) dX9_beginsRoutes_33 zci_0 ?_
  refine z_bindP (fun p7 hp7 => ?_)
  refine z_callVv (pc := 34) (As := [.int 0]) (S := []) (c_X9_begins n 0 m6) hp7 zw_X9_begins zv_X9_begins zm_X9_139 (n := 1) (by decide) rfl (z_recv gm_0 (T := TX9) (N := 52) rfl) rfl (Nat.le_of_ble_eq_true rfl) (by decide) (by decide) dX9_beginsRoutes_34 ?_
  exact z_vret (pc := 37) rfl dX9_beginsRoutes_37

set_option maxRecDepth 20000 in
theorem c_X9_beginsRoutes {D : va_G} {cI cL : ClassId} {b : Nat} {Z : State → Heap → Prop}  (n : Nat) (a1 : Int32) (a2 : Int32) (μ : z_M) : z_S (zEm D cI cL b Z) 1 yX9_beginsRoutes cX9_beginsRoutes 3 none z_ev [.ref (b + 0), .int a1, .int a2] μ ((f_X9_beginsRoutes n a1 a2 μ)) :=
  z_entry (yn := yX9_beginsRoutes) (by decide) (Nat.le_of_ble_eq_true rfl) rfl (w_X9_beginsRoutes_0 n a1 a2 μ)

def f_X9_leadsTo_b62 (n : Nat) (l1 : Int32) (l2 : Int32) (μ : z_M) : Option (Int32 × z_M) :=
  z_chk l1 12 (if (μ.1 5 (z_ix l1)) = l2 then (z_chk l1 12 (some ((μ.1 6 (z_ix l1)), μ))) else (z_chk l1 12 (some ((μ.1 5 (z_ix l1)), μ))))
def f_X9_leadsTo (n : Nat) (a1 : Int32) (μ : z_M) : Option (Int32 × z_M) :=
  z_chk (μ.1 0 26) 9 (z_let ((μ.1 9 (z_ix (μ.1 0 26))) : Int32) (fun x1 => if (μ.1 0 30) = 0 then (z_bind (f_X9_betweenOf n x1 a1 μ) (fun p2 => if p2.1 < 0 then (some ((-1), p2.2)) else (some (a1, p2.2)))) else (z_bind (f_X9_isOpen a1 μ) (fun p3 => if p3.1 = 0 then (some ((-1), p3.2)) else (z_chk a1 12 (if (p3.2.1 5 (z_ix a1)) = x1 then (f_X9_leadsTo_b62 n a1 x1 p3.2) else (z_chk a1 12 (if (p3.2.1 6 (z_ix a1)) = x1 then (f_X9_leadsTo_b62 n a1 x1 p3.2) else (some ((-1), p3.2))))))))))
set_option maxRecDepth 20000 in
theorem w_X9_leadsTo_62 {D : va_G} {cI cL : ClassId} {b : Nat} {Z : State → Heap → Prop}  (n : Nat) (l1 : Int32) (l2 : Int32) (μ : z_M) : z_w (zEm D cI cL b Z) (RX9, cX9_leadsTo, 3, (some .int), 2) z_ei 62 [(0, .ref (b + 0)), (1, .int l1), (2, .int l2)] [] μ ((f_X9_leadsTo_b62 n l1 l2 μ)) := by
  unfold f_X9_leadsTo_b62
  refine z_aload_n (pc := 62) dX9_leadsTo_62 rfl ?_
  refine zgR_X9_22 (pc := 63) gm_0 rfl dX9_leadsTo_63 ?_
  refine z_iload_n (pc := 66) dX9_leadsTo_66 rfl ?_
  refine z_iald (pc := 67) gm_5 dX9_leadsTo_67 ?_
  refine z_iload_n (pc := 68) dX9_leadsTo_68 rfl ?_
  refine z_icmp_ne (pc := 69) (tgt := 81) dX9_leadsTo_69 (by decide) (fun _ => ?_) (fun _ => ?_)
  · refine z_aload_n (pc := 72) dX9_leadsTo_72 rfl ?_
    refine zgR_X9_25 (pc := 73) gm_0 rfl dX9_leadsTo_73 ?_
    refine z_iload_n (pc := 76) dX9_leadsTo_76 rfl ?_
    refine z_iald (pc := 77) gm_6 dX9_leadsTo_77 ?_
    refine z_goto (pc := 78) (tgt := 87) dX9_leadsTo_78 (by decide) ?_
    exact z_iret (pc := 87) rfl dX9_leadsTo_87
  · refine z_aload_n (pc := 81) dX9_leadsTo_81 rfl ?_
    refine zgR_X9_22 (pc := 82) gm_0 rfl dX9_leadsTo_82 ?_
    refine z_iload_n (pc := 85) dX9_leadsTo_85 rfl ?_
    refine z_iald (pc := 86) gm_5 dX9_leadsTo_86 ?_
    exact z_iret (pc := 87) rfl dX9_leadsTo_87

set_option maxRecDepth 20000 in
theorem w_X9_leadsTo_0 {D : va_G} {cI cL : ClassId} {b : Nat} {Z : State → Heap → Prop}  (n : Nat) (a1 : Int32) (μ : z_M) : z_w (zEm D cI cL b Z) (RX9, cX9_leadsTo, 3, (some .int), 2) z_ei 0 [(0, .ref (b + 0)), (1, .int a1)] [] μ ((f_X9_leadsTo n a1 μ)) := by
  unfold f_X9_leadsTo
  refine z_aload_n (pc := 0) dX9_leadsTo_0 rfl ?_
  refine zgR_X9_41 (pc := 1) gm_0 rfl dX9_leadsTo_1 ?_
  refine z_aload_n (pc := 4) dX9_leadsTo_4 rfl ?_
  refine zgI_X9_123 (pc := 5) gm_0 rfl dX9_leadsTo_5 ?_
  refine z_iald (pc := 8) gm_9 dX9_leadsTo_8 ?_
  refine z_letIO (fun x1 => ?_)
  refine z_istore_n (pc := 9) (L' := [(0, .ref (b + 0)), (1, .int a1), (2, .int x1)]) dX9_leadsTo_9 (by decide) rfl ?_
  refine z_aload_n (pc := 10) dX9_leadsTo_10 rfl ?_
  refine zgI_X9_136 (pc := 11) gm_0 rfl dX9_leadsTo_11 ?_
  refine z_if_ne (pc := 14) (tgt := 32) dX9_leadsTo_14 (by decide) (fun _ => ?_) (fun _ => ?_)
  · refine z_aload_n (pc := 17) dX9_leadsTo_17 rfl ?_
    refine z_iload_n (pc := 18) dX9_leadsTo_18 rfl ?_
    refine z_iload_n (pc := 19) dX9_leadsTo_19 rfl ?_
    refine z_bindP (fun p2 hp2 => ?_)
    refine z_callVi (pc := 20) (As := [.int x1, .int a1]) (S := []) (c_X9_betweenOf n x1 a1 μ) hp2 zw_X9_betweenOf zv_X9_betweenOf zm_X9_143 (n := 2) (by decide) rfl (z_recv gm_0 (T := TX9) (N := 52) rfl) rfl (Nat.le_of_ble_eq_true rfl) (by decide) (by decide) dX9_leadsTo_20 ?_
    refine z_if_ge (pc := 23) (tgt := 30) dX9_leadsTo_23 (by decide) (fun _ => ?_) (fun _ => ?_)
    · refine z_iconst (pc := 26) dX9_leadsTo_26 zci_m1 ?_
      refine z_goto (pc := 27) (tgt := 31) dX9_leadsTo_27 (by decide) ?_
      exact z_iret (pc := 31) rfl dX9_leadsTo_31
    · refine z_iload_n (pc := 30) dX9_leadsTo_30 rfl ?_
      exact z_iret (pc := 31) rfl dX9_leadsTo_31
  · refine z_aload_n (pc := 32) dX9_leadsTo_32 rfl ?_
    refine z_iload_n (pc := 33) dX9_leadsTo_33 rfl ?_
    refine z_bindP (fun p3 hp3 => ?_)
    refine z_callVi (pc := 34) (As := [.int a1]) (S := []) (c_X9_isOpen a1 μ) hp3 zw_X9_isOpen zv_X9_isOpen zm_X9_119 (n := 1) (by decide) rfl (z_recv gm_0 (T := TX9) (N := 52) rfl) rfl (Nat.le_of_ble_eq_true rfl) (by decide) (by decide) dX9_leadsTo_34 ?_
    refine z_if_eq (pc := 37) (tgt := 60) dX9_leadsTo_37 (by decide) (fun _ => ?_) (fun _ => ?_)
    · refine z_iconst (pc := 60) dX9_leadsTo_60 zci_m1 ?_
      exact z_iret (pc := 61) rfl dX9_leadsTo_61
    · refine z_aload_n (pc := 40) dX9_leadsTo_40 rfl ?_
      refine zgR_X9_22 (pc := 41) gm_0 rfl dX9_leadsTo_41 ?_
      refine z_iload_n (pc := 44) dX9_leadsTo_44 rfl ?_
      refine z_iald (pc := 45) gm_5 dX9_leadsTo_45 ?_
      refine z_iload_n (pc := 46) dX9_leadsTo_46 rfl ?_
      refine z_icmp_eq (pc := 47) (tgt := 62) dX9_leadsTo_47 (by decide) (fun _ => ?_) (fun _ => ?_)
      · exact w_X9_leadsTo_62 n a1 x1 p3.2
      · refine z_aload_n (pc := 50) dX9_leadsTo_50 rfl ?_
        refine zgR_X9_25 (pc := 51) gm_0 rfl dX9_leadsTo_51 ?_
        refine z_iload_n (pc := 54) dX9_leadsTo_54 rfl ?_
        refine z_iald (pc := 55) gm_6 dX9_leadsTo_55 ?_
        refine z_iload_n (pc := 56) dX9_leadsTo_56 rfl ?_
        refine z_icmp_eq (pc := 57) (tgt := 62) dX9_leadsTo_57 (by decide) (fun _ => ?_) (fun _ => ?_)
        · exact w_X9_leadsTo_62 n a1 x1 p3.2
        · refine z_iconst (pc := 60) dX9_leadsTo_60 zci_m1 ?_
          exact z_iret (pc := 61) rfl dX9_leadsTo_61

set_option maxRecDepth 20000 in
theorem c_X9_leadsTo {D : va_G} {cI cL : ClassId} {b : Nat} {Z : State → Heap → Prop}  (n : Nat) (a1 : Int32) (μ : z_M) : z_S (zEm D cI cL b Z) 2 yX9_leadsTo cX9_leadsTo 3 (some .int) z_ei [.ref (b + 0), .int a1] μ ((f_X9_leadsTo n a1 μ)) :=
  z_entry (yn := yX9_leadsTo) (by decide) (Nat.le_of_ble_eq_true rfl) rfl (w_X9_leadsTo_0 n a1 μ)

def f_X9_goesTo_b50 (n : Nat) (l2 : Int32) (l3 : Int32) (s0 : Int32) (μ : z_M) : Option (Unit × z_M) :=
  z_bind (f_X9_copies n (μ.1 0 26) ((μ.1 0 26) + 1) μ) (fun p2 => z_let (z_sI p2.2 0 26 ((p2.2.1 0 26) + 1)) (fun m3 => z_bind (f_X9_visits (m3.1 0 26) l2 m3) (fun p4 => z_chk (p4.2.1 0 26) 9 (z_chk l3 12 (z_chk (p4.2.1 0 26) 9 (z_let (z_sI p4.2 15 (z_ix (p4.2.1 0 26)) ((p4.2.1 15 (z_ix (p4.2.1 0 26))) + (p4.2.1 7 (z_ix l3)))) (fun m5 => z_chk (m5.1 0 26) 9 (z_nzl (Int32.toInt64 s0) (z_chk (m5.1 0 26) 9 (z_let (z_sL m5 17 (z_ix (m5.1 0 26)) ((m5.2 17 (z_ix (m5.1 0 26))) * (27720 / (Int32.toInt64 s0)))) (fun m6 => z_chk (m6.1 0 26) 8 (z_let (z_sI m6 18 (z_ix (m6.1 0 26)) 0) (fun m7 => some ((), m7))))))))))))))
def f_X9_goesTo_b25 (n : Nat) (l2 : Int32) (s0 : Int32) (μ : z_M) : Option (Unit × z_M) :=
  if (μ.1 0 30) = 0 then (f_X9_goesTo_b50 n l2 s0 1 μ) else (z_chk (μ.1 0 26) 9 (z_bind (f_X9_openAt n (μ.1 9 (z_ix (μ.1 0 26))) μ) (fun p8 => f_X9_goesTo_b50 n l2 s0 p8.1 p8.2)))
def f_X9_goesTo (n : Nat) (a1 : Int32) (a2 : Int32) (μ : z_M) : Option (Unit × z_M) :=
  if (μ.1 0 30) = 0 then (z_chk (μ.1 0 26) 9 (z_bind (f_X9_betweenOf n (μ.1 9 (z_ix (μ.1 0 26))) a2 μ) (fun p1 => f_X9_goesTo_b25 n a2 p1.1 p1.2))) else (f_X9_goesTo_b25 n a2 a1 μ)
set_option maxRecDepth 20000 in
theorem w_X9_goesTo_50 {D : va_G} {cI cL : ClassId} {b : Nat} {Z : State → Heap → Prop}  (n : Nat) (l2 : Int32) (l3 : Int32) (s0 : Int32) (μ : z_M) : z_w (zEm D cI cL b Z) (RX9, cX9_goesTo, 5, none, 2) z_ev 50 [(0, .ref (b + 0)), (2, .int l2), (3, .int l3)] [.int s0] μ ((f_X9_goesTo_b50 n l2 l3 s0 μ)) := by
  unfold f_X9_goesTo_b50
  refine z_istore (pc := 50) (L' := [(0, .ref (b + 0)), (2, .int l2), (3, .int l3), (4, .int s0)]) dX9_goesTo_50 (by decide) rfl ?_
  refine z_aload_n (pc := 52) dX9_goesTo_52 rfl ?_
  refine z_aload_n (pc := 53) dX9_goesTo_53 rfl ?_
  refine zgI_X9_123 (pc := 54) gm_0 rfl dX9_goesTo_54 ?_
  refine z_aload_n (pc := 57) dX9_goesTo_57 rfl ?_
  refine zgI_X9_123 (pc := 58) gm_0 rfl dX9_goesTo_58 ?_
  refine z_iconst (pc := 61) dX9_goesTo_61 zci_1 ?_
  refine z_iadd (pc := 62) dX9_goesTo_62 ?_
  refine z_bindP (fun p2 hp2 => ?_)
  refine z_callVv (pc := 63) (As := [.int (μ.1 0 26), .int ((μ.1 0 26) + 1)]) (S := []) (c_X9_copies n (μ.1 0 26) ((μ.1 0 26) + 1) μ) hp2 zw_X9_copies zv_X9_copies zm_X9_150 (n := 2) (by decide) rfl (z_recv gm_0 (T := TX9) (N := 52) rfl) rfl (Nat.le_of_ble_eq_true rfl) (by decide) (by decide) dX9_goesTo_63 ?_
  refine z_aload_n (pc := 66) dX9_goesTo_66 rfl ?_
  refine z_dup (pc := 67) dX9_goesTo_67 rfl ?_
  refine zgI_X9_123 (pc := 68) gm_0 rfl dX9_goesTo_68 ?_
  refine z_iconst (pc := 71) dX9_goesTo_71 zci_1 ?_
  refine z_iadd (pc := 72) dX9_goesTo_72 ?_
  refine zpI_X9_123 (pc := 73) gm_0 rfl dX9_goesTo_73 ?_
  refine z_letMO (fun m3 => ?_)
  refine z_aload_n (pc := 76) dX9_goesTo_76 rfl ?_
  refine z_aload_n (pc := 77) dX9_goesTo_77 rfl ?_
  refine zgI_X9_123 (pc := 78) gm_0 rfl dX9_goesTo_78 ?_
  refine z_iload_n (pc := 81) dX9_goesTo_81 rfl ?_
  refine z_bindP (fun p4 hp4 => ?_)
  refine z_callVv (pc := 82) (As := [.int (m3.1 0 26), .int l2]) (S := []) (c_X9_visits (m3.1 0 26) l2 m3) hp4 zw_X9_visits zv_X9_visits zm_X9_154 (n := 2) (by decide) rfl (z_recv gm_0 (T := TX9) (N := 52) rfl) rfl (Nat.le_of_ble_eq_true rfl) (by decide) (by decide) dX9_goesTo_82 ?_
  refine z_aload_n (pc := 85) dX9_goesTo_85 rfl ?_
  refine zgR_X9_59 (pc := 86) gm_0 rfl dX9_goesTo_86 ?_
  refine z_aload_n (pc := 89) dX9_goesTo_89 rfl ?_
  refine zgI_X9_123 (pc := 90) gm_0 rfl dX9_goesTo_90 ?_
  refine z_dup2 (pc := 93) dX9_goesTo_93 rfl rfl ?_
  refine z_iald (pc := 94) gm_15 dX9_goesTo_94 ?_
  refine z_aload_n (pc := 95) dX9_goesTo_95 rfl ?_
  refine zgR_X9_28 (pc := 96) gm_0 rfl dX9_goesTo_96 ?_
  refine z_iload_n (pc := 99) dX9_goesTo_99 rfl ?_
  refine z_iald (pc := 100) gm_7 dX9_goesTo_100 ?_
  refine z_iadd (pc := 101) dX9_goesTo_101 ?_
  refine z_iast (pc := 102) gm_15 dX9_goesTo_102 ?_
  refine z_letMO (fun m5 => ?_)
  refine z_aload_n (pc := 103) dX9_goesTo_103 rfl ?_
  refine zgR_X9_65 (pc := 104) gm_0 rfl dX9_goesTo_104 ?_
  refine z_aload_n (pc := 107) dX9_goesTo_107 rfl ?_
  refine zgI_X9_123 (pc := 108) gm_0 rfl dX9_goesTo_108 ?_
  refine z_dup2 (pc := 111) dX9_goesTo_111 rfl rfl ?_
  refine z_lald (pc := 112) gm_17 dX9_goesTo_112 ?_
  refine z_ldc2 (pc := 113) dX9_goesTo_113 zc_X9_156 ?_
  refine z_iload (pc := 116) dX9_goesTo_116 rfl ?_
  refine z_i2l (pc := 118) dX9_goesTo_118 ?_
  refine z_ldiv (pc := 119) dX9_goesTo_119 ?_
  refine z_lmul (pc := 120) dX9_goesTo_120 ?_
  refine z_last (pc := 121) gm_17 dX9_goesTo_121 ?_
  refine z_letMO (fun m6 => ?_)
  refine z_aload_n (pc := 122) dX9_goesTo_122 rfl ?_
  refine zgR_X9_72 (pc := 123) gm_0 rfl dX9_goesTo_123 ?_
  refine z_aload_n (pc := 126) dX9_goesTo_126 rfl ?_
  refine zgI_X9_123 (pc := 127) gm_0 rfl dX9_goesTo_127 ?_
  refine z_iconst (pc := 130) dX9_goesTo_130 zci_0 ?_
  refine z_iast (pc := 131) gm_18 dX9_goesTo_131 ?_
  refine z_letMO (fun m7 => ?_)
  exact z_vret (pc := 132) rfl dX9_goesTo_132

set_option maxRecDepth 20000 in
theorem w_X9_goesTo_25 {D : va_G} {cI cL : ClassId} {b : Nat} {Z : State → Heap → Prop}  (n : Nat) (l2 : Int32) (s0 : Int32) (μ : z_M) : z_w (zEm D cI cL b Z) (RX9, cX9_goesTo, 5, none, 2) z_ev 25 [(0, .ref (b + 0)), (2, .int l2)] [.int s0] μ ((f_X9_goesTo_b25 n l2 s0 μ)) := by
  unfold f_X9_goesTo_b25
  refine z_istore_n (pc := 25) (L' := [(0, .ref (b + 0)), (2, .int l2), (3, .int s0)]) dX9_goesTo_25 (by decide) rfl ?_
  refine z_aload_n (pc := 26) dX9_goesTo_26 rfl ?_
  refine zgI_X9_136 (pc := 27) gm_0 rfl dX9_goesTo_27 ?_
  refine z_if_eq (pc := 30) (tgt := 49) dX9_goesTo_30 (by decide) (fun _ => ?_) (fun _ => ?_)
  · refine z_iconst (pc := 49) dX9_goesTo_49 zci_1 ?_
    exact w_X9_goesTo_50 n l2 s0 1 μ
  · refine z_aload_n (pc := 33) dX9_goesTo_33 rfl ?_
    refine z_aload_n (pc := 34) dX9_goesTo_34 rfl ?_
    refine zgR_X9_41 (pc := 35) gm_0 rfl dX9_goesTo_35 ?_
    refine z_aload_n (pc := 38) dX9_goesTo_38 rfl ?_
    refine zgI_X9_123 (pc := 39) gm_0 rfl dX9_goesTo_39 ?_
    refine z_iald (pc := 42) gm_9 dX9_goesTo_42 ?_
    refine z_bindP (fun p8 hp8 => ?_)
    refine z_callVi (pc := 43) (As := [.int (μ.1 9 (z_ix (μ.1 0 26)))]) (S := []) (c_X9_openAt n (μ.1 9 (z_ix (μ.1 0 26))) μ) hp8 zw_X9_openAt zv_X9_openAt zm_X9_147 (n := 1) (by decide) rfl (z_recv gm_0 (T := TX9) (N := 52) rfl) rfl (Nat.le_of_ble_eq_true rfl) (by decide) (by decide) dX9_goesTo_43 ?_
    refine z_goto (pc := 46) (tgt := 50) dX9_goesTo_46 (by decide) ?_
    exact w_X9_goesTo_50 n l2 s0 p8.1 p8.2

set_option maxRecDepth 20000 in
theorem w_X9_goesTo_0 {D : va_G} {cI cL : ClassId} {b : Nat} {Z : State → Heap → Prop}  (n : Nat) (a1 : Int32) (a2 : Int32) (μ : z_M) : z_w (zEm D cI cL b Z) (RX9, cX9_goesTo, 5, none, 2) z_ev 0 [(0, .ref (b + 0)), (1, .int a1), (2, .int a2)] [] μ ((f_X9_goesTo n a1 a2 μ)) := by
  unfold f_X9_goesTo
  refine z_aload_n (pc := 0) dX9_goesTo_0 rfl ?_
  refine zgI_X9_136 (pc := 1) gm_0 rfl dX9_goesTo_1 ?_
  refine z_if_eq (pc := 4) (tgt := 11) dX9_goesTo_4 (by decide) (fun _ => ?_) (fun _ => ?_)
  · refine z_aload_n (pc := 11) dX9_goesTo_11 rfl ?_
    refine z_aload_n (pc := 12) dX9_goesTo_12 rfl ?_
    refine zgR_X9_41 (pc := 13) gm_0 rfl dX9_goesTo_13 ?_
    refine z_aload_n (pc := 16) dX9_goesTo_16 rfl ?_
    refine zgI_X9_123 (pc := 17) gm_0 rfl dX9_goesTo_17 ?_
    refine z_iald (pc := 20) gm_9 dX9_goesTo_20 ?_
    refine z_iload_n (pc := 21) dX9_goesTo_21 rfl ?_
    refine z_bindP (fun p1 hp1 => ?_)
    refine z_callVi (pc := 22) (As := [.int (μ.1 9 (z_ix (μ.1 0 26))), .int a2]) (S := []) (c_X9_betweenOf n (μ.1 9 (z_ix (μ.1 0 26))) a2 μ) hp1 zw_X9_betweenOf zv_X9_betweenOf zm_X9_143 (n := 2) (by decide) rfl (z_recv gm_0 (T := TX9) (N := 52) rfl) rfl (Nat.le_of_ble_eq_true rfl) (by decide) (by decide) dX9_goesTo_22 ?_
    refine z_drop (L' := [(0, .ref (b + 0)), (2, .int a2)]) [0, 2] rfl ?_
    exact w_X9_goesTo_25 n a2 p1.1 p1.2
  · refine z_iload_n (pc := 7) dX9_goesTo_7 rfl ?_
    refine z_goto (pc := 8) (tgt := 25) dX9_goesTo_8 (by decide) ?_
    refine z_drop (L' := [(0, .ref (b + 0)), (2, .int a2)]) [0, 2] rfl ?_
    exact w_X9_goesTo_25 n a2 a1 μ

set_option maxRecDepth 20000 in
theorem c_X9_goesTo {D : va_G} {cI cL : ClassId} {b : Nat} {Z : State → Heap → Prop}  (n : Nat) (a1 : Int32) (a2 : Int32) (μ : z_M) : z_S (zEm D cI cL b Z) 2 yX9_goesTo cX9_goesTo 5 none z_ev [.ref (b + 0), .int a1, .int a2] μ ((f_X9_goesTo n a1 a2 μ)) :=
  z_entry (yn := yX9_goesTo) (by decide) (Nat.le_of_ble_eq_true rfl) rfl (w_X9_goesTo_0 n a1 a2 μ)

def f_X9_hasNext_b89 (r14 : z_M → Option (Int32 × z_M)) (n : Nat) (l1 : Int32) (l2 : Int32) (μ : z_M) : Option (Int32 × z_M) :=
  if l2 < l1 then (z_chk (μ.1 0 26) 8 (z_let (z_sI μ 18 (z_ix (μ.1 0 26)) (l2 + 1)) (fun m4 => z_bind (f_X9_leadsTo n l2 m4) (fun p5 => z_bind (f_X9_goesTo n l2 p5.1 p5.2) (fun p6 => some (1, p6.2)))))) else (if (μ.1 0 26) = 0 then (some (0, μ)) else (z_let (z_sI μ 0 26 ((μ.1 0 26) - 1)) (fun m7 => r14 m7)))
def f_X9_hasNext_h70 (r14 : z_M → Option (Int32 × z_M)) : Nat → Int32 → Int32 → z_M → Option (Int32 × z_M)
  | 0, _, _, _ => none
  | n + 1, l1, l2, μ =>
    if l2 < l1 then (z_bind (f_X9_leadsTo n l2 μ) (fun p3 => if p3.1 < 0 then (f_X9_hasNext_h70 r14 n l1 (l2 + 1) p3.2) else (f_X9_hasNext_b89 r14 n l1 l2 p3.2))) else (f_X9_hasNext_b89 r14 n l1 l2 μ)
def f_X9_hasNext_b64 (r14 : z_M → Option (Int32 × z_M)) (n : Nat) (l1 : Int32) (s0 : Int32) (μ : z_M) : Option (Int32 × z_M) :=
  z_let (z_sI μ 0 29 0) (fun m2 => f_X9_hasNext_h70 r14 n l1 s0 m2)
def f_X9_hasNext_b51 (r14 : z_M → Option (Int32 × z_M)) (n : Nat) (l1 : Int32) (μ : z_M) : Option (Int32 × z_M) :=
  f_X9_hasNext_b64 r14 n l1 l1 μ
def f_X9_hasNext_b32 (r14 : z_M → Option (Int32 × z_M)) (n : Nat) (s0 : Int32) (μ : z_M) : Option (Int32 × z_M) :=
  if (μ.1 0 26) = (μ.1 0 27) then (f_X9_hasNext_b51 r14 n s0 μ) else (if (μ.1 0 29) = 0 then (z_chk (μ.1 0 26) 8 (f_X9_hasNext_b64 r14 n s0 (μ.1 18 (z_ix (μ.1 0 26))) μ)) else (f_X9_hasNext_b51 r14 n s0 μ))
def f_X9_hasNext_h14 : Nat → z_M → Option (Int32 × z_M)
  | 0, _ => none
  | n + 1, μ =>
    if (μ.1 0 30) = 0 then (f_X9_hasNext_b32 (f_X9_hasNext_h14 n) n (μ.1 0 8) μ) else (f_X9_hasNext_b32 (f_X9_hasNext_h14 n) n (μ.1 0 9) μ)
def f_X9_hasNext (n : Nat)  (μ : z_M) : Option (Int32 × z_M) :=
  if (μ.1 0 28) = 0 then (z_let (z_sI μ 0 28 1) (fun m1 => some (1, m1))) else (f_X9_hasNext_h14 n μ)
set_option maxRecDepth 20000 in
theorem w_X9_hasNext_89 {D : va_G} {cI cL : ClassId} {b : Nat} {Z : State → Heap → Prop}  (r14 : z_M → Option (Int32 × z_M)) (hr14 : ∀  (μ : z_M), z_w (zEm D cI cL b Z) (RX9, cX9_hasNext, 3, (some .boolean), 3) z_ei 14 [(0, .ref (b + 0))] [] μ ((r14 μ))) (n : Nat) (l1 : Int32) (l2 : Int32) (μ : z_M) : z_w (zEm D cI cL b Z) (RX9, cX9_hasNext, 3, (some .boolean), 3) z_ei 89 [(0, .ref (b + 0)), (1, .int l1), (2, .int l2)] [] μ ((f_X9_hasNext_b89 r14 n l1 l2 μ)) := by
  unfold f_X9_hasNext_b89
  refine z_iload_n (pc := 89) dX9_hasNext_89 rfl ?_
  refine z_iload_n (pc := 90) dX9_hasNext_90 rfl ?_
  refine z_icmp_ge (pc := 91) (tgt := 118) dX9_hasNext_91 (by decide) (fun _ => ?_) (fun _ => ?_)
  · refine z_aload_n (pc := 94) dX9_hasNext_94 rfl ?_
    refine zgR_X9_72 (pc := 95) gm_0 rfl dX9_hasNext_95 ?_
    refine z_aload_n (pc := 98) dX9_hasNext_98 rfl ?_
    refine zgI_X9_123 (pc := 99) gm_0 rfl dX9_hasNext_99 ?_
    refine z_iload_n (pc := 102) dX9_hasNext_102 rfl ?_
    refine z_iconst (pc := 103) dX9_hasNext_103 zci_1 ?_
    refine z_iadd (pc := 104) dX9_hasNext_104 ?_
    refine z_iast (pc := 105) gm_18 dX9_hasNext_105 ?_
    refine z_letMO (fun m4 => ?_)
    refine z_aload_n (pc := 106) dX9_hasNext_106 rfl ?_
    refine z_iload_n (pc := 107) dX9_hasNext_107 rfl ?_
    refine z_aload_n (pc := 108) dX9_hasNext_108 rfl ?_
    refine z_iload_n (pc := 109) dX9_hasNext_109 rfl ?_
    refine z_bindP (fun p5 hp5 => ?_)
    refine z_callVi (pc := 110) (As := [.int l2]) (S := [.int l2, .ref (b + 0)]) (c_X9_leadsTo n l2 m4) hp5 zw_X9_leadsTo zv_X9_leadsTo zm_X9_158 (n := 1) (by decide) rfl (z_recv gm_0 (T := TX9) (N := 52) rfl) rfl (Nat.le_of_ble_eq_true rfl) (by decide) (by decide) dX9_hasNext_110 ?_
    refine z_bindP (fun p6 hp6 => ?_)
    refine z_callVv (pc := 113) (As := [.int l2, .int p5.1]) (S := []) (c_X9_goesTo n l2 p5.1 p5.2) hp6 zw_X9_goesTo zv_X9_goesTo zm_X9_161 (n := 2) (by decide) rfl (z_recv gm_0 (T := TX9) (N := 52) rfl) rfl (Nat.le_of_ble_eq_true rfl) (by decide) (by decide) dX9_hasNext_113 ?_
    refine z_iconst (pc := 116) dX9_hasNext_116 zci_1 ?_
    exact z_zret (pc := 117) rfl dX9_hasNext_117 (by decide)
  · refine z_aload_n (pc := 118) dX9_hasNext_118 rfl ?_
    refine zgI_X9_123 (pc := 119) gm_0 rfl dX9_hasNext_119 ?_
    refine z_if_ne (pc := 122) (tgt := 127) dX9_hasNext_122 (by decide) (fun _ => ?_) (fun _ => ?_)
    · refine z_iconst (pc := 125) dX9_hasNext_125 zci_0 ?_
      exact z_zret (pc := 126) rfl dX9_hasNext_126 (by decide)
    · refine z_aload_n (pc := 127) dX9_hasNext_127 rfl ?_
      refine z_dup (pc := 128) dX9_hasNext_128 rfl ?_
      refine zgI_X9_123 (pc := 129) gm_0 rfl dX9_hasNext_129 ?_
      refine z_iconst (pc := 132) dX9_hasNext_132 zci_1 ?_
      refine z_isub (pc := 133) dX9_hasNext_133 ?_
      refine zpI_X9_123 (pc := 134) gm_0 rfl dX9_hasNext_134 ?_
      refine z_letMO (fun m7 => ?_)
      refine z_goto (pc := 137) (tgt := 14) dX9_hasNext_137 (by decide) ?_
      refine z_drop (L' := [(0, .ref (b + 0))]) [0] rfl ?_
      exact hr14 m7

set_option maxRecDepth 20000 in
theorem w_X9_hasNext_70 {D : va_G} {cI cL : ClassId} {b : Nat} {Z : State → Heap → Prop}  (r14 : z_M → Option (Int32 × z_M)) (hr14 : ∀  (μ : z_M), z_w (zEm D cI cL b Z) (RX9, cX9_hasNext, 3, (some .boolean), 3) z_ei 14 [(0, .ref (b + 0))] [] μ ((r14 μ))) : ∀ (n : Nat) (l1 : Int32) (l2 : Int32) (μ : z_M), z_w (zEm D cI cL b Z) (RX9, cX9_hasNext, 3, (some .boolean), 3) z_ei 70 [(0, .ref (b + 0)), (1, .int l1), (2, .int l2)] [] μ (f_X9_hasNext_h70 r14 n l1 l2 μ) := by
  intro n
  induction n with
  | zero =>
    intro l1 l2 μ
    exact z_none
  | succ n ih =>
    intro l1 l2 μ
    unfold f_X9_hasNext_h70
    refine z_iload_n (pc := 70) dX9_hasNext_70 rfl ?_
    refine z_iload_n (pc := 71) dX9_hasNext_71 rfl ?_
    refine z_icmp_ge (pc := 72) (tgt := 89) dX9_hasNext_72 (by decide) (fun _ => ?_) (fun _ => ?_)
    · refine z_aload_n (pc := 75) dX9_hasNext_75 rfl ?_
      refine z_iload_n (pc := 76) dX9_hasNext_76 rfl ?_
      refine z_bindP (fun p3 hp3 => ?_)
      refine z_callVi (pc := 77) (As := [.int l2]) (S := []) (c_X9_leadsTo n l2 μ) hp3 zw_X9_leadsTo zv_X9_leadsTo zm_X9_158 (n := 1) (by decide) rfl (z_recv gm_0 (T := TX9) (N := 52) rfl) rfl (Nat.le_of_ble_eq_true rfl) (by decide) (by decide) dX9_hasNext_77 ?_
      refine z_if_ge (pc := 80) (tgt := 89) dX9_hasNext_80 (by decide) (fun _ => ?_) (fun _ => ?_)
      · refine z_iinc (pc := 83) (v := (l2 + 1)) (L' := [(0, .ref (b + 0)), (1, .int l1), (2, .int (l2 + 1))]) dX9_hasNext_83 rfl (by decide) rfl rfl ?_
        refine z_goto (pc := 86) (tgt := 70) dX9_hasNext_86 (by decide) ?_
        exact ih l1 (l2 + 1) p3.2
      · exact w_X9_hasNext_89 _ hr14 n l1 l2 p3.2
    · exact w_X9_hasNext_89 _ hr14 n l1 l2 μ

set_option maxRecDepth 20000 in
theorem w_X9_hasNext_64 {D : va_G} {cI cL : ClassId} {b : Nat} {Z : State → Heap → Prop}  (r14 : z_M → Option (Int32 × z_M)) (hr14 : ∀  (μ : z_M), z_w (zEm D cI cL b Z) (RX9, cX9_hasNext, 3, (some .boolean), 3) z_ei 14 [(0, .ref (b + 0))] [] μ ((r14 μ))) (n : Nat) (l1 : Int32) (s0 : Int32) (μ : z_M) : z_w (zEm D cI cL b Z) (RX9, cX9_hasNext, 3, (some .boolean), 3) z_ei 64 [(0, .ref (b + 0)), (1, .int l1)] [.int s0] μ ((f_X9_hasNext_b64 r14 n l1 s0 μ)) := by
  unfold f_X9_hasNext_b64
  refine z_istore_n (pc := 64) (L' := [(0, .ref (b + 0)), (1, .int l1), (2, .int s0)]) dX9_hasNext_64 (by decide) rfl ?_
  refine z_aload_n (pc := 65) dX9_hasNext_65 rfl ?_
  refine z_iconst (pc := 66) dX9_hasNext_66 zci_0 ?_
  refine zpZ_X9_133 (pc := 67) gm_0 rfl (by decide) dX9_hasNext_67 ?_
  refine z_letMO (fun m2 => ?_)
  exact w_X9_hasNext_70 _ hr14 n l1 s0 m2

set_option maxRecDepth 20000 in
theorem w_X9_hasNext_51 {D : va_G} {cI cL : ClassId} {b : Nat} {Z : State → Heap → Prop}  (r14 : z_M → Option (Int32 × z_M)) (hr14 : ∀  (μ : z_M), z_w (zEm D cI cL b Z) (RX9, cX9_hasNext, 3, (some .boolean), 3) z_ei 14 [(0, .ref (b + 0))] [] μ ((r14 μ))) (n : Nat) (l1 : Int32) (μ : z_M) : z_w (zEm D cI cL b Z) (RX9, cX9_hasNext, 3, (some .boolean), 3) z_ei 51 [(0, .ref (b + 0)), (1, .int l1)] [] μ ((f_X9_hasNext_b51 r14 n l1 μ)) := by
  unfold f_X9_hasNext_b51
  refine z_iload_n (pc := 51) dX9_hasNext_51 rfl ?_
  refine z_goto (pc := 52) (tgt := 64) dX9_hasNext_52 (by decide) ?_
  exact w_X9_hasNext_64 _ hr14 n l1 l1 μ

set_option maxRecDepth 20000 in
theorem w_X9_hasNext_32 {D : va_G} {cI cL : ClassId} {b : Nat} {Z : State → Heap → Prop}  (r14 : z_M → Option (Int32 × z_M)) (hr14 : ∀  (μ : z_M), z_w (zEm D cI cL b Z) (RX9, cX9_hasNext, 3, (some .boolean), 3) z_ei 14 [(0, .ref (b + 0))] [] μ ((r14 μ))) (n : Nat) (s0 : Int32) (μ : z_M) : z_w (zEm D cI cL b Z) (RX9, cX9_hasNext, 3, (some .boolean), 3) z_ei 32 [(0, .ref (b + 0))] [.int s0] μ ((f_X9_hasNext_b32 r14 n s0 μ)) := by
  unfold f_X9_hasNext_b32
  refine z_istore_n (pc := 32) (L' := [(0, .ref (b + 0)), (1, .int s0)]) dX9_hasNext_32 (by decide) rfl ?_
  refine z_aload_n (pc := 33) dX9_hasNext_33 rfl ?_
  refine zgI_X9_123 (pc := 34) gm_0 rfl dX9_hasNext_34 ?_
  refine z_aload_n (pc := 37) dX9_hasNext_37 rfl ?_
  refine zgI_X9_126 (pc := 38) gm_0 rfl dX9_hasNext_38 ?_
  refine z_icmp_eq (pc := 41) (tgt := 51) dX9_hasNext_41 (by decide) (fun _ => ?_) (fun _ => ?_)
  · exact w_X9_hasNext_51 _ hr14 n s0 μ
  · refine z_aload_n (pc := 44) dX9_hasNext_44 rfl ?_
    refine zgI_X9_133 (pc := 45) gm_0 rfl dX9_hasNext_45 ?_
    refine z_if_eq (pc := 48) (tgt := 55) dX9_hasNext_48 (by decide) (fun _ => ?_) (fun _ => ?_)
    · refine z_aload_n (pc := 55) dX9_hasNext_55 rfl ?_
      refine zgR_X9_72 (pc := 56) gm_0 rfl dX9_hasNext_56 ?_
      refine z_aload_n (pc := 59) dX9_hasNext_59 rfl ?_
      refine zgI_X9_123 (pc := 60) gm_0 rfl dX9_hasNext_60 ?_
      refine z_iald (pc := 63) gm_18 dX9_hasNext_63 ?_
      exact w_X9_hasNext_64 _ hr14 n s0 (μ.1 18 (z_ix (μ.1 0 26))) μ
    · exact w_X9_hasNext_51 _ hr14 n s0 μ

set_option maxRecDepth 20000 in
theorem w_X9_hasNext_14 {D : va_G} {cI cL : ClassId} {b : Nat} {Z : State → Heap → Prop}  : ∀ (n : Nat)  (μ : z_M), z_w (zEm D cI cL b Z) (RX9, cX9_hasNext, 3, (some .boolean), 3) z_ei 14 [(0, .ref (b + 0))] [] μ (f_X9_hasNext_h14 n μ) := by
  intro n
  induction n with
  | zero =>
    intro  μ
    exact z_none
  | succ n ih =>
    intro  μ
    unfold f_X9_hasNext_h14
    refine z_aload_n (pc := 14) dX9_hasNext_14 rfl ?_
    refine zgI_X9_136 (pc := 15) gm_0 rfl dX9_hasNext_15 ?_
    refine z_if_eq (pc := 18) (tgt := 28) dX9_hasNext_18 (by decide) (fun _ => ?_) (fun _ => ?_)
    · refine z_aload_n (pc := 28) dX9_hasNext_28 rfl ?_
      refine zgI_X9_102 (pc := 29) gm_0 rfl dX9_hasNext_29 ?_
      exact w_X9_hasNext_32 _ ih n (μ.1 0 8) μ
    · refine z_aload_n (pc := 21) dX9_hasNext_21 rfl ?_
      refine zgI_X9_105 (pc := 22) gm_0 rfl dX9_hasNext_22 ?_
      refine z_goto (pc := 25) (tgt := 32) dX9_hasNext_25 (by decide) ?_
      exact w_X9_hasNext_32 _ ih n (μ.1 0 9) μ

set_option maxRecDepth 20000 in
theorem w_X9_hasNext_0 {D : va_G} {cI cL : ClassId} {b : Nat} {Z : State → Heap → Prop}  (n : Nat)  (μ : z_M) : z_w (zEm D cI cL b Z) (RX9, cX9_hasNext, 3, (some .boolean), 3) z_ei 0 [(0, .ref (b + 0))] [] μ ((f_X9_hasNext n μ)) := by
  unfold f_X9_hasNext
  refine z_aload_n (pc := 0) dX9_hasNext_0 rfl ?_
  refine zgI_X9_129 (pc := 1) gm_0 rfl dX9_hasNext_1 ?_
  refine z_if_ne (pc := 4) (tgt := 14) dX9_hasNext_4 (by decide) (fun _ => ?_) (fun _ => ?_)
  · refine z_aload_n (pc := 7) dX9_hasNext_7 rfl ?_
    refine z_iconst (pc := 8) dX9_hasNext_8 zci_1 ?_
    refine zpZ_X9_129 (pc := 9) gm_0 rfl (by decide) dX9_hasNext_9 ?_
    refine z_letMO (fun m1 => ?_)
    refine z_iconst (pc := 12) dX9_hasNext_12 zci_1 ?_
    exact z_zret (pc := 13) rfl dX9_hasNext_13 (by decide)
  · exact w_X9_hasNext_14 n μ

set_option maxRecDepth 20000 in
theorem c_X9_hasNext {D : va_G} {cI cL : ClassId} {b : Nat} {Z : State → Heap → Prop}  (n : Nat)  (μ : z_M) : z_S (zEm D cI cL b Z) 3 yX9_hasNext cX9_hasNext 3 (some .boolean) z_ei [.ref (b + 0)] μ ((f_X9_hasNext n μ)) :=
  z_entry (yn := yX9_hasNext) (by decide) (Nat.le_of_ble_eq_true rfl) rfl (w_X9_hasNext_0 n  μ)

def f_X9_isShelf (a0 : Int32) (μ : z_M) : Int32 :=
  if a0 < 0 then (0) else (if a0 < 8 then (1) else (0))
set_option maxRecDepth 20000 in
theorem w_X9_isShelf_0 {D : va_G} {cI cL : ClassId} {b : Nat} {Z : State → Heap → Prop}  (a0 : Int32) (μ : z_M) : z_w (zEm D cI cL b Z) (RX9, cX9_isShelf, 1, (some .boolean), 0) z_ei 0 [(0, .int a0)] [] μ (z_oP μ (f_X9_isShelf a0 μ)) := by
  unfold f_X9_isShelf
  refine z_iload_n (pc := 0) dX9_isShelf_0 rfl ?_
  refine z_outIf ?_
  refine z_if_lt (pc := 1) (tgt := 14) dX9_isShelf_1 (by decide) (fun _ => ?_) (fun _ => ?_)
  · refine z_iconst (pc := 14) dX9_isShelf_14 zci_0 ?_
    exact z_zret (pc := 15) rfl dX9_isShelf_15 (by decide)
  · refine z_iload_n (pc := 4) dX9_isShelf_4 rfl ?_
    refine z_bipush (pc := 5) dX9_isShelf_5 zcb_8 ?_
    refine z_outIf ?_
    refine z_icmp_ge (pc := 7) (tgt := 14) dX9_isShelf_7 (by decide) (fun _ => ?_) (fun _ => ?_)
    · refine z_iconst (pc := 10) dX9_isShelf_10 zci_1 ?_
      refine z_goto (pc := 11) (tgt := 15) dX9_isShelf_11 (by decide) ?_
      exact z_zret (pc := 15) rfl dX9_isShelf_15 (by decide)
    · refine z_iconst (pc := 14) dX9_isShelf_14 zci_0 ?_
      exact z_zret (pc := 15) rfl dX9_isShelf_15 (by decide)

set_option maxRecDepth 20000 in
theorem c_X9_isShelf {D : va_G} {cI cL : ClassId} {b : Nat} {Z : State → Heap → Prop}  (a0 : Int32) (μ : z_M) : z_S (zEm D cI cL b Z) 0 yX9_isShelf cX9_isShelf 1 (some .boolean) z_ei [.int a0] μ (z_oP μ (f_X9_isShelf a0 μ)) :=
  z_entry (yn := yX9_isShelf) (by decide) (Nat.le_of_ble_eq_true rfl) rfl (w_X9_isShelf_0 a0 μ)
set_option maxRecDepth 20000 in
theorem bl_X9_isShelf (a0 : Int32) (μ : z_M) : f_X9_isShelf a0 μ = 0 ∨ f_X9_isShelf a0 μ = 1 := by
  unfold f_X9_isShelf
  repeat' (first | with_reducible exact z_bl0 | with_reducible exact z_bl1 | with_reducible refine z_blI ?_ ?_ | with_reducible refine z_blL (fun _ => ?_))

def f_X9_notRow (a1 : Int32) (μ : z_M) : Option (Int32 × z_M) :=
  if (f_X9_isShelf a1 μ) = 0 then (some ((-1), μ)) else (z_chk a1 8 (if (μ.1 19 (z_ix a1)) = 4 then (some ((-2), μ)) else (z_chk a1 8 (if (μ.1 19 (z_ix a1)) < 0 then (some ((-3), μ)) else (some (0, μ))))))
set_option maxRecDepth 20000 in
theorem w_X9_notRow_0 {D : va_G} {cI cL : ClassId} {b : Nat} {Z : State → Heap → Prop}  (a1 : Int32) (μ : z_M) : z_w (zEm D cI cL b Z) (RX9, cX9_notRow, 2, (some .int), 1) z_ei 0 [(0, .ref (b + 0)), (1, .int a1)] [] μ ((f_X9_notRow a1 μ)) := by
  unfold f_X9_notRow
  refine z_iload_n (pc := 0) dX9_notRow_0 rfl ?_
  refine z_callSi (pc := 1) (As := [.int a1]) (S := []) (c_X9_isShelf a1 μ) rfl zw_X9_isShelf zs_X9_isShelf zm_X9_164 (n := 1) (by decide) rfl rfl (Nat.le_of_ble_eq_true rfl) (by decide) (by decide) dX9_notRow_1 ?_
  refine z_if_ne (pc := 4) (tgt := 11) dX9_notRow_4 (by decide) (fun _ => ?_) (fun _ => ?_)
  · refine z_iconst (pc := 7) dX9_notRow_7 zci_m1 ?_
    refine z_goto (pc := 8) (tgt := 41) dX9_notRow_8 (by decide) ?_
    exact z_iret (pc := 41) rfl dX9_notRow_41
  · refine z_aload_n (pc := 11) dX9_notRow_11 rfl ?_
    refine zgR_X9_75 (pc := 12) gm_0 rfl dX9_notRow_12 ?_
    refine z_iload_n (pc := 15) dX9_notRow_15 rfl ?_
    refine z_iald (pc := 16) gm_19 dX9_notRow_16 ?_
    refine z_iconst (pc := 17) dX9_notRow_17 zci_4 ?_
    refine z_icmp_ne (pc := 18) (tgt := 26) dX9_notRow_18 (by decide) (fun _ => ?_) (fun _ => ?_)
    · refine z_bipush (pc := 21) dX9_notRow_21 zcb_m2 ?_
      refine z_goto (pc := 23) (tgt := 41) dX9_notRow_23 (by decide) ?_
      exact z_iret (pc := 41) rfl dX9_notRow_41
    · refine z_aload_n (pc := 26) dX9_notRow_26 rfl ?_
      refine zgR_X9_75 (pc := 27) gm_0 rfl dX9_notRow_27 ?_
      refine z_iload_n (pc := 30) dX9_notRow_30 rfl ?_
      refine z_iald (pc := 31) gm_19 dX9_notRow_31 ?_
      refine z_if_ge (pc := 32) (tgt := 40) dX9_notRow_32 (by decide) (fun _ => ?_) (fun _ => ?_)
      · refine z_bipush (pc := 35) dX9_notRow_35 zcb_m3 ?_
        refine z_goto (pc := 37) (tgt := 41) dX9_notRow_37 (by decide) ?_
        exact z_iret (pc := 41) rfl dX9_notRow_41
      · refine z_iconst (pc := 40) dX9_notRow_40 zci_0 ?_
        exact z_iret (pc := 41) rfl dX9_notRow_41

set_option maxRecDepth 20000 in
theorem c_X9_notRow {D : va_G} {cI cL : ClassId} {b : Nat} {Z : State → Heap → Prop}  (a1 : Int32) (μ : z_M) : z_S (zEm D cI cL b Z) 1 yX9_notRow cX9_notRow 2 (some .int) z_ei [.ref (b + 0), .int a1] μ ((f_X9_notRow a1 μ)) :=
  z_entry (yn := yX9_notRow) (by decide) (Nat.le_of_ble_eq_true rfl) rfl (w_X9_notRow_0 a1 μ)

def f_X9_intAt (a1 : Int32) (a2 : Int32) (μ : z_M) : Option (Int32 × z_M) :=
  z_chk ((160 * a1) + a2) 1280 (some ((Int64.toInt32 (μ.2 22 (z_ix ((160 * a1) + a2)))), μ))
set_option maxRecDepth 20000 in
theorem w_X9_intAt_0 {D : va_G} {cI cL : ClassId} {b : Nat} {Z : State → Heap → Prop}  (a1 : Int32) (a2 : Int32) (μ : z_M) : z_w (zEm D cI cL b Z) (RX9, cX9_intAt, 3, (some .int), 0) z_ei 0 [(0, .ref (b + 0)), (1, .int a1), (2, .int a2)] [] μ ((f_X9_intAt a1 a2 μ)) := by
  unfold f_X9_intAt
  refine z_aload_n (pc := 0) dX9_intAt_0 rfl ?_
  refine zgR_X9_84 (pc := 1) gm_0 rfl dX9_intAt_1 ?_
  refine z_sipush (pc := 4) dX9_intAt_4 zcs_160 ?_
  refine z_iload_n (pc := 7) dX9_intAt_7 rfl ?_
  refine z_imul (pc := 8) dX9_intAt_8 ?_
  refine z_iload_n (pc := 9) dX9_intAt_9 rfl ?_
  refine z_iadd (pc := 10) dX9_intAt_10 ?_
  refine z_lald (pc := 11) gm_22 dX9_intAt_11 ?_
  refine z_l2i (pc := 12) dX9_intAt_12 ?_
  exact z_iret (pc := 13) rfl dX9_intAt_13

set_option maxRecDepth 20000 in
theorem c_X9_intAt {D : va_G} {cI cL : ClassId} {b : Nat} {Z : State → Heap → Prop}  (a1 : Int32) (a2 : Int32) (μ : z_M) : z_S (zEm D cI cL b Z) 0 yX9_intAt cX9_intAt 3 (some .int) z_ei [.ref (b + 0), .int a1, .int a2] μ ((f_X9_intAt a1 a2 μ)) :=
  z_entry (yn := yX9_intAt) (by decide) (Nat.le_of_ble_eq_true rfl) rfl (w_X9_intAt_0 a1 a2 μ)

def f_X9_row_h78 : Nat → Int32 → Int32 → Int32 → z_M → Option (Int32 × z_M)
  | 0, _, _, _, _ => none
  | n + 1, l1, l3, l5, μ =>
    if l5 < l3 then (z_chk ((160 * l1) + l5) 1280 (z_let (z_sL μ 22 (z_ix ((160 * l1) + l5)) 0) (fun m3 => f_X9_row_h78 n l1 l3 (l5 + 1) m3))) else (some (1, μ))
def f_X9_row_b47 (n : Nat) (l1 : Int32) (l2 : Int32) (l3 : Int32) (s0 : Int32) (μ : z_M) : Option (Int32 × z_M) :=
  if s0 = 0 then (z_chk l1 8 (z_let (z_sI μ 19 (z_ix l1) l2) (fun m1 => z_chk l1 8 (z_let (z_sI m1 20 (z_ix l1) l3) (fun m2 => f_X9_row_h78 n l1 l3 0 m2))))) else (z_bind (f_X9_no s0 μ) (fun p4 => some (p4.1, p4.2)))
def f_X9_row (n : Nat) (a1 : Int32) (a2 : Int32) (a3 : Int32) (μ : z_M) : Option (Int32 × z_M) :=
  if (f_X9_isShelf a1 μ) = 0 then (f_X9_row_b47 n a1 a2 a3 (-1) μ) else (if a3 < 0 then (f_X9_row_b47 n a1 a2 a3 (-4) μ) else (if (f_X9_isIn a2 0 3 μ) = 0 then (f_X9_row_b47 n a1 a2 a3 (-6) μ) else (if (160 : Int32) < a3 then (f_X9_row_b47 n a1 a2 a3 (-7) μ) else (f_X9_row_b47 n a1 a2 a3 0 μ))))
set_option maxRecDepth 20000 in
theorem w_X9_row_78 {D : va_G} {cI cL : ClassId} {b : Nat} {Z : State → Heap → Prop}  : ∀ (n : Nat) (l1 : Int32) (l3 : Int32) (l5 : Int32) (μ : z_M), z_w (zEm D cI cL b Z) (RX9, cX9_row, 6, (some .int), 1) z_ei 78 [(0, .ref (b + 0)), (1, .int l1), (3, .int l3), (5, .int l5)] [] μ (f_X9_row_h78 n l1 l3 l5 μ) := by
  intro n
  induction n with
  | zero =>
    intro l1 l3 l5 μ
    exact z_none
  | succ n ih =>
    intro l1 l3 l5 μ
    unfold f_X9_row_h78
    refine z_iload (pc := 78) dX9_row_78 rfl ?_
    refine z_iload_n (pc := 80) dX9_row_80 rfl ?_
    refine z_icmp_ge (pc := 81) (tgt := 104) dX9_row_81 (by decide) (fun _ => ?_) (fun _ => ?_)
    · refine z_aload_n (pc := 84) dX9_row_84 rfl ?_
      refine zgR_X9_84 (pc := 85) gm_0 rfl dX9_row_85 ?_
      refine z_sipush (pc := 88) dX9_row_88 zcs_160 ?_
      refine z_iload_n (pc := 91) dX9_row_91 rfl ?_
      refine z_imul (pc := 92) dX9_row_92 ?_
      refine z_iload (pc := 93) dX9_row_93 rfl ?_
      refine z_iadd (pc := 95) dX9_row_95 ?_
      refine z_lconst (pc := 96) dX9_row_96 zcl_0 ?_
      refine z_last (pc := 97) gm_22 dX9_row_97 ?_
      refine z_letMO (fun m3 => ?_)
      refine z_iinc (pc := 98) (v := (l5 + 1)) (L' := [(0, .ref (b + 0)), (1, .int l1), (3, .int l3), (5, .int (l5 + 1))]) dX9_row_98 rfl (by decide) rfl rfl ?_
      refine z_goto (pc := 101) (tgt := 78) dX9_row_101 (by decide) ?_
      exact ih l1 l3 (l5 + 1) m3
    · refine z_iconst (pc := 104) dX9_row_104 zci_1 ?_
      exact z_iret (pc := 105) rfl dX9_row_105

set_option maxRecDepth 20000 in
theorem w_X9_row_47 {D : va_G} {cI cL : ClassId} {b : Nat} {Z : State → Heap → Prop}  (n : Nat) (l1 : Int32) (l2 : Int32) (l3 : Int32) (s0 : Int32) (μ : z_M) : z_w (zEm D cI cL b Z) (RX9, cX9_row, 6, (some .int), 1) z_ei 47 [(0, .ref (b + 0)), (1, .int l1), (2, .int l2), (3, .int l3)] [.int s0] μ ((f_X9_row_b47 n l1 l2 l3 s0 μ)) := by
  unfold f_X9_row_b47
  refine z_istore (pc := 47) (L' := [(0, .ref (b + 0)), (1, .int l1), (2, .int l2), (3, .int l3), (4, .int s0)]) dX9_row_47 (by decide) rfl ?_
  refine z_iload (pc := 49) dX9_row_49 rfl ?_
  refine z_if_eq (pc := 51) (tgt := 61) dX9_row_51 (by decide) (fun _ => ?_) (fun _ => ?_)
  · refine z_aload_n (pc := 61) dX9_row_61 rfl ?_
    refine zgR_X9_75 (pc := 62) gm_0 rfl dX9_row_62 ?_
    refine z_iload_n (pc := 65) dX9_row_65 rfl ?_
    refine z_iload_n (pc := 66) dX9_row_66 rfl ?_
    refine z_iast (pc := 67) gm_19 dX9_row_67 ?_
    refine z_letMO (fun m1 => ?_)
    refine z_aload_n (pc := 68) dX9_row_68 rfl ?_
    refine zgR_X9_78 (pc := 69) gm_0 rfl dX9_row_69 ?_
    refine z_iload_n (pc := 72) dX9_row_72 rfl ?_
    refine z_iload_n (pc := 73) dX9_row_73 rfl ?_
    refine z_iast (pc := 74) gm_20 dX9_row_74 ?_
    refine z_letMO (fun m2 => ?_)
    refine z_iconst (pc := 75) dX9_row_75 zci_0 ?_
    refine z_istore (pc := 76) (L' := [(0, .ref (b + 0)), (1, .int l1), (2, .int l2), (3, .int l3), (4, .int s0), (5, .int 0)]) dX9_row_76 (by decide) rfl ?_
    refine z_drop (L' := [(0, .ref (b + 0)), (1, .int l1), (3, .int l3), (5, .int 0)]) [0, 1, 3, 5] rfl ?_
    exact w_X9_row_78 n l1 l3 0 m2
  · refine z_aload_n (pc := 54) dX9_row_54 rfl ?_
    refine z_iload (pc := 55) dX9_row_55 rfl ?_
    refine z_bindP (fun p4 hp4 => ?_)
    refine z_callVi (pc := 57) (As := [.int s0]) (S := []) (c_X9_no s0 μ) hp4 zw_X9_no zv_X9_no zm_X9_171 (n := 1) (by decide) rfl (z_recv gm_0 (T := TX9) (N := 52) rfl) rfl (Nat.le_of_ble_eq_true rfl) (by decide) (by decide) dX9_row_57 ?_
    exact z_iret (pc := 60) rfl dX9_row_60

set_option maxRecDepth 20000 in
theorem w_X9_row_0 {D : va_G} {cI cL : ClassId} {b : Nat} {Z : State → Heap → Prop}  (n : Nat) (a1 : Int32) (a2 : Int32) (a3 : Int32) (μ : z_M) : z_w (zEm D cI cL b Z) (RX9, cX9_row, 6, (some .int), 1) z_ei 0 [(0, .ref (b + 0)), (1, .int a1), (2, .int a2), (3, .int a3)] [] μ ((f_X9_row n a1 a2 a3 μ)) := by
  unfold f_X9_row
  refine z_iload_n (pc := 0) dX9_row_0 rfl ?_
  refine z_callSi (pc := 1) (As := [.int a1]) (S := []) (c_X9_isShelf a1 μ) rfl zw_X9_isShelf zs_X9_isShelf zm_X9_164 (n := 1) (by decide) rfl rfl (Nat.le_of_ble_eq_true rfl) (by decide) (by decide) dX9_row_1 ?_
  refine z_if_ne (pc := 4) (tgt := 11) dX9_row_4 (by decide) (fun _ => ?_) (fun _ => ?_)
  · refine z_iconst (pc := 7) dX9_row_7 zci_m1 ?_
    refine z_goto (pc := 8) (tgt := 47) dX9_row_8 (by decide) ?_
    exact w_X9_row_47 n a1 a2 a3 (-1) μ
  · refine z_iload_n (pc := 11) dX9_row_11 rfl ?_
    refine z_if_ge (pc := 12) (tgt := 20) dX9_row_12 (by decide) (fun _ => ?_) (fun _ => ?_)
    · refine z_bipush (pc := 15) dX9_row_15 zcb_m4 ?_
      refine z_goto (pc := 17) (tgt := 47) dX9_row_17 (by decide) ?_
      exact w_X9_row_47 n a1 a2 a3 (-4) μ
    · refine z_iload_n (pc := 20) dX9_row_20 rfl ?_
      refine z_iconst (pc := 21) dX9_row_21 zci_0 ?_
      refine z_iconst (pc := 22) dX9_row_22 zci_3 ?_
      refine z_callSi (pc := 23) (As := [.int a2, .int 0, .int 3]) (S := []) (c_X9_isIn a2 0 3 μ) rfl zw_X9_isIn zs_X9_isIn zm_X9_167 (n := 3) (by decide) rfl rfl (Nat.le_of_ble_eq_true rfl) (by decide) (by decide) dX9_row_23 ?_
      refine z_if_ne (pc := 26) (tgt := 34) dX9_row_26 (by decide) (fun _ => ?_) (fun _ => ?_)
      · refine z_bipush (pc := 29) dX9_row_29 zcb_m6 ?_
        refine z_goto (pc := 31) (tgt := 47) dX9_row_31 (by decide) ?_
        exact w_X9_row_47 n a1 a2 a3 (-6) μ
      · refine z_iload_n (pc := 34) dX9_row_34 rfl ?_
        refine z_sipush (pc := 35) dX9_row_35 zcs_160 ?_
        refine z_icmp_le (pc := 38) (tgt := 46) dX9_row_38 (by decide) (fun _ => ?_) (fun _ => ?_)
        · refine z_bipush (pc := 41) dX9_row_41 zcb_m7 ?_
          refine z_goto (pc := 43) (tgt := 47) dX9_row_43 (by decide) ?_
          exact w_X9_row_47 n a1 a2 a3 (-7) μ
        · refine z_iconst (pc := 46) dX9_row_46 zci_0 ?_
          exact w_X9_row_47 n a1 a2 a3 0 μ

set_option maxRecDepth 20000 in
theorem c_X9_row {D : va_G} {cI cL : ClassId} {b : Nat} {Z : State → Heap → Prop}  (n : Nat) (a1 : Int32) (a2 : Int32) (a3 : Int32) (μ : z_M) : z_S (zEm D cI cL b Z) 1 yX9_row cX9_row 6 (some .int) z_ei [.ref (b + 0), .int a1, .int a2, .int a3] μ ((f_X9_row n a1 a2 a3 μ)) :=
  z_entry (yn := yX9_row) (by decide) (Nat.le_of_ble_eq_true rfl) rfl (w_X9_row_0 n a1 a2 a3 μ)

def f_X9_cutTo (a0 : Int32) (a1 : Int64) (μ : z_M) : Int64 :=
  if a0 = 0 then ((Int32.toInt64 ((Int32.toInt8 (Int64.toInt32 a1)).toInt32))) else (if a0 = 1 then ((Int32.toInt64 ((Int32.toInt16 (Int64.toInt32 a1)).toInt32))) else (if a0 = 2 then ((Int32.toInt64 (Int64.toInt32 a1))) else (a1)))
set_option maxRecDepth 20000 in
theorem w_X9_cutTo_0 {D : va_G} {cI cL : ClassId} {b : Nat} {Z : State → Heap → Prop}  (a0 : Int32) (a1 : Int64) (μ : z_M) : z_w (zEm D cI cL b Z) (RX9, cX9_cutTo, 3, (some .long), 0) z_el 0 [(0, .int a0), (1, .long a1)] [] μ (z_oP μ (f_X9_cutTo a0 a1 μ)) := by
  unfold f_X9_cutTo
  refine z_iload_n (pc := 0) dX9_cutTo_0 rfl ?_
  refine z_outIf ?_
  refine z_if_ne (pc := 1) (tgt := 11) dX9_cutTo_1 (by decide) (fun _ => ?_) (fun _ => ?_)
  · refine z_lload_n (pc := 4) dX9_cutTo_4 rfl ?_
    refine z_l2i (pc := 5) dX9_cutTo_5 ?_
    refine z_i2b (pc := 6) dX9_cutTo_6 ?_
    refine z_i2l (pc := 7) dX9_cutTo_7 ?_
    refine z_goto (pc := 8) (tgt := 35) dX9_cutTo_8 (by decide) ?_
    exact z_lret (pc := 35) rfl dX9_cutTo_35
  · refine z_iload_n (pc := 11) dX9_cutTo_11 rfl ?_
    refine z_iconst (pc := 12) dX9_cutTo_12 zci_1 ?_
    refine z_outIf ?_
    refine z_icmp_ne (pc := 13) (tgt := 23) dX9_cutTo_13 (by decide) (fun _ => ?_) (fun _ => ?_)
    · refine z_lload_n (pc := 16) dX9_cutTo_16 rfl ?_
      refine z_l2i (pc := 17) dX9_cutTo_17 ?_
      refine z_i2s (pc := 18) dX9_cutTo_18 ?_
      refine z_i2l (pc := 19) dX9_cutTo_19 ?_
      refine z_goto (pc := 20) (tgt := 35) dX9_cutTo_20 (by decide) ?_
      exact z_lret (pc := 35) rfl dX9_cutTo_35
    · refine z_iload_n (pc := 23) dX9_cutTo_23 rfl ?_
      refine z_iconst (pc := 24) dX9_cutTo_24 zci_2 ?_
      refine z_outIf ?_
      refine z_icmp_ne (pc := 25) (tgt := 34) dX9_cutTo_25 (by decide) (fun _ => ?_) (fun _ => ?_)
      · refine z_lload_n (pc := 28) dX9_cutTo_28 rfl ?_
        refine z_l2i (pc := 29) dX9_cutTo_29 ?_
        refine z_i2l (pc := 30) dX9_cutTo_30 ?_
        refine z_goto (pc := 31) (tgt := 35) dX9_cutTo_31 (by decide) ?_
        exact z_lret (pc := 35) rfl dX9_cutTo_35
      · refine z_lload_n (pc := 34) dX9_cutTo_34 rfl ?_
        exact z_lret (pc := 35) rfl dX9_cutTo_35

set_option maxRecDepth 20000 in
theorem c_X9_cutTo {D : va_G} {cI cL : ClassId} {b : Nat} {Z : State → Heap → Prop}  (a0 : Int32) (a1 : Int64) (μ : z_M) : z_S (zEm D cI cL b Z) 0 yX9_cutTo cX9_cutTo 3 (some .long) z_el [.int a0, .long a1] μ (z_oP μ (f_X9_cutTo a0 a1 μ)) :=
  z_entry (yn := yX9_cutTo) (by decide) (Nat.le_of_ble_eq_true rfl) rfl (w_X9_cutTo_0 a0 a1 μ)

def f_X9_set_b32 (l1 : Int32) (l2 : Int32) (l3 : Int64) (l5 : Int32) (μ : z_M) : Option (Int32 × z_M) :=
  if l5 = 0 then (z_chk l1 8 (z_chk ((160 * l1) + l2) 1280 (z_let (z_sL μ 22 (z_ix ((160 * l1) + l2)) (f_X9_cutTo (μ.1 19 (z_ix l1)) l3 μ)) (fun m2 => some (1, m2))))) else (z_bind (f_X9_no l5 μ) (fun p3 => some (p3.1, p3.2)))
def f_X9_set (a1 : Int32) (a2 : Int32) (a3 : Int64) (μ : z_M) : Option (Int32 × z_M) :=
  z_bind (f_X9_notRow a1 μ) (fun p1 => if p1.1 = 0 then (z_chk a1 8 (if (f_X9_isIn a2 0 ((p1.2.1 20 (z_ix a1)) - 1) p1.2) = 0 then (f_X9_set_b32 a1 a2 a3 (-5) p1.2) else (f_X9_set_b32 a1 a2 a3 p1.1 p1.2))) else (f_X9_set_b32 a1 a2 a3 p1.1 p1.2))
set_option maxRecDepth 20000 in
theorem w_X9_set_32 {D : va_G} {cI cL : ClassId} {b : Nat} {Z : State → Heap → Prop}  (l1 : Int32) (l2 : Int32) (l3 : Int64) (l5 : Int32) (μ : z_M) : z_w (zEm D cI cL b Z) (RX9, cX9_set, 6, (some .int), 2) z_ei 32 [(0, .ref (b + 0)), (1, .int l1), (2, .int l2), (3, .long l3), (5, .int l5)] [] μ ((f_X9_set_b32 l1 l2 l3 l5 μ)) := by
  unfold f_X9_set_b32
  refine z_iload (pc := 32) dX9_set_32 rfl ?_
  refine z_if_eq (pc := 34) (tgt := 44) dX9_set_34 (by decide) (fun _ => ?_) (fun _ => ?_)
  · refine z_aload_n (pc := 44) dX9_set_44 rfl ?_
    refine zgR_X9_84 (pc := 45) gm_0 rfl dX9_set_45 ?_
    refine z_sipush (pc := 48) dX9_set_48 zcs_160 ?_
    refine z_iload_n (pc := 51) dX9_set_51 rfl ?_
    refine z_imul (pc := 52) dX9_set_52 ?_
    refine z_iload_n (pc := 53) dX9_set_53 rfl ?_
    refine z_iadd (pc := 54) dX9_set_54 ?_
    refine z_aload_n (pc := 55) dX9_set_55 rfl ?_
    refine zgR_X9_75 (pc := 56) gm_0 rfl dX9_set_56 ?_
    refine z_iload_n (pc := 59) dX9_set_59 rfl ?_
    refine z_iald (pc := 60) gm_19 dX9_set_60 ?_
    refine z_lload_n (pc := 61) dX9_set_61 rfl ?_
    refine z_callSl (pc := 62) (As := [.int (μ.1 19 (z_ix l1)), .long l3]) (S := [.int ((160 * l1) + l2), .ref (b + 22)]) (c_X9_cutTo (μ.1 19 (z_ix l1)) l3 μ) rfl zw_X9_cutTo zs_X9_cutTo zm_X9_177 (n := 2) (by decide) rfl rfl (Nat.le_of_ble_eq_true rfl) (by decide) (by decide) dX9_set_62 ?_
    refine z_last (pc := 65) gm_22 dX9_set_65 ?_
    refine z_letMO (fun m2 => ?_)
    refine z_iconst (pc := 66) dX9_set_66 zci_1 ?_
    exact z_iret (pc := 67) rfl dX9_set_67
  · refine z_aload_n (pc := 37) dX9_set_37 rfl ?_
    refine z_iload (pc := 38) dX9_set_38 rfl ?_
    refine z_bindP (fun p3 hp3 => ?_)
    refine z_callVi (pc := 40) (As := [.int l5]) (S := []) (c_X9_no l5 μ) hp3 zw_X9_no zv_X9_no zm_X9_171 (n := 1) (by decide) rfl (z_recv gm_0 (T := TX9) (N := 52) rfl) rfl (Nat.le_of_ble_eq_true rfl) (by decide) (by decide) dX9_set_40 ?_
    exact z_iret (pc := 43) rfl dX9_set_43

set_option maxRecDepth 20000 in
theorem w_X9_set_0 {D : va_G} {cI cL : ClassId} {b : Nat} {Z : State → Heap → Prop}  (a1 : Int32) (a2 : Int32) (a3 : Int64) (μ : z_M) : z_w (zEm D cI cL b Z) (RX9, cX9_set, 6, (some .int), 2) z_ei 0 [(0, .ref (b + 0)), (1, .int a1), (2, .int a2), (3, .long a3)] [] μ ((f_X9_set a1 a2 a3 μ)) := by
  unfold f_X9_set
  refine z_aload_n (pc := 0) dX9_set_0 rfl ?_
  refine z_iload_n (pc := 1) dX9_set_1 rfl ?_
  refine z_bindP (fun p1 hp1 => ?_)
  refine z_callVi (pc := 2) (As := [.int a1]) (S := []) (c_X9_notRow a1 μ) hp1 zw_X9_notRow zv_X9_notRow zm_X9_174 (n := 1) (by decide) rfl (z_recv gm_0 (T := TX9) (N := 52) rfl) rfl (Nat.le_of_ble_eq_true rfl) (by decide) (by decide) dX9_set_2 ?_
  refine z_istore (pc := 5) (L' := [(0, .ref (b + 0)), (1, .int a1), (2, .int a2), (3, .long a3), (5, .int p1.1)]) dX9_set_5 (by decide) rfl ?_
  refine z_iload (pc := 7) dX9_set_7 rfl ?_
  refine z_if_ne (pc := 9) (tgt := 32) dX9_set_9 (by decide) (fun _ => ?_) (fun _ => ?_)
  · refine z_iload_n (pc := 12) dX9_set_12 rfl ?_
    refine z_iconst (pc := 13) dX9_set_13 zci_0 ?_
    refine z_aload_n (pc := 14) dX9_set_14 rfl ?_
    refine zgR_X9_78 (pc := 15) gm_0 rfl dX9_set_15 ?_
    refine z_iload_n (pc := 18) dX9_set_18 rfl ?_
    refine z_iald (pc := 19) gm_20 dX9_set_19 ?_
    refine z_iconst (pc := 20) dX9_set_20 zci_1 ?_
    refine z_isub (pc := 21) dX9_set_21 ?_
    refine z_callSi (pc := 22) (As := [.int a2, .int 0, .int ((p1.2.1 20 (z_ix a1)) - 1)]) (S := []) (c_X9_isIn a2 0 ((p1.2.1 20 (z_ix a1)) - 1) p1.2) rfl zw_X9_isIn zs_X9_isIn zm_X9_167 (n := 3) (by decide) rfl rfl (Nat.le_of_ble_eq_true rfl) (by decide) (by decide) dX9_set_22 ?_
    refine z_if_ne (pc := 25) (tgt := 32) dX9_set_25 (by decide) (fun _ => ?_) (fun _ => ?_)
    · refine z_bipush (pc := 28) dX9_set_28 zcb_m5 ?_
      refine z_istore (pc := 30) (L' := [(0, .ref (b + 0)), (1, .int a1), (2, .int a2), (3, .long a3), (5, .int (-5))]) dX9_set_30 (by decide) rfl ?_
      exact w_X9_set_32 a1 a2 a3 (-5) p1.2
    · exact w_X9_set_32 a1 a2 a3 p1.1 p1.2
  · exact w_X9_set_32 a1 a2 a3 p1.1 p1.2

set_option maxRecDepth 20000 in
theorem c_X9_set {D : va_G} {cI cL : ClassId} {b : Nat} {Z : State → Heap → Prop}  (a1 : Int32) (a2 : Int32) (a3 : Int64) (μ : z_M) : z_S (zEm D cI cL b Z) 2 yX9_set cX9_set 6 (some .int) z_ei [.ref (b + 0), .int a1, .int a2, .long a3] μ ((f_X9_set a1 a2 a3 μ)) :=
  z_entry (yn := yX9_set) (by decide) (Nat.le_of_ble_eq_true rfl) rfl (w_X9_set_0 a1 a2 a3 μ)

def f_X9_hasCells (a1 : Int32) (a2 : Int32) (a3 : Int32) (μ : z_M) : Option (Int32 × z_M) :=
  if a2 < 0 then (some (0, μ)) else (z_chk a1 8 (if (μ.1 20 (z_ix a1)) < a2 then (some (0, μ)) else (z_chk a1 8 (if ((μ.1 20 (z_ix a1)) - a2) < a3 then (some (0, μ)) else (some (1, μ))))))
set_option maxRecDepth 20000 in
theorem w_X9_hasCells_0 {D : va_G} {cI cL : ClassId} {b : Nat} {Z : State → Heap → Prop}  (a1 : Int32) (a2 : Int32) (a3 : Int32) (μ : z_M) : z_w (zEm D cI cL b Z) (RX9, cX9_hasCells, 4, (some .boolean), 0) z_ei 0 [(0, .ref (b + 0)), (1, .int a1), (2, .int a2), (3, .int a3)] [] μ ((f_X9_hasCells a1 a2 a3 μ)) := by
  unfold f_X9_hasCells
  refine z_iload_n (pc := 0) dX9_hasCells_0 rfl ?_
  refine z_if_lt (pc := 1) (tgt := 30) dX9_hasCells_1 (by decide) (fun _ => ?_) (fun _ => ?_)
  · refine z_iconst (pc := 30) dX9_hasCells_30 zci_0 ?_
    exact z_zret (pc := 31) rfl dX9_hasCells_31 (by decide)
  · refine z_iload_n (pc := 4) dX9_hasCells_4 rfl ?_
    refine z_aload_n (pc := 5) dX9_hasCells_5 rfl ?_
    refine zgR_X9_78 (pc := 6) gm_0 rfl dX9_hasCells_6 ?_
    refine z_iload_n (pc := 9) dX9_hasCells_9 rfl ?_
    refine z_iald (pc := 10) gm_20 dX9_hasCells_10 ?_
    refine z_icmp_gt (pc := 11) (tgt := 30) dX9_hasCells_11 (by decide) (fun _ => ?_) (fun _ => ?_)
    · refine z_iconst (pc := 30) dX9_hasCells_30 zci_0 ?_
      exact z_zret (pc := 31) rfl dX9_hasCells_31 (by decide)
    · refine z_iload_n (pc := 14) dX9_hasCells_14 rfl ?_
      refine z_aload_n (pc := 15) dX9_hasCells_15 rfl ?_
      refine zgR_X9_78 (pc := 16) gm_0 rfl dX9_hasCells_16 ?_
      refine z_iload_n (pc := 19) dX9_hasCells_19 rfl ?_
      refine z_iald (pc := 20) gm_20 dX9_hasCells_20 ?_
      refine z_iload_n (pc := 21) dX9_hasCells_21 rfl ?_
      refine z_isub (pc := 22) dX9_hasCells_22 ?_
      refine z_icmp_gt (pc := 23) (tgt := 30) dX9_hasCells_23 (by decide) (fun _ => ?_) (fun _ => ?_)
      · refine z_iconst (pc := 30) dX9_hasCells_30 zci_0 ?_
        exact z_zret (pc := 31) rfl dX9_hasCells_31 (by decide)
      · refine z_iconst (pc := 26) dX9_hasCells_26 zci_1 ?_
        refine z_goto (pc := 27) (tgt := 31) dX9_hasCells_27 (by decide) ?_
        exact z_zret (pc := 31) rfl dX9_hasCells_31 (by decide)

set_option maxRecDepth 20000 in
theorem c_X9_hasCells {D : va_G} {cI cL : ClassId} {b : Nat} {Z : State → Heap → Prop}  (a1 : Int32) (a2 : Int32) (a3 : Int32) (μ : z_M) : z_S (zEm D cI cL b Z) 0 yX9_hasCells cX9_hasCells 4 (some .boolean) z_ei [.ref (b + 0), .int a1, .int a2, .int a3] μ ((f_X9_hasCells a1 a2 a3 μ)) :=
  z_entry (yn := yX9_hasCells) (by decide) (Nat.le_of_ble_eq_true rfl) rfl (w_X9_hasCells_0 a1 a2 a3 μ)

def f_X9_notCopy_b125  (μ : z_M) : Option (Int32 × z_M) :=
  some ((-5), μ)
def f_X9_notCopy_b84 (l1 : Int32) (l2 : Int32) (l3 : Int32) (l4 : Int32) (l5 : Int32) (l6 : Int32) (μ : z_M) : Option (Int32 × z_M) :=
  if l6 = 0 then (some ((-3), μ)) else (if l5 < 0 then (some ((-4), μ)) else (z_bind (f_X9_hasCells l1 l3 l5 μ) (fun p1 => if p1.1 = 0 then (f_X9_notCopy_b125 p1.2) else (z_bind (f_X9_hasCells l2 l4 l5 p1.2) (fun p2 => if p2.1 = 0 then (f_X9_notCopy_b125 p2.2) else (some (0, p2.2)))))))
def f_X9_notCopy_b39 (l1 : Int32) (l2 : Int32) (l3 : Int32) (l4 : Int32) (l5 : Int32) (s0 : Int32) (μ : z_M) : Option (Int32 × z_M) :=
  z_chk l1 8 (if (μ.1 19 (z_ix l1)) = 4 then (some ((-2), μ)) else (z_chk l2 8 (if (μ.1 19 (z_ix l2)) = 4 then (some ((-2), μ)) else (if s0 = 0 then (f_X9_notCopy_b84 l1 l2 l3 l4 l5 s0 μ) else (z_chk l1 8 (z_chk l2 8 (if (μ.1 19 (z_ix l1)) = (μ.1 19 (z_ix l2)) then (f_X9_notCopy_b84 l1 l2 l3 l4 l5 s0 μ) else (some ((-2), μ)))))))))
def f_X9_notCopy_b38 (l1 : Int32) (l2 : Int32) (l3 : Int32) (l4 : Int32) (l5 : Int32) (μ : z_M) : Option (Int32 × z_M) :=
  f_X9_notCopy_b39 l1 l2 l3 l4 l5 0 μ
def f_X9_notCopy (a1 : Int32) (a2 : Int32) (a3 : Int32) (a4 : Int32) (a5 : Int32) (μ : z_M) : Option (Int32 × z_M) :=
  if (f_X9_isShelf a1 μ) = 0 then (some ((-1), μ)) else (if (f_X9_isShelf a2 μ) = 0 then (some ((-1), μ)) else (z_chk a1 8 (if (μ.1 19 (z_ix a1)) < 0 then (f_X9_notCopy_b38 a1 a2 a3 a4 a5 μ) else (z_chk a2 8 (if (μ.1 19 (z_ix a2)) < 0 then (f_X9_notCopy_b38 a1 a2 a3 a4 a5 μ) else (f_X9_notCopy_b39 a1 a2 a3 a4 a5 1 μ))))))
set_option maxRecDepth 20000 in
theorem w_X9_notCopy_125 {D : va_G} {cI cL : ClassId} {b : Nat} {Z : State → Heap → Prop}   (μ : z_M) : z_w (zEm D cI cL b Z) (RX9, cX9_notCopy, 7, (some .int), 1) z_ei 125 [] [] μ ((f_X9_notCopy_b125 μ)) := by
  unfold f_X9_notCopy_b125
  refine z_bipush (pc := 125) dX9_notCopy_125 zcb_m5 ?_
  refine z_goto (pc := 127) (tgt := 131) dX9_notCopy_127 (by decide) ?_
  exact z_iret (pc := 131) rfl dX9_notCopy_131

set_option maxRecDepth 20000 in
theorem w_X9_notCopy_84 {D : va_G} {cI cL : ClassId} {b : Nat} {Z : State → Heap → Prop}  (l1 : Int32) (l2 : Int32) (l3 : Int32) (l4 : Int32) (l5 : Int32) (l6 : Int32) (μ : z_M) : z_w (zEm D cI cL b Z) (RX9, cX9_notCopy, 7, (some .int), 1) z_ei 84 [(0, .ref (b + 0)), (1, .int l1), (2, .int l2), (3, .int l3), (4, .int l4), (5, .int l5), (6, .int l6)] [] μ ((f_X9_notCopy_b84 l1 l2 l3 l4 l5 l6 μ)) := by
  unfold f_X9_notCopy_b84
  refine z_iload (pc := 84) dX9_notCopy_84 rfl ?_
  refine z_if_ne (pc := 86) (tgt := 92) dX9_notCopy_86 (by decide) (fun _ => ?_) (fun _ => ?_)
  · refine z_bipush (pc := 89) dX9_notCopy_89 zcb_m3 ?_
    exact z_iret (pc := 91) rfl dX9_notCopy_91
  · refine z_iload (pc := 92) dX9_notCopy_92 rfl ?_
    refine z_if_ge (pc := 94) (tgt := 102) dX9_notCopy_94 (by decide) (fun _ => ?_) (fun _ => ?_)
    · refine z_bipush (pc := 97) dX9_notCopy_97 zcb_m4 ?_
      refine z_goto (pc := 99) (tgt := 131) dX9_notCopy_99 (by decide) ?_
      exact z_iret (pc := 131) rfl dX9_notCopy_131
    · refine z_aload_n (pc := 102) dX9_notCopy_102 rfl ?_
      refine z_iload_n (pc := 103) dX9_notCopy_103 rfl ?_
      refine z_iload_n (pc := 104) dX9_notCopy_104 rfl ?_
      refine z_iload (pc := 105) dX9_notCopy_105 rfl ?_
      refine z_bindP (fun p1 hp1 => ?_)
      refine z_callVi (pc := 107) (As := [.int l1, .int l3, .int l5]) (S := []) (c_X9_hasCells l1 l3 l5 μ) hp1 zw_X9_hasCells zv_X9_hasCells zm_X9_181 (n := 3) (by decide) rfl (z_recv gm_0 (T := TX9) (N := 52) rfl) rfl (Nat.le_of_ble_eq_true rfl) (by decide) (by decide) dX9_notCopy_107 ?_
      refine z_if_eq (pc := 110) (tgt := 125) dX9_notCopy_110 (by decide) (fun _ => ?_) (fun _ => ?_)
      · refine z_drop (L' := []) [] rfl ?_
        exact w_X9_notCopy_125 p1.2
      · refine z_aload_n (pc := 113) dX9_notCopy_113 rfl ?_
        refine z_iload_n (pc := 114) dX9_notCopy_114 rfl ?_
        refine z_iload (pc := 115) dX9_notCopy_115 rfl ?_
        refine z_iload (pc := 117) dX9_notCopy_117 rfl ?_
        refine z_bindP (fun p2 hp2 => ?_)
        refine z_callVi (pc := 119) (As := [.int l2, .int l4, .int l5]) (S := []) (c_X9_hasCells l2 l4 l5 p1.2) hp2 zw_X9_hasCells zv_X9_hasCells zm_X9_181 (n := 3) (by decide) rfl (z_recv gm_0 (T := TX9) (N := 52) rfl) rfl (Nat.le_of_ble_eq_true rfl) (by decide) (by decide) dX9_notCopy_119 ?_
        refine z_if_ne (pc := 122) (tgt := 130) dX9_notCopy_122 (by decide) (fun _ => ?_) (fun _ => ?_)
        · refine z_drop (L' := []) [] rfl ?_
          exact w_X9_notCopy_125 p2.2
        · refine z_iconst (pc := 130) dX9_notCopy_130 zci_0 ?_
          exact z_iret (pc := 131) rfl dX9_notCopy_131

set_option maxRecDepth 20000 in
theorem w_X9_notCopy_39 {D : va_G} {cI cL : ClassId} {b : Nat} {Z : State → Heap → Prop}  (l1 : Int32) (l2 : Int32) (l3 : Int32) (l4 : Int32) (l5 : Int32) (s0 : Int32) (μ : z_M) : z_w (zEm D cI cL b Z) (RX9, cX9_notCopy, 7, (some .int), 1) z_ei 39 [(0, .ref (b + 0)), (1, .int l1), (2, .int l2), (3, .int l3), (4, .int l4), (5, .int l5)] [.int s0] μ ((f_X9_notCopy_b39 l1 l2 l3 l4 l5 s0 μ)) := by
  unfold f_X9_notCopy_b39
  refine z_istore (pc := 39) (L' := [(0, .ref (b + 0)), (1, .int l1), (2, .int l2), (3, .int l3), (4, .int l4), (5, .int l5), (6, .int s0)]) dX9_notCopy_39 (by decide) rfl ?_
  refine z_aload_n (pc := 41) dX9_notCopy_41 rfl ?_
  refine zgR_X9_75 (pc := 42) gm_0 rfl dX9_notCopy_42 ?_
  refine z_iload_n (pc := 45) dX9_notCopy_45 rfl ?_
  refine z_iald (pc := 46) gm_19 dX9_notCopy_46 ?_
  refine z_iconst (pc := 47) dX9_notCopy_47 zci_4 ?_
  refine z_icmp_eq (pc := 48) (tgt := 81) dX9_notCopy_48 (by decide) (fun _ => ?_) (fun _ => ?_)
  · refine z_bipush (pc := 81) dX9_notCopy_81 zcb_m2 ?_
    exact z_iret (pc := 83) rfl dX9_notCopy_83
  · refine z_aload_n (pc := 51) dX9_notCopy_51 rfl ?_
    refine zgR_X9_75 (pc := 52) gm_0 rfl dX9_notCopy_52 ?_
    refine z_iload_n (pc := 55) dX9_notCopy_55 rfl ?_
    refine z_iald (pc := 56) gm_19 dX9_notCopy_56 ?_
    refine z_iconst (pc := 57) dX9_notCopy_57 zci_4 ?_
    refine z_icmp_eq (pc := 58) (tgt := 81) dX9_notCopy_58 (by decide) (fun _ => ?_) (fun _ => ?_)
    · refine z_bipush (pc := 81) dX9_notCopy_81 zcb_m2 ?_
      exact z_iret (pc := 83) rfl dX9_notCopy_83
    · refine z_iload (pc := 61) dX9_notCopy_61 rfl ?_
      refine z_if_eq (pc := 63) (tgt := 84) dX9_notCopy_63 (by decide) (fun _ => ?_) (fun _ => ?_)
      · exact w_X9_notCopy_84 l1 l2 l3 l4 l5 s0 μ
      · refine z_aload_n (pc := 66) dX9_notCopy_66 rfl ?_
        refine zgR_X9_75 (pc := 67) gm_0 rfl dX9_notCopy_67 ?_
        refine z_iload_n (pc := 70) dX9_notCopy_70 rfl ?_
        refine z_iald (pc := 71) gm_19 dX9_notCopy_71 ?_
        refine z_aload_n (pc := 72) dX9_notCopy_72 rfl ?_
        refine zgR_X9_75 (pc := 73) gm_0 rfl dX9_notCopy_73 ?_
        refine z_iload_n (pc := 76) dX9_notCopy_76 rfl ?_
        refine z_iald (pc := 77) gm_19 dX9_notCopy_77 ?_
        refine z_icmp_eq (pc := 78) (tgt := 84) dX9_notCopy_78 (by decide) (fun _ => ?_) (fun _ => ?_)
        · exact w_X9_notCopy_84 l1 l2 l3 l4 l5 s0 μ
        · refine z_bipush (pc := 81) dX9_notCopy_81 zcb_m2 ?_
          exact z_iret (pc := 83) rfl dX9_notCopy_83

set_option maxRecDepth 20000 in
theorem w_X9_notCopy_38 {D : va_G} {cI cL : ClassId} {b : Nat} {Z : State → Heap → Prop}  (l1 : Int32) (l2 : Int32) (l3 : Int32) (l4 : Int32) (l5 : Int32) (μ : z_M) : z_w (zEm D cI cL b Z) (RX9, cX9_notCopy, 7, (some .int), 1) z_ei 38 [(0, .ref (b + 0)), (1, .int l1), (2, .int l2), (3, .int l3), (4, .int l4), (5, .int l5)] [] μ ((f_X9_notCopy_b38 l1 l2 l3 l4 l5 μ)) := by
  unfold f_X9_notCopy_b38
  refine z_iconst (pc := 38) dX9_notCopy_38 zci_0 ?_
  exact w_X9_notCopy_39 l1 l2 l3 l4 l5 0 μ

set_option maxRecDepth 20000 in
theorem w_X9_notCopy_0 {D : va_G} {cI cL : ClassId} {b : Nat} {Z : State → Heap → Prop}  (a1 : Int32) (a2 : Int32) (a3 : Int32) (a4 : Int32) (a5 : Int32) (μ : z_M) : z_w (zEm D cI cL b Z) (RX9, cX9_notCopy, 7, (some .int), 1) z_ei 0 [(0, .ref (b + 0)), (1, .int a1), (2, .int a2), (3, .int a3), (4, .int a4), (5, .int a5)] [] μ ((f_X9_notCopy a1 a2 a3 a4 a5 μ)) := by
  unfold f_X9_notCopy
  refine z_iload_n (pc := 0) dX9_notCopy_0 rfl ?_
  refine z_callSi (pc := 1) (As := [.int a1]) (S := []) (c_X9_isShelf a1 μ) rfl zw_X9_isShelf zs_X9_isShelf zm_X9_164 (n := 1) (by decide) rfl rfl (Nat.le_of_ble_eq_true rfl) (by decide) (by decide) dX9_notCopy_1 ?_
  refine z_if_eq (pc := 4) (tgt := 14) dX9_notCopy_4 (by decide) (fun _ => ?_) (fun _ => ?_)
  · refine z_iconst (pc := 14) dX9_notCopy_14 zci_m1 ?_
    exact z_iret (pc := 15) rfl dX9_notCopy_15
  · refine z_iload_n (pc := 7) dX9_notCopy_7 rfl ?_
    refine z_callSi (pc := 8) (As := [.int a2]) (S := []) (c_X9_isShelf a2 μ) rfl zw_X9_isShelf zs_X9_isShelf zm_X9_164 (n := 1) (by decide) rfl rfl (Nat.le_of_ble_eq_true rfl) (by decide) (by decide) dX9_notCopy_8 ?_
    refine z_if_ne (pc := 11) (tgt := 16) dX9_notCopy_11 (by decide) (fun _ => ?_) (fun _ => ?_)
    · refine z_iconst (pc := 14) dX9_notCopy_14 zci_m1 ?_
      exact z_iret (pc := 15) rfl dX9_notCopy_15
    · refine z_aload_n (pc := 16) dX9_notCopy_16 rfl ?_
      refine zgR_X9_75 (pc := 17) gm_0 rfl dX9_notCopy_17 ?_
      refine z_iload_n (pc := 20) dX9_notCopy_20 rfl ?_
      refine z_iald (pc := 21) gm_19 dX9_notCopy_21 ?_
      refine z_if_lt (pc := 22) (tgt := 38) dX9_notCopy_22 (by decide) (fun _ => ?_) (fun _ => ?_)
      · exact w_X9_notCopy_38 a1 a2 a3 a4 a5 μ
      · refine z_aload_n (pc := 25) dX9_notCopy_25 rfl ?_
        refine zgR_X9_75 (pc := 26) gm_0 rfl dX9_notCopy_26 ?_
        refine z_iload_n (pc := 29) dX9_notCopy_29 rfl ?_
        refine z_iald (pc := 30) gm_19 dX9_notCopy_30 ?_
        refine z_if_lt (pc := 31) (tgt := 38) dX9_notCopy_31 (by decide) (fun _ => ?_) (fun _ => ?_)
        · exact w_X9_notCopy_38 a1 a2 a3 a4 a5 μ
        · refine z_iconst (pc := 34) dX9_notCopy_34 zci_1 ?_
          refine z_goto (pc := 35) (tgt := 39) dX9_notCopy_35 (by decide) ?_
          exact w_X9_notCopy_39 a1 a2 a3 a4 a5 1 μ

set_option maxRecDepth 20000 in
theorem c_X9_notCopy {D : va_G} {cI cL : ClassId} {b : Nat} {Z : State → Heap → Prop}  (a1 : Int32) (a2 : Int32) (a3 : Int32) (a4 : Int32) (a5 : Int32) (μ : z_M) : z_S (zEm D cI cL b Z) 1 yX9_notCopy cX9_notCopy 7 (some .int) z_ei [.ref (b + 0), .int a1, .int a2, .int a3, .int a4, .int a5] μ ((f_X9_notCopy a1 a2 a3 a4 a5 μ)) :=
  z_entry (yn := yX9_notCopy) (by decide) (Nat.le_of_ble_eq_true rfl) rfl (w_X9_notCopy_0 a1 a2 a3 a4 a5 μ)

def f_X9_copy_h66 : Nat → Int32 → Int32 → Int32 → Int32 → z_M → Option (Int32 × z_M)
  | 0, _, _, _, _, _ => none
  | n + 1, l2, l4, l5, l7, μ =>
    if l7 < l5 then (z_chk l7 160 (z_chk (((160 * l2) + l4) + l7) 1280 (z_let (z_sL μ 22 (z_ix (((160 * l2) + l4) + l7)) (μ.2 23 (z_ix l7))) (fun m3 => f_X9_copy_h66 n l2 l4 l5 (l7 + 1) m3)))) else (some (1, μ))
def f_X9_copy_h28 : Nat → Int32 → Int32 → Int32 → Int32 → Int32 → Int32 → z_M → Option (Int32 × z_M)
  | 0, _, _, _, _, _, _, _ => none
  | n + 1, l1, l2, l3, l4, l5, l7, μ =>
    if l7 < l5 then (z_chk (((160 * l1) + l3) + l7) 1280 (z_chk l7 160 (z_let (z_sL μ 23 (z_ix l7) (μ.2 22 (z_ix (((160 * l1) + l3) + l7)))) (fun m2 => f_X9_copy_h28 n l1 l2 l3 l4 l5 (l7 + 1) m2)))) else (f_X9_copy_h66 n l2 l4 l5 0 μ)
def f_X9_copy (n : Nat) (a1 : Int32) (a2 : Int32) (a3 : Int32) (a4 : Int32) (a5 : Int32) (μ : z_M) : Option (Int32 × z_M) :=
  z_bind (f_X9_notCopy a1 a2 a3 a4 a5 μ) (fun p1 => if p1.1 = 0 then (f_X9_copy_h28 n a1 a2 a3 a4 a5 0 p1.2) else (z_bind (f_X9_no p1.1 p1.2) (fun p4 => some (p4.1, p4.2))))
set_option maxRecDepth 20000 in
theorem w_X9_copy_66 {D : va_G} {cI cL : ClassId} {b : Nat} {Z : State → Heap → Prop}  : ∀ (n : Nat) (l2 : Int32) (l4 : Int32) (l5 : Int32) (l7 : Int32) (μ : z_M), z_w (zEm D cI cL b Z) (RX9, cX9_copy, 8, (some .int), 2) z_ei 66 [(0, .ref (b + 0)), (2, .int l2), (4, .int l4), (5, .int l5), (7, .int l7)] [] μ (f_X9_copy_h66 n l2 l4 l5 l7 μ) := by
  intro n
  induction n with
  | zero =>
    intro l2 l4 l5 l7 μ
    exact z_none
  | succ n ih =>
    intro l2 l4 l5 l7 μ
    unfold f_X9_copy_h66
    refine z_iload (pc := 66) dX9_copy_66 rfl ?_
    refine z_iload (pc := 68) dX9_copy_68 rfl ?_
    refine z_icmp_ge (pc := 70) (tgt := 102) dX9_copy_70 (by decide) (fun _ => ?_) (fun _ => ?_)
    · refine z_aload_n (pc := 73) dX9_copy_73 rfl ?_
      refine zgR_X9_84 (pc := 74) gm_0 rfl dX9_copy_74 ?_
      refine z_sipush (pc := 77) dX9_copy_77 zcs_160 ?_
      refine z_iload_n (pc := 80) dX9_copy_80 rfl ?_
      refine z_imul (pc := 81) dX9_copy_81 ?_
      refine z_iload (pc := 82) dX9_copy_82 rfl ?_
      refine z_iadd (pc := 84) dX9_copy_84 ?_
      refine z_iload (pc := 85) dX9_copy_85 rfl ?_
      refine z_iadd (pc := 87) dX9_copy_87 ?_
      refine z_aload_n (pc := 88) dX9_copy_88 rfl ?_
      refine zgR_X9_87 (pc := 89) gm_0 rfl dX9_copy_89 ?_
      refine z_iload (pc := 92) dX9_copy_92 rfl ?_
      refine z_lald (pc := 94) gm_23 dX9_copy_94 ?_
      refine z_last (pc := 95) gm_22 dX9_copy_95 ?_
      refine z_letMO (fun m3 => ?_)
      refine z_iinc (pc := 96) (v := (l7 + 1)) (L' := [(0, .ref (b + 0)), (2, .int l2), (4, .int l4), (5, .int l5), (7, .int (l7 + 1))]) dX9_copy_96 rfl (by decide) rfl rfl ?_
      refine z_goto (pc := 99) (tgt := 66) dX9_copy_99 (by decide) ?_
      exact ih l2 l4 l5 (l7 + 1) m3
    · refine z_iconst (pc := 102) dX9_copy_102 zci_1 ?_
      exact z_iret (pc := 103) rfl dX9_copy_103

set_option maxRecDepth 20000 in
theorem w_X9_copy_28 {D : va_G} {cI cL : ClassId} {b : Nat} {Z : State → Heap → Prop}  : ∀ (n : Nat) (l1 : Int32) (l2 : Int32) (l3 : Int32) (l4 : Int32) (l5 : Int32) (l7 : Int32) (μ : z_M), z_w (zEm D cI cL b Z) (RX9, cX9_copy, 8, (some .int), 2) z_ei 28 [(0, .ref (b + 0)), (1, .int l1), (2, .int l2), (3, .int l3), (4, .int l4), (5, .int l5), (7, .int l7)] [] μ (f_X9_copy_h28 n l1 l2 l3 l4 l5 l7 μ) := by
  intro n
  induction n with
  | zero =>
    intro l1 l2 l3 l4 l5 l7 μ
    exact z_none
  | succ n ih =>
    intro l1 l2 l3 l4 l5 l7 μ
    unfold f_X9_copy_h28
    refine z_iload (pc := 28) dX9_copy_28 rfl ?_
    refine z_iload (pc := 30) dX9_copy_30 rfl ?_
    refine z_icmp_ge (pc := 32) (tgt := 63) dX9_copy_32 (by decide) (fun _ => ?_) (fun _ => ?_)
    · refine z_aload_n (pc := 35) dX9_copy_35 rfl ?_
      refine zgR_X9_87 (pc := 36) gm_0 rfl dX9_copy_36 ?_
      refine z_iload (pc := 39) dX9_copy_39 rfl ?_
      refine z_aload_n (pc := 41) dX9_copy_41 rfl ?_
      refine zgR_X9_84 (pc := 42) gm_0 rfl dX9_copy_42 ?_
      refine z_sipush (pc := 45) dX9_copy_45 zcs_160 ?_
      refine z_iload_n (pc := 48) dX9_copy_48 rfl ?_
      refine z_imul (pc := 49) dX9_copy_49 ?_
      refine z_iload_n (pc := 50) dX9_copy_50 rfl ?_
      refine z_iadd (pc := 51) dX9_copy_51 ?_
      refine z_iload (pc := 52) dX9_copy_52 rfl ?_
      refine z_iadd (pc := 54) dX9_copy_54 ?_
      refine z_lald (pc := 55) gm_22 dX9_copy_55 ?_
      refine z_last (pc := 56) gm_23 dX9_copy_56 ?_
      refine z_letMO (fun m2 => ?_)
      refine z_iinc (pc := 57) (v := (l7 + 1)) (L' := [(0, .ref (b + 0)), (1, .int l1), (2, .int l2), (3, .int l3), (4, .int l4), (5, .int l5), (7, .int (l7 + 1))]) dX9_copy_57 rfl (by decide) rfl rfl ?_
      refine z_goto (pc := 60) (tgt := 28) dX9_copy_60 (by decide) ?_
      exact ih l1 l2 l3 l4 l5 (l7 + 1) m2
    · refine z_iconst (pc := 63) dX9_copy_63 zci_0 ?_
      refine z_istore (pc := 64) (L' := [(0, .ref (b + 0)), (1, .int l1), (2, .int l2), (3, .int l3), (4, .int l4), (5, .int l5), (7, .int 0)]) dX9_copy_64 (by decide) rfl ?_
      refine z_drop (L' := [(0, .ref (b + 0)), (2, .int l2), (4, .int l4), (5, .int l5), (7, .int 0)]) [0, 2, 4, 5, 6] rfl ?_
      exact w_X9_copy_66 n l2 l4 l5 0 μ

set_option maxRecDepth 20000 in
theorem w_X9_copy_0 {D : va_G} {cI cL : ClassId} {b : Nat} {Z : State → Heap → Prop}  (n : Nat) (a1 : Int32) (a2 : Int32) (a3 : Int32) (a4 : Int32) (a5 : Int32) (μ : z_M) : z_w (zEm D cI cL b Z) (RX9, cX9_copy, 8, (some .int), 2) z_ei 0 [(0, .ref (b + 0)), (1, .int a1), (2, .int a2), (3, .int a3), (4, .int a4), (5, .int a5)] [] μ ((f_X9_copy n a1 a2 a3 a4 a5 μ)) := by
  unfold f_X9_copy
  refine z_aload_n (pc := 0) dX9_copy_0 rfl ?_
  refine z_iload_n (pc := 1) dX9_copy_1 rfl ?_
  refine z_iload_n (pc := 2) dX9_copy_2 rfl ?_
  refine z_iload_n (pc := 3) dX9_copy_3 rfl ?_
  refine z_iload (pc := 4) dX9_copy_4 rfl ?_
  refine z_iload (pc := 6) dX9_copy_6 rfl ?_
  refine z_bindP (fun p1 hp1 => ?_)
  refine z_callVi (pc := 8) (As := [.int a1, .int a2, .int a3, .int a4, .int a5]) (S := []) (c_X9_notCopy a1 a2 a3 a4 a5 μ) hp1 zw_X9_notCopy zv_X9_notCopy zm_X9_184 (n := 5) (by decide) rfl (z_recv gm_0 (T := TX9) (N := 52) rfl) rfl (Nat.le_of_ble_eq_true rfl) (by decide) (by decide) dX9_copy_8 ?_
  refine z_istore (pc := 11) (L' := [(0, .ref (b + 0)), (1, .int a1), (2, .int a2), (3, .int a3), (4, .int a4), (5, .int a5), (6, .int p1.1)]) dX9_copy_11 (by decide) rfl ?_
  refine z_iload (pc := 13) dX9_copy_13 rfl ?_
  refine z_if_eq (pc := 15) (tgt := 25) dX9_copy_15 (by decide) (fun _ => ?_) (fun _ => ?_)
  · refine z_iconst (pc := 25) dX9_copy_25 zci_0 ?_
    refine z_istore (pc := 26) (L' := [(0, .ref (b + 0)), (1, .int a1), (2, .int a2), (3, .int a3), (4, .int a4), (5, .int a5), (6, .int p1.1), (7, .int 0)]) dX9_copy_26 (by decide) rfl ?_
    refine z_drop (L' := [(0, .ref (b + 0)), (1, .int a1), (2, .int a2), (3, .int a3), (4, .int a4), (5, .int a5), (7, .int 0)]) [0, 1, 2, 3, 4, 5, 7] rfl ?_
    exact w_X9_copy_28 n a1 a2 a3 a4 a5 0 p1.2
  · refine z_aload_n (pc := 18) dX9_copy_18 rfl ?_
    refine z_iload (pc := 19) dX9_copy_19 rfl ?_
    refine z_bindP (fun p4 hp4 => ?_)
    refine z_callVi (pc := 21) (As := [.int p1.1]) (S := []) (c_X9_no p1.1 p1.2) hp4 zw_X9_no zv_X9_no zm_X9_171 (n := 1) (by decide) rfl (z_recv gm_0 (T := TX9) (N := 52) rfl) rfl (Nat.le_of_ble_eq_true rfl) (by decide) (by decide) dX9_copy_21 ?_
    exact z_iret (pc := 24) rfl dX9_copy_24

set_option maxRecDepth 20000 in
theorem c_X9_copy {D : va_G} {cI cL : ClassId} {b : Nat} {Z : State → Heap → Prop}  (n : Nat) (a1 : Int32) (a2 : Int32) (a3 : Int32) (a4 : Int32) (a5 : Int32) (μ : z_M) : z_S (zEm D cI cL b Z) 2 yX9_copy cX9_copy 8 (some .int) z_ei [.ref (b + 0), .int a1, .int a2, .int a3, .int a4, .int a5] μ ((f_X9_copy n a1 a2 a3 a4 a5 μ)) :=
  z_entry (yn := yX9_copy) (by decide) (Nat.le_of_ble_eq_true rfl) rfl (w_X9_copy_0 n a1 a2 a3 a4 a5 μ)

def f_X9_element_b52  (μ : z_M) : Option (Int64 × z_M) :=
  some (0, μ)
def f_X9_element (a1 : Int32) (a2 : Int32) (μ : z_M) : Option (Int64 × z_M) :=
  if (f_X9_isShelf a1 μ) = 0 then (f_X9_element_b52 μ) else (z_chk a1 8 (if (f_X9_isIn (μ.1 19 (z_ix a1)) 0 3 μ) = 0 then (f_X9_element_b52 μ) else (z_chk a1 8 (if (f_X9_isIn a2 0 ((μ.1 20 (z_ix a1)) - 1) μ) = 0 then (f_X9_element_b52 μ) else (z_chk ((160 * a1) + a2) 1280 (some ((μ.2 22 (z_ix ((160 * a1) + a2))), μ)))))))
set_option maxRecDepth 20000 in
theorem w_X9_element_52 {D : va_G} {cI cL : ClassId} {b : Nat} {Z : State → Heap → Prop}   (μ : z_M) : z_w (zEm D cI cL b Z) (RX9, cX9_element, 3, (some .long), 1) z_el 52 [] [] μ ((f_X9_element_b52 μ)) := by
  unfold f_X9_element_b52
  refine z_lconst (pc := 52) dX9_element_52 zcl_0 ?_
  exact z_lret (pc := 53) rfl dX9_element_53

set_option maxRecDepth 20000 in
theorem w_X9_element_0 {D : va_G} {cI cL : ClassId} {b : Nat} {Z : State → Heap → Prop}  (a1 : Int32) (a2 : Int32) (μ : z_M) : z_w (zEm D cI cL b Z) (RX9, cX9_element, 3, (some .long), 1) z_el 0 [(0, .ref (b + 0)), (1, .int a1), (2, .int a2)] [] μ ((f_X9_element a1 a2 μ)) := by
  unfold f_X9_element
  refine z_iload_n (pc := 0) dX9_element_0 rfl ?_
  refine z_callSi (pc := 1) (As := [.int a1]) (S := []) (c_X9_isShelf a1 μ) rfl zw_X9_isShelf zs_X9_isShelf zm_X9_164 (n := 1) (by decide) rfl rfl (Nat.le_of_ble_eq_true rfl) (by decide) (by decide) dX9_element_1 ?_
  refine z_if_eq (pc := 4) (tgt := 52) dX9_element_4 (by decide) (fun _ => ?_) (fun _ => ?_)
  · refine z_drop (L' := []) [] rfl ?_
    exact w_X9_element_52 μ
  · refine z_aload_n (pc := 7) dX9_element_7 rfl ?_
    refine zgR_X9_75 (pc := 8) gm_0 rfl dX9_element_8 ?_
    refine z_iload_n (pc := 11) dX9_element_11 rfl ?_
    refine z_iald (pc := 12) gm_19 dX9_element_12 ?_
    refine z_iconst (pc := 13) dX9_element_13 zci_0 ?_
    refine z_iconst (pc := 14) dX9_element_14 zci_3 ?_
    refine z_callSi (pc := 15) (As := [.int (μ.1 19 (z_ix a1)), .int 0, .int 3]) (S := []) (c_X9_isIn (μ.1 19 (z_ix a1)) 0 3 μ) rfl zw_X9_isIn zs_X9_isIn zm_X9_167 (n := 3) (by decide) rfl rfl (Nat.le_of_ble_eq_true rfl) (by decide) (by decide) dX9_element_15 ?_
    refine z_if_eq (pc := 18) (tgt := 52) dX9_element_18 (by decide) (fun _ => ?_) (fun _ => ?_)
    · refine z_drop (L' := []) [] rfl ?_
      exact w_X9_element_52 μ
    · refine z_iload_n (pc := 21) dX9_element_21 rfl ?_
      refine z_iconst (pc := 22) dX9_element_22 zci_0 ?_
      refine z_aload_n (pc := 23) dX9_element_23 rfl ?_
      refine zgR_X9_78 (pc := 24) gm_0 rfl dX9_element_24 ?_
      refine z_iload_n (pc := 27) dX9_element_27 rfl ?_
      refine z_iald (pc := 28) gm_20 dX9_element_28 ?_
      refine z_iconst (pc := 29) dX9_element_29 zci_1 ?_
      refine z_isub (pc := 30) dX9_element_30 ?_
      refine z_callSi (pc := 31) (As := [.int a2, .int 0, .int ((μ.1 20 (z_ix a1)) - 1)]) (S := []) (c_X9_isIn a2 0 ((μ.1 20 (z_ix a1)) - 1) μ) rfl zw_X9_isIn zs_X9_isIn zm_X9_167 (n := 3) (by decide) rfl rfl (Nat.le_of_ble_eq_true rfl) (by decide) (by decide) dX9_element_31 ?_
      refine z_if_eq (pc := 34) (tgt := 52) dX9_element_34 (by decide) (fun _ => ?_) (fun _ => ?_)
      · refine z_drop (L' := []) [] rfl ?_
        exact w_X9_element_52 μ
      · refine z_aload_n (pc := 37) dX9_element_37 rfl ?_
        refine zgR_X9_84 (pc := 38) gm_0 rfl dX9_element_38 ?_
        refine z_sipush (pc := 41) dX9_element_41 zcs_160 ?_
        refine z_iload_n (pc := 44) dX9_element_44 rfl ?_
        refine z_imul (pc := 45) dX9_element_45 ?_
        refine z_iload_n (pc := 46) dX9_element_46 rfl ?_
        refine z_iadd (pc := 47) dX9_element_47 ?_
        refine z_lald (pc := 48) gm_22 dX9_element_48 ?_
        refine z_goto (pc := 49) (tgt := 53) dX9_element_49 (by decide) ?_
        exact z_lret (pc := 53) rfl dX9_element_53

set_option maxRecDepth 20000 in
theorem c_X9_element {D : va_G} {cI cL : ClassId} {b : Nat} {Z : State → Heap → Prop}  (a1 : Int32) (a2 : Int32) (μ : z_M) : z_S (zEm D cI cL b Z) 1 yX9_element cX9_element 3 (some .long) z_el [.ref (b + 0), .int a1, .int a2] μ ((f_X9_element a1 a2 μ)) :=
  z_entry (yn := yX9_element) (by decide) (Nat.le_of_ble_eq_true rfl) rfl (w_X9_element_0 a1 a2 μ)

def f_X9_show_b20  (μ : z_M) : Option (Int32 × z_M) :=
  z_bind (f_X9_no (-1) μ) (fun p1 => some (p1.1, p1.2))
def f_X9_show_b41 (l1 : Int32) (l2 : Int32) (s0 : Int32) (s1 : Int32) (μ : z_M) : Option (Int32 × z_M) :=
  z_chk s1 8 (z_let (z_sI μ 19 (z_ix s1) s0) (fun m2 => z_chk l1 8 (z_let (z_sI m2 21 (z_ix l1) l2) (fun m3 => if l2 = (-1) then (some (0, m3)) else (some (1, m3))))))
def f_X9_show_b26 (l1 : Int32) (l2 : Int32) (μ : z_M) : Option (Int32 × z_M) :=
  if l2 = (-1) then (f_X9_show_b41 l1 l2 (-1) l1 μ) else (f_X9_show_b41 l1 l2 4 l1 μ)
def f_X9_show (a1 : Int32) (a2 : Int32) (μ : z_M) : Option (Int32 × z_M) :=
  if (f_X9_isShelf a1 μ) = 0 then (f_X9_show_b20 μ) else (if a2 = (-1) then (f_X9_show_b26 a1 a2 μ) else (if (f_X9_isHouse a2 μ) = 0 then (f_X9_show_b20 μ) else (f_X9_show_b26 a1 a2 μ)))
set_option maxRecDepth 20000 in
theorem w_X9_show_20 {D : va_G} {cI cL : ClassId} {b : Nat} {Z : State → Heap → Prop}   (μ : z_M) : z_w (zEm D cI cL b Z) (RX9, cX9_show, 3, (some .int), 1) z_ei 20 [(0, .ref (b + 0))] [] μ ((f_X9_show_b20 μ)) := by
  unfold f_X9_show_b20
  refine z_aload_n (pc := 20) dX9_show_20 rfl ?_
  refine z_iconst (pc := 21) dX9_show_21 zci_m1 ?_
  refine z_bindP (fun p1 hp1 => ?_)
  refine z_callVi (pc := 22) (As := [.int (-1)]) (S := []) (c_X9_no (-1) μ) hp1 zw_X9_no zv_X9_no zm_X9_171 (n := 1) (by decide) rfl (z_recv gm_0 (T := TX9) (N := 52) rfl) rfl (Nat.le_of_ble_eq_true rfl) (by decide) (by decide) dX9_show_22 ?_
  exact z_iret (pc := 25) rfl dX9_show_25

set_option maxRecDepth 20000 in
theorem w_X9_show_41 {D : va_G} {cI cL : ClassId} {b : Nat} {Z : State → Heap → Prop}  (l1 : Int32) (l2 : Int32) (s0 : Int32) (s1 : Int32) (μ : z_M) : z_w (zEm D cI cL b Z) (RX9, cX9_show, 3, (some .int), 1) z_ei 41 [(0, .ref (b + 0)), (1, .int l1), (2, .int l2)] [.int s0, .int s1, .ref (b + 19)] μ ((f_X9_show_b41 l1 l2 s0 s1 μ)) := by
  unfold f_X9_show_b41
  refine z_iast (pc := 41) gm_19 dX9_show_41 ?_
  refine z_letMO (fun m2 => ?_)
  refine z_aload_n (pc := 42) dX9_show_42 rfl ?_
  refine zgR_X9_81 (pc := 43) gm_0 rfl dX9_show_43 ?_
  refine z_iload_n (pc := 46) dX9_show_46 rfl ?_
  refine z_iload_n (pc := 47) dX9_show_47 rfl ?_
  refine z_iast (pc := 48) gm_21 dX9_show_48 ?_
  refine z_letMO (fun m3 => ?_)
  refine z_iload_n (pc := 49) dX9_show_49 rfl ?_
  refine z_iconst (pc := 50) dX9_show_50 zci_m1 ?_
  refine z_icmp_ne (pc := 51) (tgt := 58) dX9_show_51 (by decide) (fun _ => ?_) (fun _ => ?_)
  · refine z_iconst (pc := 54) dX9_show_54 zci_0 ?_
    refine z_goto (pc := 55) (tgt := 59) dX9_show_55 (by decide) ?_
    exact z_iret (pc := 59) rfl dX9_show_59
  · refine z_iconst (pc := 58) dX9_show_58 zci_1 ?_
    exact z_iret (pc := 59) rfl dX9_show_59

set_option maxRecDepth 20000 in
theorem w_X9_show_26 {D : va_G} {cI cL : ClassId} {b : Nat} {Z : State → Heap → Prop}  (l1 : Int32) (l2 : Int32) (μ : z_M) : z_w (zEm D cI cL b Z) (RX9, cX9_show, 3, (some .int), 1) z_ei 26 [(0, .ref (b + 0)), (1, .int l1), (2, .int l2)] [] μ ((f_X9_show_b26 l1 l2 μ)) := by
  unfold f_X9_show_b26
  refine z_aload_n (pc := 26) dX9_show_26 rfl ?_
  refine zgR_X9_75 (pc := 27) gm_0 rfl dX9_show_27 ?_
  refine z_iload_n (pc := 30) dX9_show_30 rfl ?_
  refine z_iload_n (pc := 31) dX9_show_31 rfl ?_
  refine z_iconst (pc := 32) dX9_show_32 zci_m1 ?_
  refine z_icmp_ne (pc := 33) (tgt := 40) dX9_show_33 (by decide) (fun _ => ?_) (fun _ => ?_)
  · refine z_iconst (pc := 36) dX9_show_36 zci_m1 ?_
    refine z_goto (pc := 37) (tgt := 41) dX9_show_37 (by decide) ?_
    exact w_X9_show_41 l1 l2 (-1) l1 μ
  · refine z_iconst (pc := 40) dX9_show_40 zci_4 ?_
    exact w_X9_show_41 l1 l2 4 l1 μ

set_option maxRecDepth 20000 in
theorem w_X9_show_0 {D : va_G} {cI cL : ClassId} {b : Nat} {Z : State → Heap → Prop}  (a1 : Int32) (a2 : Int32) (μ : z_M) : z_w (zEm D cI cL b Z) (RX9, cX9_show, 3, (some .int), 1) z_ei 0 [(0, .ref (b + 0)), (1, .int a1), (2, .int a2)] [] μ ((f_X9_show a1 a2 μ)) := by
  unfold f_X9_show
  refine z_iload_n (pc := 0) dX9_show_0 rfl ?_
  refine z_callSi (pc := 1) (As := [.int a1]) (S := []) (c_X9_isShelf a1 μ) rfl zw_X9_isShelf zs_X9_isShelf zm_X9_164 (n := 1) (by decide) rfl rfl (Nat.le_of_ble_eq_true rfl) (by decide) (by decide) dX9_show_1 ?_
  refine z_if_eq (pc := 4) (tgt := 20) dX9_show_4 (by decide) (fun _ => ?_) (fun _ => ?_)
  · refine z_drop (L' := [(0, .ref (b + 0))]) [0] rfl ?_
    exact w_X9_show_20 μ
  · refine z_iload_n (pc := 7) dX9_show_7 rfl ?_
    refine z_iconst (pc := 8) dX9_show_8 zci_m1 ?_
    refine z_icmp_eq (pc := 9) (tgt := 26) dX9_show_9 (by decide) (fun _ => ?_) (fun _ => ?_)
    · exact w_X9_show_26 a1 a2 μ
    · refine z_aload_n (pc := 12) dX9_show_12 rfl ?_
      refine z_iload_n (pc := 13) dX9_show_13 rfl ?_
      refine z_callVi (pc := 14) (As := [.int a2]) (S := []) (c_X9_isHouse a2 μ) rfl zw_X9_isHouse zv_X9_isHouse zm_X9_188 (n := 1) (by decide) rfl (z_recv gm_0 (T := TX9) (N := 52) rfl) rfl (Nat.le_of_ble_eq_true rfl) (by decide) (by decide) dX9_show_14 ?_
      refine z_if_ne (pc := 17) (tgt := 26) dX9_show_17 (by decide) (fun _ => ?_) (fun _ => ?_)
      · refine z_drop (L' := [(0, .ref (b + 0))]) [0] rfl ?_
        exact w_X9_show_20 μ
      · exact w_X9_show_26 a1 a2 μ

set_option maxRecDepth 20000 in
theorem c_X9_show {D : va_G} {cI cL : ClassId} {b : Nat} {Z : State → Heap → Prop}  (a1 : Int32) (a2 : Int32) (μ : z_M) : z_S (zEm D cI cL b Z) 1 yX9_show cX9_show 3 (some .int) z_ei [.ref (b + 0), .int a1, .int a2] μ ((f_X9_show a1 a2 μ)) :=
  z_entry (yn := yX9_show) (by decide) (Nat.le_of_ble_eq_true rfl) rfl (w_X9_show_0 a1 a2 μ)

def f_X9_holds_b16  (μ : z_M) : Option (Int32 × z_M) :=
  some ((-1), μ)
def f_X9_holds (a1 : Int32) (μ : z_M) : Option (Int32 × z_M) :=
  if (f_X9_isShelf a1 μ) = 0 then (f_X9_holds_b16 μ) else (z_chk a1 8 (if (μ.1 19 (z_ix a1)) < 0 then (f_X9_holds_b16 μ) else (z_chk a1 8 (if (μ.1 19 (z_ix a1)) = 4 then (z_chk a1 8 (some ((μ.1 21 (z_ix a1)), μ))) else (z_chk a1 8 (some ((100 + (μ.1 19 (z_ix a1))), μ)))))))
set_option maxRecDepth 20000 in
theorem w_X9_holds_16 {D : va_G} {cI cL : ClassId} {b : Nat} {Z : State → Heap → Prop}   (μ : z_M) : z_w (zEm D cI cL b Z) (RX9, cX9_holds, 2, (some .int), 1) z_ei 16 [] [] μ ((f_X9_holds_b16 μ)) := by
  unfold f_X9_holds_b16
  refine z_iconst (pc := 16) dX9_holds_16 zci_m1 ?_
  refine z_goto (pc := 17) (tgt := 48) dX9_holds_17 (by decide) ?_
  exact z_iret (pc := 48) rfl dX9_holds_48

set_option maxRecDepth 20000 in
theorem w_X9_holds_0 {D : va_G} {cI cL : ClassId} {b : Nat} {Z : State → Heap → Prop}  (a1 : Int32) (μ : z_M) : z_w (zEm D cI cL b Z) (RX9, cX9_holds, 2, (some .int), 1) z_ei 0 [(0, .ref (b + 0)), (1, .int a1)] [] μ ((f_X9_holds a1 μ)) := by
  unfold f_X9_holds
  refine z_iload_n (pc := 0) dX9_holds_0 rfl ?_
  refine z_callSi (pc := 1) (As := [.int a1]) (S := []) (c_X9_isShelf a1 μ) rfl zw_X9_isShelf zs_X9_isShelf zm_X9_164 (n := 1) (by decide) rfl rfl (Nat.le_of_ble_eq_true rfl) (by decide) (by decide) dX9_holds_1 ?_
  refine z_if_eq (pc := 4) (tgt := 16) dX9_holds_4 (by decide) (fun _ => ?_) (fun _ => ?_)
  · refine z_drop (L' := []) [] rfl ?_
    exact w_X9_holds_16 μ
  · refine z_aload_n (pc := 7) dX9_holds_7 rfl ?_
    refine zgR_X9_75 (pc := 8) gm_0 rfl dX9_holds_8 ?_
    refine z_iload_n (pc := 11) dX9_holds_11 rfl ?_
    refine z_iald (pc := 12) gm_19 dX9_holds_12 ?_
    refine z_if_ge (pc := 13) (tgt := 20) dX9_holds_13 (by decide) (fun _ => ?_) (fun _ => ?_)
    · refine z_drop (L' := []) [] rfl ?_
      exact w_X9_holds_16 μ
    · refine z_aload_n (pc := 20) dX9_holds_20 rfl ?_
      refine zgR_X9_75 (pc := 21) gm_0 rfl dX9_holds_21 ?_
      refine z_iload_n (pc := 24) dX9_holds_24 rfl ?_
      refine z_iald (pc := 25) gm_19 dX9_holds_25 ?_
      refine z_iconst (pc := 26) dX9_holds_26 zci_4 ?_
      refine z_icmp_ne (pc := 27) (tgt := 39) dX9_holds_27 (by decide) (fun _ => ?_) (fun _ => ?_)
      · refine z_aload_n (pc := 30) dX9_holds_30 rfl ?_
        refine zgR_X9_81 (pc := 31) gm_0 rfl dX9_holds_31 ?_
        refine z_iload_n (pc := 34) dX9_holds_34 rfl ?_
        refine z_iald (pc := 35) gm_21 dX9_holds_35 ?_
        refine z_goto (pc := 36) (tgt := 48) dX9_holds_36 (by decide) ?_
        exact z_iret (pc := 48) rfl dX9_holds_48
      · refine z_bipush (pc := 39) dX9_holds_39 zcb_100 ?_
        refine z_aload_n (pc := 41) dX9_holds_41 rfl ?_
        refine zgR_X9_75 (pc := 42) gm_0 rfl dX9_holds_42 ?_
        refine z_iload_n (pc := 45) dX9_holds_45 rfl ?_
        refine z_iald (pc := 46) gm_19 dX9_holds_46 ?_
        refine z_iadd (pc := 47) dX9_holds_47 ?_
        exact z_iret (pc := 48) rfl dX9_holds_48

set_option maxRecDepth 20000 in
theorem c_X9_holds {D : va_G} {cI cL : ClassId} {b : Nat} {Z : State → Heap → Prop}  (a1 : Int32) (μ : z_M) : z_S (zEm D cI cL b Z) 1 yX9_holds cX9_holds 2 (some .int) z_ei [.ref (b + 0), .int a1] μ ((f_X9_holds a1 μ)) :=
  z_entry (yn := yX9_holds) (by decide) (Nat.le_of_ble_eq_true rfl) rfl (w_X9_holds_0 a1 μ)

def f_X9_isUnder_b29  (μ : z_M) : Int32 :=
  1
def f_X9_isUnder_b19 (l0 : Int32) (l1 : Int32) (μ : z_M) : Int32 :=
  if l0 = 5 then (if l1 = 4 then (f_X9_isUnder_b29 μ) else (0)) else (0)
def f_X9_isUnder (a0 : Int32) (a1 : Int32) (μ : z_M) : Int32 :=
  if a0 = a1 then (f_X9_isUnder_b29 μ) else (if a1 = 0 then (f_X9_isUnder_b29 μ) else (if a0 = 3 then (if a1 = 2 then (f_X9_isUnder_b29 μ) else (f_X9_isUnder_b19 a0 a1 μ)) else (f_X9_isUnder_b19 a0 a1 μ)))
set_option maxRecDepth 20000 in
theorem w_X9_isUnder_29 {D : va_G} {cI cL : ClassId} {b : Nat} {Z : State → Heap → Prop}   (μ : z_M) : z_w (zEm D cI cL b Z) (RX9, cX9_isUnder, 2, (some .boolean), 0) z_ei 29 [] [] μ (z_oP μ (f_X9_isUnder_b29 μ)) := by
  unfold f_X9_isUnder_b29
  refine z_iconst (pc := 29) dX9_isUnder_29 zci_1 ?_
  refine z_goto (pc := 30) (tgt := 34) dX9_isUnder_30 (by decide) ?_
  exact z_zret (pc := 34) rfl dX9_isUnder_34 (by decide)

set_option maxRecDepth 20000 in
theorem w_X9_isUnder_19 {D : va_G} {cI cL : ClassId} {b : Nat} {Z : State → Heap → Prop}  (l0 : Int32) (l1 : Int32) (μ : z_M) : z_w (zEm D cI cL b Z) (RX9, cX9_isUnder, 2, (some .boolean), 0) z_ei 19 [(0, .int l0), (1, .int l1)] [] μ (z_oP μ (f_X9_isUnder_b19 l0 l1 μ)) := by
  unfold f_X9_isUnder_b19
  refine z_iload_n (pc := 19) dX9_isUnder_19 rfl ?_
  refine z_iconst (pc := 20) dX9_isUnder_20 zci_5 ?_
  refine z_outIf ?_
  refine z_icmp_ne (pc := 21) (tgt := 33) dX9_isUnder_21 (by decide) (fun _ => ?_) (fun _ => ?_)
  · refine z_iload_n (pc := 24) dX9_isUnder_24 rfl ?_
    refine z_iconst (pc := 25) dX9_isUnder_25 zci_4 ?_
    refine z_outIf ?_
    refine z_icmp_ne (pc := 26) (tgt := 33) dX9_isUnder_26 (by decide) (fun _ => ?_) (fun _ => ?_)
    · refine z_drop (L' := []) [] rfl ?_
      exact w_X9_isUnder_29 μ
    · refine z_iconst (pc := 33) dX9_isUnder_33 zci_0 ?_
      exact z_zret (pc := 34) rfl dX9_isUnder_34 (by decide)
  · refine z_iconst (pc := 33) dX9_isUnder_33 zci_0 ?_
    exact z_zret (pc := 34) rfl dX9_isUnder_34 (by decide)

set_option maxRecDepth 20000 in
theorem w_X9_isUnder_0 {D : va_G} {cI cL : ClassId} {b : Nat} {Z : State → Heap → Prop}  (a0 : Int32) (a1 : Int32) (μ : z_M) : z_w (zEm D cI cL b Z) (RX9, cX9_isUnder, 2, (some .boolean), 0) z_ei 0 [(0, .int a0), (1, .int a1)] [] μ (z_oP μ (f_X9_isUnder a0 a1 μ)) := by
  unfold f_X9_isUnder
  refine z_iload_n (pc := 0) dX9_isUnder_0 rfl ?_
  refine z_iload_n (pc := 1) dX9_isUnder_1 rfl ?_
  refine z_outIf ?_
  refine z_icmp_eq (pc := 2) (tgt := 29) dX9_isUnder_2 (by decide) (fun _ => ?_) (fun _ => ?_)
  · refine z_drop (L' := []) [] rfl ?_
    exact w_X9_isUnder_29 μ
  · refine z_iload_n (pc := 5) dX9_isUnder_5 rfl ?_
    refine z_outIf ?_
    refine z_if_eq (pc := 6) (tgt := 29) dX9_isUnder_6 (by decide) (fun _ => ?_) (fun _ => ?_)
    · refine z_drop (L' := []) [] rfl ?_
      exact w_X9_isUnder_29 μ
    · refine z_iload_n (pc := 9) dX9_isUnder_9 rfl ?_
      refine z_iconst (pc := 10) dX9_isUnder_10 zci_3 ?_
      refine z_outIf ?_
      refine z_icmp_ne (pc := 11) (tgt := 19) dX9_isUnder_11 (by decide) (fun _ => ?_) (fun _ => ?_)
      · refine z_iload_n (pc := 14) dX9_isUnder_14 rfl ?_
        refine z_iconst (pc := 15) dX9_isUnder_15 zci_2 ?_
        refine z_outIf ?_
        refine z_icmp_eq (pc := 16) (tgt := 29) dX9_isUnder_16 (by decide) (fun _ => ?_) (fun _ => ?_)
        · refine z_drop (L' := []) [] rfl ?_
          exact w_X9_isUnder_29 μ
        · exact w_X9_isUnder_19 a0 a1 μ
      · exact w_X9_isUnder_19 a0 a1 μ

set_option maxRecDepth 20000 in
theorem c_X9_isUnder {D : va_G} {cI cL : ClassId} {b : Nat} {Z : State → Heap → Prop}  (a0 : Int32) (a1 : Int32) (μ : z_M) : z_S (zEm D cI cL b Z) 0 yX9_isUnder cX9_isUnder 2 (some .boolean) z_ei [.int a0, .int a1] μ (z_oP μ (f_X9_isUnder a0 a1 μ)) :=
  z_entry (yn := yX9_isUnder) (by decide) (Nat.le_of_ble_eq_true rfl) rfl (w_X9_isUnder_0 a0 a1 μ)
set_option maxRecDepth 20000 in
theorem bl_X9_isUnder (a0 : Int32) (a1 : Int32) (μ : z_M) : f_X9_isUnder a0 a1 μ = 0 ∨ f_X9_isUnder a0 a1 μ = 1 := by
  unfold f_X9_isUnder
  try simp only [f_X9_isUnder_b29, f_X9_isUnder_b19]
  repeat' (first | with_reducible exact z_bl0 | with_reducible exact z_bl1 | with_reducible refine z_blI ?_ ?_ | with_reducible refine z_blL (fun _ => ?_))

def f_X9_says_b17  (μ : z_M) : Option (Int32 × z_M) :=
  z_bind (f_X9_no (-1) μ) (fun p1 => some (p1.1, p1.2))
def f_X9_says (a1 : Int32) (a2 : Int32) (μ : z_M) : Option (Int32 × z_M) :=
  if (f_X9_isShelf a1 μ) = 0 then (f_X9_says_b17 μ) else (if (f_X9_isIn a2 0 6 μ) = 0 then (f_X9_says_b17 μ) else (z_chk a1 8 (if (f_X9_isIn (μ.1 19 (z_ix a1)) 0 3 μ) = 0 then (z_chk a1 8 (if (μ.1 19 (z_ix a1)) < 0 then (z_bind (f_X9_no (-3) μ) (fun p2 => some (p2.1, p2.2))) else (z_chk a1 8 (z_let ((μ.1 21 (z_ix a1)) : Int32) (fun x3 => z_chk x3 8 (if (f_X9_isUnder (μ.1 2 (z_ix x3)) a2 μ) = 0 then (z_bind (f_X9_no (-2) μ) (fun p4 => some (p4.1, p4.2))) else (if a2 = 0 then (z_bind (f_X9_answerOf 0 x3 3 μ) (fun p5 => some (p5.1, p5.2))) else (if a2 = 1 then (z_chk x3 8 (some ((μ.1 3 (z_ix x3)), μ))) else (if a2 = 2 then (z_chk x3 72 (some ((μ.1 10 (z_ix x3)), μ))) else (if a2 = 3 then (z_chk x3 72 (some ((μ.1 10 (z_ix x3)), μ))) else (if a2 = 4 then (z_chk x3 8 (some ((μ.1 4 (z_ix x3)), μ))) else (if a2 = 5 then (z_chk x3 8 (some ((μ.1 4 (z_ix x3)), μ))) else (z_chk x3 8 (z_chk x3 72 (if (μ.1 11 (z_ix x3)) < (μ.1 4 (z_ix x3)) then (z_chk x3 8 (z_chk x3 72 (some (((μ.1 4 (z_ix x3)) - (μ.1 11 (z_ix x3))), μ)))) else (some (0, μ))))))))))))))))) else (z_bind (f_X9_no (-2) μ) (fun p6 => some (p6.1, p6.2))))))
set_option maxRecDepth 20000 in
theorem w_X9_says_17 {D : va_G} {cI cL : ClassId} {b : Nat} {Z : State → Heap → Prop}   (μ : z_M) : z_w (zEm D cI cL b Z) (RX9, cX9_says, 4, (some .int), 1) z_ei 17 [(0, .ref (b + 0))] [] μ ((f_X9_says_b17 μ)) := by
  unfold f_X9_says_b17
  refine z_aload_n (pc := 17) dX9_says_17 rfl ?_
  refine z_iconst (pc := 18) dX9_says_18 zci_m1 ?_
  refine z_bindP (fun p1 hp1 => ?_)
  refine z_callVi (pc := 19) (As := [.int (-1)]) (S := []) (c_X9_no (-1) μ) hp1 zw_X9_no zv_X9_no zm_X9_171 (n := 1) (by decide) rfl (z_recv gm_0 (T := TX9) (N := 52) rfl) rfl (Nat.le_of_ble_eq_true rfl) (by decide) (by decide) dX9_says_19 ?_
  exact z_iret (pc := 22) rfl dX9_says_22

set_option maxRecDepth 20000 in
theorem w_X9_says_0 {D : va_G} {cI cL : ClassId} {b : Nat} {Z : State → Heap → Prop}  (a1 : Int32) (a2 : Int32) (μ : z_M) : z_w (zEm D cI cL b Z) (RX9, cX9_says, 4, (some .int), 1) z_ei 0 [(0, .ref (b + 0)), (1, .int a1), (2, .int a2)] [] μ ((f_X9_says a1 a2 μ)) := by
  unfold f_X9_says
  refine z_iload_n (pc := 0) dX9_says_0 rfl ?_
  refine z_callSi (pc := 1) (As := [.int a1]) (S := []) (c_X9_isShelf a1 μ) rfl zw_X9_isShelf zs_X9_isShelf zm_X9_164 (n := 1) (by decide) rfl rfl (Nat.le_of_ble_eq_true rfl) (by decide) (by decide) dX9_says_1 ?_
  refine z_if_eq (pc := 4) (tgt := 17) dX9_says_4 (by decide) (fun _ => ?_) (fun _ => ?_)
  · refine z_drop (L' := [(0, .ref (b + 0))]) [0] rfl ?_
    exact w_X9_says_17 μ
  · refine z_iload_n (pc := 7) dX9_says_7 rfl ?_
    refine z_iconst (pc := 8) dX9_says_8 zci_0 ?_
    refine z_bipush (pc := 9) dX9_says_9 zcb_6 ?_
    refine z_callSi (pc := 11) (As := [.int a2, .int 0, .int 6]) (S := []) (c_X9_isIn a2 0 6 μ) rfl zw_X9_isIn zs_X9_isIn zm_X9_167 (n := 3) (by decide) rfl rfl (Nat.le_of_ble_eq_true rfl) (by decide) (by decide) dX9_says_11 ?_
    refine z_if_ne (pc := 14) (tgt := 23) dX9_says_14 (by decide) (fun _ => ?_) (fun _ => ?_)
    · refine z_drop (L' := [(0, .ref (b + 0))]) [0] rfl ?_
      exact w_X9_says_17 μ
    · refine z_aload_n (pc := 23) dX9_says_23 rfl ?_
      refine zgR_X9_75 (pc := 24) gm_0 rfl dX9_says_24 ?_
      refine z_iload_n (pc := 27) dX9_says_27 rfl ?_
      refine z_iald (pc := 28) gm_19 dX9_says_28 ?_
      refine z_iconst (pc := 29) dX9_says_29 zci_0 ?_
      refine z_iconst (pc := 30) dX9_says_30 zci_3 ?_
      refine z_callSi (pc := 31) (As := [.int (μ.1 19 (z_ix a1)), .int 0, .int 3]) (S := []) (c_X9_isIn (μ.1 19 (z_ix a1)) 0 3 μ) rfl zw_X9_isIn zs_X9_isIn zm_X9_167 (n := 3) (by decide) rfl rfl (Nat.le_of_ble_eq_true rfl) (by decide) (by decide) dX9_says_31 ?_
      refine z_if_eq (pc := 34) (tgt := 44) dX9_says_34 (by decide) (fun _ => ?_) (fun _ => ?_)
      · refine z_aload_n (pc := 44) dX9_says_44 rfl ?_
        refine zgR_X9_75 (pc := 45) gm_0 rfl dX9_says_45 ?_
        refine z_iload_n (pc := 48) dX9_says_48 rfl ?_
        refine z_iald (pc := 49) gm_19 dX9_says_49 ?_
        refine z_if_ge (pc := 50) (tgt := 60) dX9_says_50 (by decide) (fun _ => ?_) (fun _ => ?_)
        · refine z_aload_n (pc := 53) dX9_says_53 rfl ?_
          refine z_bipush (pc := 54) dX9_says_54 zcb_m3 ?_
          refine z_bindP (fun p2 hp2 => ?_)
          refine z_callVi (pc := 56) (As := [.int (-3)]) (S := []) (c_X9_no (-3) μ) hp2 zw_X9_no zv_X9_no zm_X9_171 (n := 1) (by decide) rfl (z_recv gm_0 (T := TX9) (N := 52) rfl) rfl (Nat.le_of_ble_eq_true rfl) (by decide) (by decide) dX9_says_56 ?_
          exact z_iret (pc := 59) rfl dX9_says_59
        · refine z_aload_n (pc := 60) dX9_says_60 rfl ?_
          refine zgR_X9_81 (pc := 61) gm_0 rfl dX9_says_61 ?_
          refine z_iload_n (pc := 64) dX9_says_64 rfl ?_
          refine z_iald (pc := 65) gm_21 dX9_says_65 ?_
          refine z_letIO (fun x3 => ?_)
          refine z_istore_n (pc := 66) (L' := [(0, .ref (b + 0)), (1, .int a1), (2, .int a2), (3, .int x3)]) dX9_says_66 (by decide) rfl ?_
          refine z_aload_n (pc := 67) dX9_says_67 rfl ?_
          refine zgR_X9_13 (pc := 68) gm_0 rfl dX9_says_68 ?_
          refine z_iload_n (pc := 71) dX9_says_71 rfl ?_
          refine z_iald (pc := 72) gm_2 dX9_says_72 ?_
          refine z_iload_n (pc := 73) dX9_says_73 rfl ?_
          refine z_callSi (pc := 74) (As := [.int (μ.1 2 (z_ix x3)), .int a2]) (S := []) (c_X9_isUnder (μ.1 2 (z_ix x3)) a2 μ) rfl zw_X9_isUnder zs_X9_isUnder zm_X9_191 (n := 2) (by decide) rfl rfl (Nat.le_of_ble_eq_true rfl) (by decide) (by decide) dX9_says_74 ?_
          refine z_if_ne (pc := 77) (tgt := 87) dX9_says_77 (by decide) (fun _ => ?_) (fun _ => ?_)
          · refine z_aload_n (pc := 80) dX9_says_80 rfl ?_
            refine z_bipush (pc := 81) dX9_says_81 zcb_m2 ?_
            refine z_bindP (fun p4 hp4 => ?_)
            refine z_callVi (pc := 83) (As := [.int (-2)]) (S := []) (c_X9_no (-2) μ) hp4 zw_X9_no zv_X9_no zm_X9_171 (n := 1) (by decide) rfl (z_recv gm_0 (T := TX9) (N := 52) rfl) rfl (Nat.le_of_ble_eq_true rfl) (by decide) (by decide) dX9_says_83 ?_
            exact z_iret (pc := 86) rfl dX9_says_86
          · refine z_iload_n (pc := 87) dX9_says_87 rfl ?_
            refine z_split (fun hx => ?_) (fun hs88_0 => ?_)
            · refine z_tableIn (pc := 88) (x0 := 0) (off := 40) (tgt := 128) dX9_says_88 hx (by decide) (by decide) (by decide) (by decide) ?_
              refine z_aload_n (pc := 128) dX9_says_128 rfl ?_
              refine z_iconst (pc := 129) dX9_says_129 zci_0 ?_
              refine z_iload_n (pc := 130) dX9_says_130 rfl ?_
              refine z_iconst (pc := 131) dX9_says_131 zci_3 ?_
              refine z_bindP (fun p5 hp5 => ?_)
              refine z_callVi (pc := 132) (As := [.int 0, .int x3, .int 3]) (S := []) (c_X9_answerOf 0 x3 3 μ) hp5 zw_X9_answerOf zv_X9_answerOf zm_X9_115 (n := 3) (by decide) rfl (z_recv gm_0 (T := TX9) (N := 52) rfl) rfl (Nat.le_of_ble_eq_true rfl) (by decide) (by decide) dX9_says_132 ?_
              exact z_iret (pc := 135) rfl dX9_says_135
            · refine z_split (fun hx => ?_) (fun hs88_1 => ?_)
              · refine z_tableIn (pc := 88) (x0 := 1) (off := 48) (tgt := 136) dX9_says_88 hx (by decide) (by decide) (by decide) (by decide) ?_
                refine z_aload_n (pc := 136) dX9_says_136 rfl ?_
                refine zgR_X9_16 (pc := 137) gm_0 rfl dX9_says_137 ?_
                refine z_iload_n (pc := 140) dX9_says_140 rfl ?_
                refine z_iald (pc := 141) gm_3 dX9_says_141 ?_
                exact z_iret (pc := 142) rfl dX9_says_142
              · refine z_split (fun hx => ?_) (fun hs88_2 => ?_)
                · refine z_tableIn (pc := 88) (x0 := 2) (off := 55) (tgt := 143) dX9_says_88 hx (by decide) (by decide) (by decide) (by decide) ?_
                  refine z_aload_n (pc := 143) dX9_says_143 rfl ?_
                  refine zgR_X9_44 (pc := 144) gm_0 rfl dX9_says_144 ?_
                  refine z_iload_n (pc := 147) dX9_says_147 rfl ?_
                  refine z_iald (pc := 148) gm_10 dX9_says_148 ?_
                  exact z_iret (pc := 149) rfl dX9_says_149
                · refine z_split (fun hx => ?_) (fun hs88_3 => ?_)
                  · refine z_tableIn (pc := 88) (x0 := 3) (off := 55) (tgt := 143) dX9_says_88 hx (by decide) (by decide) (by decide) (by decide) ?_
                    refine z_aload_n (pc := 143) dX9_says_143 rfl ?_
                    refine zgR_X9_44 (pc := 144) gm_0 rfl dX9_says_144 ?_
                    refine z_iload_n (pc := 147) dX9_says_147 rfl ?_
                    refine z_iald (pc := 148) gm_10 dX9_says_148 ?_
                    exact z_iret (pc := 149) rfl dX9_says_149
                  · refine z_split (fun hx => ?_) (fun hs88_4 => ?_)
                    · refine z_tableIn (pc := 88) (x0 := 4) (off := 62) (tgt := 150) dX9_says_88 hx (by decide) (by decide) (by decide) (by decide) ?_
                      refine z_aload_n (pc := 150) dX9_says_150 rfl ?_
                      refine zgR_X9_19 (pc := 151) gm_0 rfl dX9_says_151 ?_
                      refine z_iload_n (pc := 154) dX9_says_154 rfl ?_
                      refine z_iald (pc := 155) gm_4 dX9_says_155 ?_
                      exact z_iret (pc := 156) rfl dX9_says_156
                    · refine z_split (fun hx => ?_) (fun hs88_5 => ?_)
                      · refine z_tableIn (pc := 88) (x0 := 5) (off := 62) (tgt := 150) dX9_says_88 hx (by decide) (by decide) (by decide) (by decide) ?_
                        refine z_aload_n (pc := 150) dX9_says_150 rfl ?_
                        refine zgR_X9_19 (pc := 151) gm_0 rfl dX9_says_151 ?_
                        refine z_iload_n (pc := 154) dX9_says_154 rfl ?_
                        refine z_iald (pc := 155) gm_4 dX9_says_155 ?_
                        exact z_iret (pc := 156) rfl dX9_says_156
                      · have hk0 := lv_neT hs88_0 (show Int32.toInt 0 = 0 by decide)
                        have hk1 := lv_neT hs88_1 (show Int32.toInt 1 = 1 by decide)
                        have hk2 := lv_neT hs88_2 (show Int32.toInt 2 = 2 by decide)
                        have hk3 := lv_neT hs88_3 (show Int32.toInt 3 = 3 by decide)
                        have hk4 := lv_neT hs88_4 (show Int32.toInt 4 = 4 by decide)
                        have hk5 := lv_neT hs88_5 (show Int32.toInt 5 = 5 by decide)
                        refine z_tableOut (pc := 88) (tgt := 157) dX9_says_88 (by omega) (by decide) ?_
                        refine z_aload_n (pc := 157) dX9_says_157 rfl ?_
                        refine zgR_X9_19 (pc := 158) gm_0 rfl dX9_says_158 ?_
                        refine z_iload_n (pc := 161) dX9_says_161 rfl ?_
                        refine z_iald (pc := 162) gm_4 dX9_says_162 ?_
                        refine z_aload_n (pc := 163) dX9_says_163 rfl ?_
                        refine zgR_X9_47 (pc := 164) gm_0 rfl dX9_says_164 ?_
                        refine z_iload_n (pc := 167) dX9_says_167 rfl ?_
                        refine z_iald (pc := 168) gm_11 dX9_says_168 ?_
                        refine z_icmp_le (pc := 169) (tgt := 188) dX9_says_169 (by decide) (fun _ => ?_) (fun _ => ?_)
                        · refine z_aload_n (pc := 172) dX9_says_172 rfl ?_
                          refine zgR_X9_19 (pc := 173) gm_0 rfl dX9_says_173 ?_
                          refine z_iload_n (pc := 176) dX9_says_176 rfl ?_
                          refine z_iald (pc := 177) gm_4 dX9_says_177 ?_
                          refine z_aload_n (pc := 178) dX9_says_178 rfl ?_
                          refine zgR_X9_47 (pc := 179) gm_0 rfl dX9_says_179 ?_
                          refine z_iload_n (pc := 182) dX9_says_182 rfl ?_
                          refine z_iald (pc := 183) gm_11 dX9_says_183 ?_
                          refine z_isub (pc := 184) dX9_says_184 ?_
                          refine z_goto (pc := 185) (tgt := 189) dX9_says_185 (by decide) ?_
                          exact z_iret (pc := 189) rfl dX9_says_189
                        · refine z_iconst (pc := 188) dX9_says_188 zci_0 ?_
                          exact z_iret (pc := 189) rfl dX9_says_189
      · refine z_aload_n (pc := 37) dX9_says_37 rfl ?_
        refine z_bipush (pc := 38) dX9_says_38 zcb_m2 ?_
        refine z_bindP (fun p6 hp6 => ?_)
        refine z_callVi (pc := 40) (As := [.int (-2)]) (S := []) (c_X9_no (-2) μ) hp6 zw_X9_no zv_X9_no zm_X9_171 (n := 1) (by decide) rfl (z_recv gm_0 (T := TX9) (N := 52) rfl) rfl (Nat.le_of_ble_eq_true rfl) (by decide) (by decide) dX9_says_40 ?_
        exact z_iret (pc := 43) rfl dX9_says_43

set_option maxRecDepth 20000 in
theorem c_X9_says {D : va_G} {cI cL : ClassId} {b : Nat} {Z : State → Heap → Prop}  (a1 : Int32) (a2 : Int32) (μ : z_M) : z_S (zEm D cI cL b Z) 1 yX9_says cX9_says 4 (some .int) z_ei [.ref (b + 0), .int a1, .int a2] μ ((f_X9_says a1 a2 μ)) :=
  z_entry (yn := yX9_says) (by decide) (Nat.le_of_ble_eq_true rfl) rfl (w_X9_says_0 a1 a2 μ)

def f_X9_makesHouse (a1 : Int32) (a2 : Int32) (a3 : Int32) (μ : z_M) : Option (Unit × z_M) :=
  z_chk (μ.1 0 8) 8 (z_let (z_sI μ 2 (z_ix (μ.1 0 8)) a1) (fun m1 => z_chk (m1.1 0 8) 8 (z_let (z_sI m1 3 (z_ix (m1.1 0 8)) a2) (fun m2 => z_chk (m2.1 0 8) 8 (z_let (z_sI m2 4 (z_ix (m2.1 0 8)) a3) (fun m3 => z_chk (m3.1 0 8) 72 (z_let (z_sI m3 10 (z_ix (m3.1 0 8)) 0) (fun m4 => z_chk (m4.1 0 8) 72 (z_let (z_sI m4 11 (z_ix (m4.1 0 8)) 0) (fun m5 => z_let (z_sI m5 0 8 ((m5.1 0 8) + 1)) (fun m6 => some ((), m6))))))))))))
set_option maxRecDepth 20000 in
theorem w_X9_makesHouse_0 {D : va_G} {cI cL : ClassId} {b : Nat} {Z : State → Heap → Prop}  (a1 : Int32) (a2 : Int32) (a3 : Int32) (μ : z_M) : z_w (zEm D cI cL b Z) (RX9, cX9_makesHouse, 4, none, 0) z_ev 0 [(0, .ref (b + 0)), (1, .int a1), (2, .int a2), (3, .int a3)] [] μ ((f_X9_makesHouse a1 a2 a3 μ)) := by
  unfold f_X9_makesHouse
  refine z_aload_n (pc := 0) dX9_makesHouse_0 rfl ?_
  refine zgR_X9_13 (pc := 1) gm_0 rfl dX9_makesHouse_1 ?_
  refine z_aload_n (pc := 4) dX9_makesHouse_4 rfl ?_
  refine zgI_X9_102 (pc := 5) gm_0 rfl dX9_makesHouse_5 ?_
  refine z_iload_n (pc := 8) dX9_makesHouse_8 rfl ?_
  refine z_iast (pc := 9) gm_2 dX9_makesHouse_9 ?_
  refine z_letMO (fun m1 => ?_)
  refine z_aload_n (pc := 10) dX9_makesHouse_10 rfl ?_
  refine zgR_X9_16 (pc := 11) gm_0 rfl dX9_makesHouse_11 ?_
  refine z_aload_n (pc := 14) dX9_makesHouse_14 rfl ?_
  refine zgI_X9_102 (pc := 15) gm_0 rfl dX9_makesHouse_15 ?_
  refine z_iload_n (pc := 18) dX9_makesHouse_18 rfl ?_
  refine z_iast (pc := 19) gm_3 dX9_makesHouse_19 ?_
  refine z_letMO (fun m2 => ?_)
  refine z_aload_n (pc := 20) dX9_makesHouse_20 rfl ?_
  refine zgR_X9_19 (pc := 21) gm_0 rfl dX9_makesHouse_21 ?_
  refine z_aload_n (pc := 24) dX9_makesHouse_24 rfl ?_
  refine zgI_X9_102 (pc := 25) gm_0 rfl dX9_makesHouse_25 ?_
  refine z_iload_n (pc := 28) dX9_makesHouse_28 rfl ?_
  refine z_iast (pc := 29) gm_4 dX9_makesHouse_29 ?_
  refine z_letMO (fun m3 => ?_)
  refine z_aload_n (pc := 30) dX9_makesHouse_30 rfl ?_
  refine zgR_X9_44 (pc := 31) gm_0 rfl dX9_makesHouse_31 ?_
  refine z_aload_n (pc := 34) dX9_makesHouse_34 rfl ?_
  refine zgI_X9_102 (pc := 35) gm_0 rfl dX9_makesHouse_35 ?_
  refine z_iconst (pc := 38) dX9_makesHouse_38 zci_0 ?_
  refine z_iast (pc := 39) gm_10 dX9_makesHouse_39 ?_
  refine z_letMO (fun m4 => ?_)
  refine z_aload_n (pc := 40) dX9_makesHouse_40 rfl ?_
  refine zgR_X9_47 (pc := 41) gm_0 rfl dX9_makesHouse_41 ?_
  refine z_aload_n (pc := 44) dX9_makesHouse_44 rfl ?_
  refine zgI_X9_102 (pc := 45) gm_0 rfl dX9_makesHouse_45 ?_
  refine z_iconst (pc := 48) dX9_makesHouse_48 zci_0 ?_
  refine z_iast (pc := 49) gm_11 dX9_makesHouse_49 ?_
  refine z_letMO (fun m5 => ?_)
  refine z_aload_n (pc := 50) dX9_makesHouse_50 rfl ?_
  refine z_dup (pc := 51) dX9_makesHouse_51 rfl ?_
  refine zgI_X9_102 (pc := 52) gm_0 rfl dX9_makesHouse_52 ?_
  refine z_iconst (pc := 55) dX9_makesHouse_55 zci_1 ?_
  refine z_iadd (pc := 56) dX9_makesHouse_56 ?_
  refine zpI_X9_102 (pc := 57) gm_0 rfl dX9_makesHouse_57 ?_
  refine z_letMO (fun m6 => ?_)
  exact z_vret (pc := 60) rfl dX9_makesHouse_60

set_option maxRecDepth 20000 in
theorem c_X9_makesHouse {D : va_G} {cI cL : ClassId} {b : Nat} {Z : State → Heap → Prop}  (a1 : Int32) (a2 : Int32) (a3 : Int32) (μ : z_M) : z_S (zEm D cI cL b Z) 0 yX9_makesHouse cX9_makesHouse 4 none z_ev [.ref (b + 0), .int a1, .int a2, .int a3] μ ((f_X9_makesHouse a1 a2 a3 μ)) :=
  z_entry (yn := yX9_makesHouse) (by decide) (Nat.le_of_ble_eq_true rfl) rfl (w_X9_makesHouse_0 a1 a2 a3 μ)

def f_X9_house_b48 (l1 : Int32) (l2 : Int32) (l3 : Int32) (s0 : Int32) (μ : z_M) : Option (Int32 × z_M) :=
  if s0 = 0 then (z_bind (f_X9_makesHouse l1 l2 l3 μ) (fun p1 => some (((p1.2.1 0 8) - 1), p1.2))) else (z_bind (f_X9_no s0 μ) (fun p2 => some (p2.1, p2.2)))
def f_X9_house_b28 (l1 : Int32) (l2 : Int32) (l3 : Int32) (μ : z_M) : Option (Int32 × z_M) :=
  f_X9_house_b48 l1 l2 l3 (-6) μ
def f_X9_house (a1 : Int32) (a2 : Int32) (a3 : Int32) (μ : z_M) : Option (Int32 × z_M) :=
  if (f_X9_isIn a1 0 6 μ) = 0 then (f_X9_house_b48 a1 a2 a3 (-1) μ) else (if (f_X9_isSet a2 μ) = 0 then (f_X9_house_b28 a1 a2 a3 μ) else (if (f_X9_isSet a3 μ) = 0 then (f_X9_house_b28 a1 a2 a3 μ) else (if (μ.1 0 8) = 8 then (f_X9_house_b48 a1 a2 a3 (-7) μ) else (f_X9_house_b48 a1 a2 a3 0 μ))))
set_option maxRecDepth 20000 in
theorem w_X9_house_48 {D : va_G} {cI cL : ClassId} {b : Nat} {Z : State → Heap → Prop}  (l1 : Int32) (l2 : Int32) (l3 : Int32) (s0 : Int32) (μ : z_M) : z_w (zEm D cI cL b Z) (RX9, cX9_house, 5, (some .int), 1) z_ei 48 [(0, .ref (b + 0)), (1, .int l1), (2, .int l2), (3, .int l3)] [.int s0] μ ((f_X9_house_b48 l1 l2 l3 s0 μ)) := by
  unfold f_X9_house_b48
  refine z_istore (pc := 48) (L' := [(0, .ref (b + 0)), (1, .int l1), (2, .int l2), (3, .int l3), (4, .int s0)]) dX9_house_48 (by decide) rfl ?_
  refine z_iload (pc := 50) dX9_house_50 rfl ?_
  refine z_if_eq (pc := 52) (tgt := 62) dX9_house_52 (by decide) (fun _ => ?_) (fun _ => ?_)
  · refine z_aload_n (pc := 62) dX9_house_62 rfl ?_
    refine z_iload_n (pc := 63) dX9_house_63 rfl ?_
    refine z_iload_n (pc := 64) dX9_house_64 rfl ?_
    refine z_iload_n (pc := 65) dX9_house_65 rfl ?_
    refine z_bindP (fun p1 hp1 => ?_)
    refine z_callVv (pc := 66) (As := [.int l1, .int l2, .int l3]) (S := []) (c_X9_makesHouse l1 l2 l3 μ) hp1 zw_X9_makesHouse zv_X9_makesHouse zm_X9_198 (n := 3) (by decide) rfl (z_recv gm_0 (T := TX9) (N := 52) rfl) rfl (Nat.le_of_ble_eq_true rfl) (by decide) (by decide) dX9_house_66 ?_
    refine z_aload_n (pc := 69) dX9_house_69 rfl ?_
    refine zgI_X9_102 (pc := 70) gm_0 rfl dX9_house_70 ?_
    refine z_iconst (pc := 73) dX9_house_73 zci_1 ?_
    refine z_isub (pc := 74) dX9_house_74 ?_
    exact z_iret (pc := 75) rfl dX9_house_75
  · refine z_aload_n (pc := 55) dX9_house_55 rfl ?_
    refine z_iload (pc := 56) dX9_house_56 rfl ?_
    refine z_bindP (fun p2 hp2 => ?_)
    refine z_callVi (pc := 58) (As := [.int s0]) (S := []) (c_X9_no s0 μ) hp2 zw_X9_no zv_X9_no zm_X9_171 (n := 1) (by decide) rfl (z_recv gm_0 (T := TX9) (N := 52) rfl) rfl (Nat.le_of_ble_eq_true rfl) (by decide) (by decide) dX9_house_58 ?_
    exact z_iret (pc := 61) rfl dX9_house_61

set_option maxRecDepth 20000 in
theorem w_X9_house_28 {D : va_G} {cI cL : ClassId} {b : Nat} {Z : State → Heap → Prop}  (l1 : Int32) (l2 : Int32) (l3 : Int32) (μ : z_M) : z_w (zEm D cI cL b Z) (RX9, cX9_house, 5, (some .int), 1) z_ei 28 [(0, .ref (b + 0)), (1, .int l1), (2, .int l2), (3, .int l3)] [] μ ((f_X9_house_b28 l1 l2 l3 μ)) := by
  unfold f_X9_house_b28
  refine z_bipush (pc := 28) dX9_house_28 zcb_m6 ?_
  refine z_goto (pc := 30) (tgt := 48) dX9_house_30 (by decide) ?_
  exact w_X9_house_48 l1 l2 l3 (-6) μ

set_option maxRecDepth 20000 in
theorem w_X9_house_0 {D : va_G} {cI cL : ClassId} {b : Nat} {Z : State → Heap → Prop}  (a1 : Int32) (a2 : Int32) (a3 : Int32) (μ : z_M) : z_w (zEm D cI cL b Z) (RX9, cX9_house, 5, (some .int), 1) z_ei 0 [(0, .ref (b + 0)), (1, .int a1), (2, .int a2), (3, .int a3)] [] μ ((f_X9_house a1 a2 a3 μ)) := by
  unfold f_X9_house
  refine z_iload_n (pc := 0) dX9_house_0 rfl ?_
  refine z_iconst (pc := 1) dX9_house_1 zci_0 ?_
  refine z_bipush (pc := 2) dX9_house_2 zcb_6 ?_
  refine z_callSi (pc := 4) (As := [.int a1, .int 0, .int 6]) (S := []) (c_X9_isIn a1 0 6 μ) rfl zw_X9_isIn zs_X9_isIn zm_X9_167 (n := 3) (by decide) rfl rfl (Nat.le_of_ble_eq_true rfl) (by decide) (by decide) dX9_house_4 ?_
  refine z_if_ne (pc := 7) (tgt := 14) dX9_house_7 (by decide) (fun _ => ?_) (fun _ => ?_)
  · refine z_iconst (pc := 10) dX9_house_10 zci_m1 ?_
    refine z_goto (pc := 11) (tgt := 48) dX9_house_11 (by decide) ?_
    exact w_X9_house_48 a1 a2 a3 (-1) μ
  · refine z_iload_n (pc := 14) dX9_house_14 rfl ?_
    refine z_callSi (pc := 15) (As := [.int a2]) (S := []) (c_X9_isSet a2 μ) rfl zw_X9_isSet zs_X9_isSet zm_X9_195 (n := 1) (by decide) rfl rfl (Nat.le_of_ble_eq_true rfl) (by decide) (by decide) dX9_house_15 ?_
    refine z_if_eq (pc := 18) (tgt := 28) dX9_house_18 (by decide) (fun _ => ?_) (fun _ => ?_)
    · exact w_X9_house_28 a1 a2 a3 μ
    · refine z_iload_n (pc := 21) dX9_house_21 rfl ?_
      refine z_callSi (pc := 22) (As := [.int a3]) (S := []) (c_X9_isSet a3 μ) rfl zw_X9_isSet zs_X9_isSet zm_X9_195 (n := 1) (by decide) rfl rfl (Nat.le_of_ble_eq_true rfl) (by decide) (by decide) dX9_house_22 ?_
      refine z_if_ne (pc := 25) (tgt := 33) dX9_house_25 (by decide) (fun _ => ?_) (fun _ => ?_)
      · exact w_X9_house_28 a1 a2 a3 μ
      · refine z_aload_n (pc := 33) dX9_house_33 rfl ?_
        refine zgI_X9_102 (pc := 34) gm_0 rfl dX9_house_34 ?_
        refine z_bipush (pc := 37) dX9_house_37 zcb_8 ?_
        refine z_icmp_ne (pc := 39) (tgt := 47) dX9_house_39 (by decide) (fun _ => ?_) (fun _ => ?_)
        · refine z_bipush (pc := 42) dX9_house_42 zcb_m7 ?_
          refine z_goto (pc := 44) (tgt := 48) dX9_house_44 (by decide) ?_
          exact w_X9_house_48 a1 a2 a3 (-7) μ
        · refine z_iconst (pc := 47) dX9_house_47 zci_0 ?_
          exact w_X9_house_48 a1 a2 a3 0 μ

set_option maxRecDepth 20000 in
theorem c_X9_house {D : va_G} {cI cL : ClassId} {b : Nat} {Z : State → Heap → Prop}  (a1 : Int32) (a2 : Int32) (a3 : Int32) (μ : z_M) : z_S (zEm D cI cL b Z) 1 yX9_house cX9_house 5 (some .int) z_ei [.ref (b + 0), .int a1, .int a2, .int a3] μ ((f_X9_house a1 a2 a3 μ)) :=
  z_entry (yn := yX9_house) (by decide) (Nat.le_of_ble_eq_true rfl) rfl (w_X9_house_0 a1 a2 a3 μ)

def f_X9_notWay_b16  (μ : z_M) : Int32 :=
  (-1)
def f_X9_notWay_b35  (μ : z_M) : Int32 :=
  (-6)
def f_X9_notWay (a1 : Int32) (a2 : Int32) (a3 : Int32) (μ : z_M) : Int32 :=
  if (f_X9_isHouse a1 μ) = 0 then (f_X9_notWay_b16 μ) else (if (f_X9_isHouse a2 μ) = 0 then (f_X9_notWay_b16 μ) else (if (f_X9_isIn a3 1 60 μ) = 0 then (f_X9_notWay_b35 μ) else (if a1 = a2 then (f_X9_notWay_b35 μ) else (if (μ.1 0 9) = 12 then ((-7)) else (0)))))
set_option maxRecDepth 20000 in
theorem w_X9_notWay_16 {D : va_G} {cI cL : ClassId} {b : Nat} {Z : State → Heap → Prop}   (μ : z_M) : z_w (zEm D cI cL b Z) (RX9, cX9_notWay, 4, (some .int), 1) z_ei 16 [] [] μ (z_oP μ (f_X9_notWay_b16 μ)) := by
  unfold f_X9_notWay_b16
  refine z_iconst (pc := 16) dX9_notWay_16 zci_m1 ?_
  refine z_goto (pc := 17) (tgt := 55) dX9_notWay_17 (by decide) ?_
  exact z_iret (pc := 55) rfl dX9_notWay_55

set_option maxRecDepth 20000 in
theorem w_X9_notWay_35 {D : va_G} {cI cL : ClassId} {b : Nat} {Z : State → Heap → Prop}   (μ : z_M) : z_w (zEm D cI cL b Z) (RX9, cX9_notWay, 4, (some .int), 1) z_ei 35 [] [] μ (z_oP μ (f_X9_notWay_b35 μ)) := by
  unfold f_X9_notWay_b35
  refine z_bipush (pc := 35) dX9_notWay_35 zcb_m6 ?_
  refine z_goto (pc := 37) (tgt := 55) dX9_notWay_37 (by decide) ?_
  exact z_iret (pc := 55) rfl dX9_notWay_55

set_option maxRecDepth 20000 in
theorem w_X9_notWay_0 {D : va_G} {cI cL : ClassId} {b : Nat} {Z : State → Heap → Prop}  (a1 : Int32) (a2 : Int32) (a3 : Int32) (μ : z_M) : z_w (zEm D cI cL b Z) (RX9, cX9_notWay, 4, (some .int), 1) z_ei 0 [(0, .ref (b + 0)), (1, .int a1), (2, .int a2), (3, .int a3)] [] μ (z_oP μ (f_X9_notWay a1 a2 a3 μ)) := by
  unfold f_X9_notWay
  refine z_aload_n (pc := 0) dX9_notWay_0 rfl ?_
  refine z_iload_n (pc := 1) dX9_notWay_1 rfl ?_
  refine z_callVi (pc := 2) (As := [.int a1]) (S := []) (c_X9_isHouse a1 μ) rfl zw_X9_isHouse zv_X9_isHouse zm_X9_188 (n := 1) (by decide) rfl (z_recv gm_0 (T := TX9) (N := 52) rfl) rfl (Nat.le_of_ble_eq_true rfl) (by decide) (by decide) dX9_notWay_2 ?_
  refine z_outIf ?_
  refine z_if_eq (pc := 5) (tgt := 16) dX9_notWay_5 (by decide) (fun _ => ?_) (fun _ => ?_)
  · refine z_drop (L' := []) [] rfl ?_
    exact w_X9_notWay_16 μ
  · refine z_aload_n (pc := 8) dX9_notWay_8 rfl ?_
    refine z_iload_n (pc := 9) dX9_notWay_9 rfl ?_
    refine z_callVi (pc := 10) (As := [.int a2]) (S := []) (c_X9_isHouse a2 μ) rfl zw_X9_isHouse zv_X9_isHouse zm_X9_188 (n := 1) (by decide) rfl (z_recv gm_0 (T := TX9) (N := 52) rfl) rfl (Nat.le_of_ble_eq_true rfl) (by decide) (by decide) dX9_notWay_10 ?_
    refine z_outIf ?_
    refine z_if_ne (pc := 13) (tgt := 20) dX9_notWay_13 (by decide) (fun _ => ?_) (fun _ => ?_)
    · refine z_drop (L' := []) [] rfl ?_
      exact w_X9_notWay_16 μ
    · refine z_iload_n (pc := 20) dX9_notWay_20 rfl ?_
      refine z_iconst (pc := 21) dX9_notWay_21 zci_1 ?_
      refine z_bipush (pc := 22) dX9_notWay_22 zcb_60 ?_
      refine z_callSi (pc := 24) (As := [.int a3, .int 1, .int 60]) (S := []) (c_X9_isIn a3 1 60 μ) rfl zw_X9_isIn zs_X9_isIn zm_X9_167 (n := 3) (by decide) rfl rfl (Nat.le_of_ble_eq_true rfl) (by decide) (by decide) dX9_notWay_24 ?_
      refine z_outIf ?_
      refine z_if_eq (pc := 27) (tgt := 35) dX9_notWay_27 (by decide) (fun _ => ?_) (fun _ => ?_)
      · refine z_drop (L' := []) [] rfl ?_
        exact w_X9_notWay_35 μ
      · refine z_iload_n (pc := 30) dX9_notWay_30 rfl ?_
        refine z_iload_n (pc := 31) dX9_notWay_31 rfl ?_
        refine z_outIf ?_
        refine z_icmp_ne (pc := 32) (tgt := 40) dX9_notWay_32 (by decide) (fun _ => ?_) (fun _ => ?_)
        · refine z_drop (L' := []) [] rfl ?_
          exact w_X9_notWay_35 μ
        · refine z_aload_n (pc := 40) dX9_notWay_40 rfl ?_
          refine zgI_X9_105 (pc := 41) gm_0 rfl dX9_notWay_41 ?_
          refine z_bipush (pc := 44) dX9_notWay_44 zcb_12 ?_
          refine z_outIf ?_
          refine z_icmp_ne (pc := 46) (tgt := 54) dX9_notWay_46 (by decide) (fun _ => ?_) (fun _ => ?_)
          · refine z_bipush (pc := 49) dX9_notWay_49 zcb_m7 ?_
            refine z_goto (pc := 51) (tgt := 55) dX9_notWay_51 (by decide) ?_
            exact z_iret (pc := 55) rfl dX9_notWay_55
          · refine z_iconst (pc := 54) dX9_notWay_54 zci_0 ?_
            exact z_iret (pc := 55) rfl dX9_notWay_55

set_option maxRecDepth 20000 in
theorem c_X9_notWay {D : va_G} {cI cL : ClassId} {b : Nat} {Z : State → Heap → Prop}  (a1 : Int32) (a2 : Int32) (a3 : Int32) (μ : z_M) : z_S (zEm D cI cL b Z) 1 yX9_notWay cX9_notWay 4 (some .int) z_ei [.ref (b + 0), .int a1, .int a2, .int a3] μ (z_oP μ (f_X9_notWay a1 a2 a3 μ)) :=
  z_entry (yn := yX9_notWay) (by decide) (Nat.le_of_ble_eq_true rfl) rfl (w_X9_notWay_0 a1 a2 a3 μ)

def f_X9_makesWay (a1 : Int32) (a2 : Int32) (a3 : Int32) (μ : z_M) : Option (Unit × z_M) :=
  z_chk (μ.1 0 9) 12 (z_let (z_sI μ 5 (z_ix (μ.1 0 9)) a1) (fun m1 => z_chk (m1.1 0 9) 12 (z_let (z_sI m1 6 (z_ix (m1.1 0 9)) a2) (fun m2 => z_chk (m2.1 0 9) 12 (z_let (z_sI m2 7 (z_ix (m2.1 0 9)) a3) (fun m3 => z_chk (m3.1 0 9) 12 (z_let (z_sI m3 8 (z_ix (m3.1 0 9)) 0) (fun m4 => z_let (z_sI m4 0 9 ((m4.1 0 9) + 1)) (fun m5 => some ((), m5))))))))))
set_option maxRecDepth 20000 in
theorem w_X9_makesWay_0 {D : va_G} {cI cL : ClassId} {b : Nat} {Z : State → Heap → Prop}  (a1 : Int32) (a2 : Int32) (a3 : Int32) (μ : z_M) : z_w (zEm D cI cL b Z) (RX9, cX9_makesWay, 4, none, 0) z_ev 0 [(0, .ref (b + 0)), (1, .int a1), (2, .int a2), (3, .int a3)] [] μ ((f_X9_makesWay a1 a2 a3 μ)) := by
  unfold f_X9_makesWay
  refine z_aload_n (pc := 0) dX9_makesWay_0 rfl ?_
  refine zgR_X9_22 (pc := 1) gm_0 rfl dX9_makesWay_1 ?_
  refine z_aload_n (pc := 4) dX9_makesWay_4 rfl ?_
  refine zgI_X9_105 (pc := 5) gm_0 rfl dX9_makesWay_5 ?_
  refine z_iload_n (pc := 8) dX9_makesWay_8 rfl ?_
  refine z_iast (pc := 9) gm_5 dX9_makesWay_9 ?_
  refine z_letMO (fun m1 => ?_)
  refine z_aload_n (pc := 10) dX9_makesWay_10 rfl ?_
  refine zgR_X9_25 (pc := 11) gm_0 rfl dX9_makesWay_11 ?_
  refine z_aload_n (pc := 14) dX9_makesWay_14 rfl ?_
  refine zgI_X9_105 (pc := 15) gm_0 rfl dX9_makesWay_15 ?_
  refine z_iload_n (pc := 18) dX9_makesWay_18 rfl ?_
  refine z_iast (pc := 19) gm_6 dX9_makesWay_19 ?_
  refine z_letMO (fun m2 => ?_)
  refine z_aload_n (pc := 20) dX9_makesWay_20 rfl ?_
  refine zgR_X9_28 (pc := 21) gm_0 rfl dX9_makesWay_21 ?_
  refine z_aload_n (pc := 24) dX9_makesWay_24 rfl ?_
  refine zgI_X9_105 (pc := 25) gm_0 rfl dX9_makesWay_25 ?_
  refine z_iload_n (pc := 28) dX9_makesWay_28 rfl ?_
  refine z_iast (pc := 29) gm_7 dX9_makesWay_29 ?_
  refine z_letMO (fun m3 => ?_)
  refine z_aload_n (pc := 30) dX9_makesWay_30 rfl ?_
  refine zgR_X9_31 (pc := 31) gm_0 rfl dX9_makesWay_31 ?_
  refine z_aload_n (pc := 34) dX9_makesWay_34 rfl ?_
  refine zgI_X9_105 (pc := 35) gm_0 rfl dX9_makesWay_35 ?_
  refine z_iconst (pc := 38) dX9_makesWay_38 zci_0 ?_
  refine z_iast (pc := 39) gm_8 dX9_makesWay_39 ?_
  refine z_letMO (fun m4 => ?_)
  refine z_aload_n (pc := 40) dX9_makesWay_40 rfl ?_
  refine z_dup (pc := 41) dX9_makesWay_41 rfl ?_
  refine zgI_X9_105 (pc := 42) gm_0 rfl dX9_makesWay_42 ?_
  refine z_iconst (pc := 45) dX9_makesWay_45 zci_1 ?_
  refine z_iadd (pc := 46) dX9_makesWay_46 ?_
  refine zpI_X9_105 (pc := 47) gm_0 rfl dX9_makesWay_47 ?_
  refine z_letMO (fun m5 => ?_)
  exact z_vret (pc := 50) rfl dX9_makesWay_50

set_option maxRecDepth 20000 in
theorem c_X9_makesWay {D : va_G} {cI cL : ClassId} {b : Nat} {Z : State → Heap → Prop}  (a1 : Int32) (a2 : Int32) (a3 : Int32) (μ : z_M) : z_S (zEm D cI cL b Z) 0 yX9_makesWay cX9_makesWay 4 none z_ev [.ref (b + 0), .int a1, .int a2, .int a3] μ ((f_X9_makesWay a1 a2 a3 μ)) :=
  z_entry (yn := yX9_makesWay) (by decide) (Nat.le_of_ble_eq_true rfl) rfl (w_X9_makesWay_0 a1 a2 a3 μ)

def f_X9_way (a1 : Int32) (a2 : Int32) (a3 : Int32) (μ : z_M) : Option (Int32 × z_M) :=
  z_let ((f_X9_notWay a1 a2 a3 μ) : Int32) (fun x1 => if x1 = 0 then (z_bind (f_X9_makesWay a1 a2 a3 μ) (fun p2 => some (((p2.2.1 0 9) - 1), p2.2))) else (z_bind (f_X9_no x1 μ) (fun p3 => some (p3.1, p3.2))))
set_option maxRecDepth 20000 in
theorem w_X9_way_0 {D : va_G} {cI cL : ClassId} {b : Nat} {Z : State → Heap → Prop}  (a1 : Int32) (a2 : Int32) (a3 : Int32) (μ : z_M) : z_w (zEm D cI cL b Z) (RX9, cX9_way, 5, (some .int), 2) z_ei 0 [(0, .ref (b + 0)), (1, .int a1), (2, .int a2), (3, .int a3)] [] μ ((f_X9_way a1 a2 a3 μ)) := by
  unfold f_X9_way
  refine z_aload_n (pc := 0) dX9_way_0 rfl ?_
  refine z_iload_n (pc := 1) dX9_way_1 rfl ?_
  refine z_iload_n (pc := 2) dX9_way_2 rfl ?_
  refine z_iload_n (pc := 3) dX9_way_3 rfl ?_
  refine z_callVi (pc := 4) (As := [.int a1, .int a2, .int a3]) (S := []) (c_X9_notWay a1 a2 a3 μ) rfl zw_X9_notWay zv_X9_notWay zm_X9_202 (n := 3) (by decide) rfl (z_recv gm_0 (T := TX9) (N := 52) rfl) rfl (Nat.le_of_ble_eq_true rfl) (by decide) (by decide) dX9_way_4 ?_
  refine z_letIO (fun x1 => ?_)
  refine z_istore (pc := 7) (L' := [(0, .ref (b + 0)), (1, .int a1), (2, .int a2), (3, .int a3), (4, .int x1)]) dX9_way_7 (by decide) rfl ?_
  refine z_iload (pc := 9) dX9_way_9 rfl ?_
  refine z_if_eq (pc := 11) (tgt := 21) dX9_way_11 (by decide) (fun _ => ?_) (fun _ => ?_)
  · refine z_aload_n (pc := 21) dX9_way_21 rfl ?_
    refine z_iload_n (pc := 22) dX9_way_22 rfl ?_
    refine z_iload_n (pc := 23) dX9_way_23 rfl ?_
    refine z_iload_n (pc := 24) dX9_way_24 rfl ?_
    refine z_bindP (fun p2 hp2 => ?_)
    refine z_callVv (pc := 25) (As := [.int a1, .int a2, .int a3]) (S := []) (c_X9_makesWay a1 a2 a3 μ) hp2 zw_X9_makesWay zv_X9_makesWay zm_X9_205 (n := 3) (by decide) rfl (z_recv gm_0 (T := TX9) (N := 52) rfl) rfl (Nat.le_of_ble_eq_true rfl) (by decide) (by decide) dX9_way_25 ?_
    refine z_aload_n (pc := 28) dX9_way_28 rfl ?_
    refine zgI_X9_105 (pc := 29) gm_0 rfl dX9_way_29 ?_
    refine z_iconst (pc := 32) dX9_way_32 zci_1 ?_
    refine z_isub (pc := 33) dX9_way_33 ?_
    exact z_iret (pc := 34) rfl dX9_way_34
  · refine z_aload_n (pc := 14) dX9_way_14 rfl ?_
    refine z_iload (pc := 15) dX9_way_15 rfl ?_
    refine z_bindP (fun p3 hp3 => ?_)
    refine z_callVi (pc := 17) (As := [.int x1]) (S := []) (c_X9_no x1 μ) hp3 zw_X9_no zv_X9_no zm_X9_171 (n := 1) (by decide) rfl (z_recv gm_0 (T := TX9) (N := 52) rfl) rfl (Nat.le_of_ble_eq_true rfl) (by decide) (by decide) dX9_way_17 ?_
    exact z_iret (pc := 20) rfl dX9_way_20

set_option maxRecDepth 20000 in
theorem c_X9_way {D : va_G} {cI cL : ClassId} {b : Nat} {Z : State → Heap → Prop}  (a1 : Int32) (a2 : Int32) (a3 : Int32) (μ : z_M) : z_S (zEm D cI cL b Z) 2 yX9_way cX9_way 5 (some .int) z_ei [.ref (b + 0), .int a1, .int a2, .int a3] μ ((f_X9_way a1 a2 a3 μ)) :=
  z_entry (yn := yX9_way) (by decide) (Nat.le_of_ble_eq_true rfl) rfl (w_X9_way_0 a1 a2 a3 μ)

def f_X9_ways_h65 : Nat → Int32 → Int32 → Int32 → Int32 → z_M → Option (Int32 × z_M)
  | 0, _, _, _, _, _ => none
  | n + 1, l1, l2, l3, l5, μ =>
    if (3 * l5) < l3 then (z_bind (f_X9_intAt l1 (l2 + (3 * l5)) μ) (fun p2 => z_bind (f_X9_intAt l1 ((l2 + (3 * l5)) + 1) p2.2) (fun p3 => z_bind (f_X9_intAt l1 ((l2 + (3 * l5)) + 2) p3.2) (fun p4 => if (f_X9_notWay p2.1 p3.1 p4.1 p4.2) = 0 then (z_bind (f_X9_intAt l1 (l2 + (3 * l5)) p4.2) (fun p5 => z_bind (f_X9_intAt l1 ((l2 + (3 * l5)) + 1) p5.2) (fun p6 => z_bind (f_X9_intAt l1 ((l2 + (3 * l5)) + 2) p6.2) (fun p7 => z_bind (f_X9_makesWay p5.1 p6.1 p7.1 p7.2) (fun p8 => f_X9_ways_h65 n l1 l2 l3 (l5 + 1) p8.2))))) else (some (l5, p4.2)))))) else (some (l5, μ))
def f_X9_ways_b50 (n : Nat) (l1 : Int32) (l2 : Int32) (l3 : Int32) (l4 : Int32) (μ : z_M) : Option (Int32 × z_M) :=
  if l4 = 0 then (f_X9_ways_h65 n l1 l2 l3 0 μ) else (z_bind (f_X9_no l4 μ) (fun p9 => some (p9.1, p9.2)))
def f_X9_ways_b48 (n : Nat) (l1 : Int32) (l2 : Int32) (l3 : Int32) (s0 : Int32) (μ : z_M) : Option (Int32 × z_M) :=
  f_X9_ways_b50 n l1 l2 l3 s0 μ
def f_X9_ways (n : Nat) (a1 : Int32) (a2 : Int32) (a3 : Int32) (μ : z_M) : Option (Int32 × z_M) :=
  z_bind (f_X9_notRow a1 μ) (fun p1 => if p1.1 = 0 then (if a3 < 0 then (f_X9_ways_b48 n a1 a2 a3 (-4) p1.2) else (z_bind (f_X9_hasCells a1 a2 a3 p1.2) (fun p10 => if p10.1 = 0 then (f_X9_ways_b48 n a1 a2 a3 (-5) p10.2) else (if (z_rem a3 3) = 0 then (f_X9_ways_b48 n a1 a2 a3 0 p10.2) else (f_X9_ways_b48 n a1 a2 a3 (-6) p10.2))))) else (f_X9_ways_b50 n a1 a2 a3 p1.1 p1.2))
set_option maxRecDepth 20000 in
theorem w_X9_ways_65 {D : va_G} {cI cL : ClassId} {b : Nat} {Z : State → Heap → Prop}  : ∀ (n : Nat) (l1 : Int32) (l2 : Int32) (l3 : Int32) (l5 : Int32) (μ : z_M), z_w (zEm D cI cL b Z) (RX9, cX9_ways, 6, (some .int), 2) z_ei 65 [(0, .ref (b + 0)), (1, .int l1), (2, .int l2), (3, .int l3), (5, .int l5)] [] μ (f_X9_ways_h65 n l1 l2 l3 l5 μ) := by
  intro n
  induction n with
  | zero =>
    intro l1 l2 l3 l5 μ
    exact z_none
  | succ n ih =>
    intro l1 l2 l3 l5 μ
    unfold f_X9_ways_h65
    refine z_iconst (pc := 65) dX9_ways_65 zci_3 ?_
    refine z_iload (pc := 66) dX9_ways_66 rfl ?_
    refine z_imul (pc := 68) dX9_ways_68 ?_
    refine z_iload_n (pc := 69) dX9_ways_69 rfl ?_
    refine z_icmp_ge (pc := 70) (tgt := 164) dX9_ways_70 (by decide) (fun _ => ?_) (fun _ => ?_)
    · refine z_aload_n (pc := 73) dX9_ways_73 rfl ?_
      refine z_aload_n (pc := 74) dX9_ways_74 rfl ?_
      refine z_iload_n (pc := 75) dX9_ways_75 rfl ?_
      refine z_iload_n (pc := 76) dX9_ways_76 rfl ?_
      refine z_iconst (pc := 77) dX9_ways_77 zci_3 ?_
      refine z_iload (pc := 78) dX9_ways_78 rfl ?_
      refine z_imul (pc := 80) dX9_ways_80 ?_
      refine z_iadd (pc := 81) dX9_ways_81 ?_
      refine z_bindP (fun p2 hp2 => ?_)
      refine z_callVi (pc := 82) (As := [.int l1, .int (l2 + (3 * l5))]) (S := [.ref (b + 0)]) (c_X9_intAt l1 (l2 + (3 * l5)) μ) hp2 zw_X9_intAt zv_X9_intAt zm_X9_208 (n := 2) (by decide) rfl (z_recv gm_0 (T := TX9) (N := 52) rfl) rfl (Nat.le_of_ble_eq_true rfl) (by decide) (by decide) dX9_ways_82 ?_
      refine z_aload_n (pc := 85) dX9_ways_85 rfl ?_
      refine z_iload_n (pc := 86) dX9_ways_86 rfl ?_
      refine z_iload_n (pc := 87) dX9_ways_87 rfl ?_
      refine z_iconst (pc := 88) dX9_ways_88 zci_3 ?_
      refine z_iload (pc := 89) dX9_ways_89 rfl ?_
      refine z_imul (pc := 91) dX9_ways_91 ?_
      refine z_iadd (pc := 92) dX9_ways_92 ?_
      refine z_iconst (pc := 93) dX9_ways_93 zci_1 ?_
      refine z_iadd (pc := 94) dX9_ways_94 ?_
      refine z_bindP (fun p3 hp3 => ?_)
      refine z_callVi (pc := 95) (As := [.int l1, .int ((l2 + (3 * l5)) + 1)]) (S := [.int p2.1, .ref (b + 0)]) (c_X9_intAt l1 ((l2 + (3 * l5)) + 1) p2.2) hp3 zw_X9_intAt zv_X9_intAt zm_X9_208 (n := 2) (by decide) rfl (z_recv gm_0 (T := TX9) (N := 52) rfl) rfl (Nat.le_of_ble_eq_true rfl) (by decide) (by decide) dX9_ways_95 ?_
      refine z_aload_n (pc := 98) dX9_ways_98 rfl ?_
      refine z_iload_n (pc := 99) dX9_ways_99 rfl ?_
      refine z_iload_n (pc := 100) dX9_ways_100 rfl ?_
      refine z_iconst (pc := 101) dX9_ways_101 zci_3 ?_
      refine z_iload (pc := 102) dX9_ways_102 rfl ?_
      refine z_imul (pc := 104) dX9_ways_104 ?_
      refine z_iadd (pc := 105) dX9_ways_105 ?_
      refine z_iconst (pc := 106) dX9_ways_106 zci_2 ?_
      refine z_iadd (pc := 107) dX9_ways_107 ?_
      refine z_bindP (fun p4 hp4 => ?_)
      refine z_callVi (pc := 108) (As := [.int l1, .int ((l2 + (3 * l5)) + 2)]) (S := [.int p3.1, .int p2.1, .ref (b + 0)]) (c_X9_intAt l1 ((l2 + (3 * l5)) + 2) p3.2) hp4 zw_X9_intAt zv_X9_intAt zm_X9_208 (n := 2) (by decide) rfl (z_recv gm_0 (T := TX9) (N := 52) rfl) rfl (Nat.le_of_ble_eq_true rfl) (by decide) (by decide) dX9_ways_108 ?_
      refine z_callVi (pc := 111) (As := [.int p2.1, .int p3.1, .int p4.1]) (S := []) (c_X9_notWay p2.1 p3.1 p4.1 p4.2) rfl zw_X9_notWay zv_X9_notWay zm_X9_202 (n := 3) (by decide) rfl (z_recv gm_0 (T := TX9) (N := 52) rfl) rfl (Nat.le_of_ble_eq_true rfl) (by decide) (by decide) dX9_ways_111 ?_
      refine z_if_ne (pc := 114) (tgt := 164) dX9_ways_114 (by decide) (fun _ => ?_) (fun _ => ?_)
      · refine z_aload_n (pc := 117) dX9_ways_117 rfl ?_
        refine z_aload_n (pc := 118) dX9_ways_118 rfl ?_
        refine z_iload_n (pc := 119) dX9_ways_119 rfl ?_
        refine z_iload_n (pc := 120) dX9_ways_120 rfl ?_
        refine z_iconst (pc := 121) dX9_ways_121 zci_3 ?_
        refine z_iload (pc := 122) dX9_ways_122 rfl ?_
        refine z_imul (pc := 124) dX9_ways_124 ?_
        refine z_iadd (pc := 125) dX9_ways_125 ?_
        refine z_bindP (fun p5 hp5 => ?_)
        refine z_callVi (pc := 126) (As := [.int l1, .int (l2 + (3 * l5))]) (S := [.ref (b + 0)]) (c_X9_intAt l1 (l2 + (3 * l5)) p4.2) hp5 zw_X9_intAt zv_X9_intAt zm_X9_208 (n := 2) (by decide) rfl (z_recv gm_0 (T := TX9) (N := 52) rfl) rfl (Nat.le_of_ble_eq_true rfl) (by decide) (by decide) dX9_ways_126 ?_
        refine z_aload_n (pc := 129) dX9_ways_129 rfl ?_
        refine z_iload_n (pc := 130) dX9_ways_130 rfl ?_
        refine z_iload_n (pc := 131) dX9_ways_131 rfl ?_
        refine z_iconst (pc := 132) dX9_ways_132 zci_3 ?_
        refine z_iload (pc := 133) dX9_ways_133 rfl ?_
        refine z_imul (pc := 135) dX9_ways_135 ?_
        refine z_iadd (pc := 136) dX9_ways_136 ?_
        refine z_iconst (pc := 137) dX9_ways_137 zci_1 ?_
        refine z_iadd (pc := 138) dX9_ways_138 ?_
        refine z_bindP (fun p6 hp6 => ?_)
        refine z_callVi (pc := 139) (As := [.int l1, .int ((l2 + (3 * l5)) + 1)]) (S := [.int p5.1, .ref (b + 0)]) (c_X9_intAt l1 ((l2 + (3 * l5)) + 1) p5.2) hp6 zw_X9_intAt zv_X9_intAt zm_X9_208 (n := 2) (by decide) rfl (z_recv gm_0 (T := TX9) (N := 52) rfl) rfl (Nat.le_of_ble_eq_true rfl) (by decide) (by decide) dX9_ways_139 ?_
        refine z_aload_n (pc := 142) dX9_ways_142 rfl ?_
        refine z_iload_n (pc := 143) dX9_ways_143 rfl ?_
        refine z_iload_n (pc := 144) dX9_ways_144 rfl ?_
        refine z_iconst (pc := 145) dX9_ways_145 zci_3 ?_
        refine z_iload (pc := 146) dX9_ways_146 rfl ?_
        refine z_imul (pc := 148) dX9_ways_148 ?_
        refine z_iadd (pc := 149) dX9_ways_149 ?_
        refine z_iconst (pc := 150) dX9_ways_150 zci_2 ?_
        refine z_iadd (pc := 151) dX9_ways_151 ?_
        refine z_bindP (fun p7 hp7 => ?_)
        refine z_callVi (pc := 152) (As := [.int l1, .int ((l2 + (3 * l5)) + 2)]) (S := [.int p6.1, .int p5.1, .ref (b + 0)]) (c_X9_intAt l1 ((l2 + (3 * l5)) + 2) p6.2) hp7 zw_X9_intAt zv_X9_intAt zm_X9_208 (n := 2) (by decide) rfl (z_recv gm_0 (T := TX9) (N := 52) rfl) rfl (Nat.le_of_ble_eq_true rfl) (by decide) (by decide) dX9_ways_152 ?_
        refine z_bindP (fun p8 hp8 => ?_)
        refine z_callVv (pc := 155) (As := [.int p5.1, .int p6.1, .int p7.1]) (S := []) (c_X9_makesWay p5.1 p6.1 p7.1 p7.2) hp8 zw_X9_makesWay zv_X9_makesWay zm_X9_205 (n := 3) (by decide) rfl (z_recv gm_0 (T := TX9) (N := 52) rfl) rfl (Nat.le_of_ble_eq_true rfl) (by decide) (by decide) dX9_ways_155 ?_
        refine z_iinc (pc := 158) (v := (l5 + 1)) (L' := [(0, .ref (b + 0)), (1, .int l1), (2, .int l2), (3, .int l3), (5, .int (l5 + 1))]) dX9_ways_158 rfl (by decide) rfl rfl ?_
        refine z_goto (pc := 161) (tgt := 65) dX9_ways_161 (by decide) ?_
        exact ih l1 l2 l3 (l5 + 1) p8.2
      · refine z_iload (pc := 164) dX9_ways_164 rfl ?_
        exact z_iret (pc := 166) rfl dX9_ways_166
    · refine z_iload (pc := 164) dX9_ways_164 rfl ?_
      exact z_iret (pc := 166) rfl dX9_ways_166

set_option maxRecDepth 20000 in
theorem w_X9_ways_50 {D : va_G} {cI cL : ClassId} {b : Nat} {Z : State → Heap → Prop}  (n : Nat) (l1 : Int32) (l2 : Int32) (l3 : Int32) (l4 : Int32) (μ : z_M) : z_w (zEm D cI cL b Z) (RX9, cX9_ways, 6, (some .int), 2) z_ei 50 [(0, .ref (b + 0)), (1, .int l1), (2, .int l2), (3, .int l3), (4, .int l4)] [] μ ((f_X9_ways_b50 n l1 l2 l3 l4 μ)) := by
  unfold f_X9_ways_b50
  refine z_iload (pc := 50) dX9_ways_50 rfl ?_
  refine z_if_eq (pc := 52) (tgt := 62) dX9_ways_52 (by decide) (fun _ => ?_) (fun _ => ?_)
  · refine z_iconst (pc := 62) dX9_ways_62 zci_0 ?_
    refine z_istore (pc := 63) (L' := [(0, .ref (b + 0)), (1, .int l1), (2, .int l2), (3, .int l3), (4, .int l4), (5, .int 0)]) dX9_ways_63 (by decide) rfl ?_
    refine z_drop (L' := [(0, .ref (b + 0)), (1, .int l1), (2, .int l2), (3, .int l3), (5, .int 0)]) [0, 1, 2, 3, 5] rfl ?_
    exact w_X9_ways_65 n l1 l2 l3 0 μ
  · refine z_aload_n (pc := 55) dX9_ways_55 rfl ?_
    refine z_iload (pc := 56) dX9_ways_56 rfl ?_
    refine z_bindP (fun p9 hp9 => ?_)
    refine z_callVi (pc := 58) (As := [.int l4]) (S := []) (c_X9_no l4 μ) hp9 zw_X9_no zv_X9_no zm_X9_171 (n := 1) (by decide) rfl (z_recv gm_0 (T := TX9) (N := 52) rfl) rfl (Nat.le_of_ble_eq_true rfl) (by decide) (by decide) dX9_ways_58 ?_
    exact z_iret (pc := 61) rfl dX9_ways_61

set_option maxRecDepth 20000 in
theorem w_X9_ways_48 {D : va_G} {cI cL : ClassId} {b : Nat} {Z : State → Heap → Prop}  (n : Nat) (l1 : Int32) (l2 : Int32) (l3 : Int32) (s0 : Int32) (μ : z_M) : z_w (zEm D cI cL b Z) (RX9, cX9_ways, 6, (some .int), 2) z_ei 48 [(0, .ref (b + 0)), (1, .int l1), (2, .int l2), (3, .int l3)] [.int s0] μ ((f_X9_ways_b48 n l1 l2 l3 s0 μ)) := by
  unfold f_X9_ways_b48
  refine z_istore (pc := 48) (L' := [(0, .ref (b + 0)), (1, .int l1), (2, .int l2), (3, .int l3), (4, .int s0)]) dX9_ways_48 (by decide) rfl ?_
  exact w_X9_ways_50 n l1 l2 l3 s0 μ

set_option maxRecDepth 20000 in
theorem w_X9_ways_0 {D : va_G} {cI cL : ClassId} {b : Nat} {Z : State → Heap → Prop}  (n : Nat) (a1 : Int32) (a2 : Int32) (a3 : Int32) (μ : z_M) : z_w (zEm D cI cL b Z) (RX9, cX9_ways, 6, (some .int), 2) z_ei 0 [(0, .ref (b + 0)), (1, .int a1), (2, .int a2), (3, .int a3)] [] μ ((f_X9_ways n a1 a2 a3 μ)) := by
  unfold f_X9_ways
  refine z_aload_n (pc := 0) dX9_ways_0 rfl ?_
  refine z_iload_n (pc := 1) dX9_ways_1 rfl ?_
  refine z_bindP (fun p1 hp1 => ?_)
  refine z_callVi (pc := 2) (As := [.int a1]) (S := []) (c_X9_notRow a1 μ) hp1 zw_X9_notRow zv_X9_notRow zm_X9_174 (n := 1) (by decide) rfl (z_recv gm_0 (T := TX9) (N := 52) rfl) rfl (Nat.le_of_ble_eq_true rfl) (by decide) (by decide) dX9_ways_2 ?_
  refine z_istore (pc := 5) (L' := [(0, .ref (b + 0)), (1, .int a1), (2, .int a2), (3, .int a3), (4, .int p1.1)]) dX9_ways_5 (by decide) rfl ?_
  refine z_iload (pc := 7) dX9_ways_7 rfl ?_
  refine z_if_ne (pc := 9) (tgt := 50) dX9_ways_9 (by decide) (fun _ => ?_) (fun _ => ?_)
  · refine z_iload_n (pc := 12) dX9_ways_12 rfl ?_
    refine z_if_ge (pc := 13) (tgt := 21) dX9_ways_13 (by decide) (fun _ => ?_) (fun _ => ?_)
    · refine z_bipush (pc := 16) dX9_ways_16 zcb_m4 ?_
      refine z_goto (pc := 18) (tgt := 48) dX9_ways_18 (by decide) ?_
      refine z_drop (L' := [(0, .ref (b + 0)), (1, .int a1), (2, .int a2), (3, .int a3)]) [0, 1, 2, 3] rfl ?_
      exact w_X9_ways_48 n a1 a2 a3 (-4) p1.2
    · refine z_aload_n (pc := 21) dX9_ways_21 rfl ?_
      refine z_iload_n (pc := 22) dX9_ways_22 rfl ?_
      refine z_iload_n (pc := 23) dX9_ways_23 rfl ?_
      refine z_iload_n (pc := 24) dX9_ways_24 rfl ?_
      refine z_bindP (fun p10 hp10 => ?_)
      refine z_callVi (pc := 25) (As := [.int a1, .int a2, .int a3]) (S := []) (c_X9_hasCells a1 a2 a3 p1.2) hp10 zw_X9_hasCells zv_X9_hasCells zm_X9_181 (n := 3) (by decide) rfl (z_recv gm_0 (T := TX9) (N := 52) rfl) rfl (Nat.le_of_ble_eq_true rfl) (by decide) (by decide) dX9_ways_25 ?_
      refine z_if_ne (pc := 28) (tgt := 36) dX9_ways_28 (by decide) (fun _ => ?_) (fun _ => ?_)
      · refine z_bipush (pc := 31) dX9_ways_31 zcb_m5 ?_
        refine z_goto (pc := 33) (tgt := 48) dX9_ways_33 (by decide) ?_
        refine z_drop (L' := [(0, .ref (b + 0)), (1, .int a1), (2, .int a2), (3, .int a3)]) [0, 1, 2, 3] rfl ?_
        exact w_X9_ways_48 n a1 a2 a3 (-5) p10.2
      · refine z_iload_n (pc := 36) dX9_ways_36 rfl ?_
        refine z_iconst (pc := 37) dX9_ways_37 zci_3 ?_
        refine z_iremK (pc := 38) dX9_ways_38 (by decide) ?_
        refine z_if_eq (pc := 39) (tgt := 47) dX9_ways_39 (by decide) (fun _ => ?_) (fun _ => ?_)
        · refine z_iconst (pc := 47) dX9_ways_47 zci_0 ?_
          refine z_drop (L' := [(0, .ref (b + 0)), (1, .int a1), (2, .int a2), (3, .int a3)]) [0, 1, 2, 3] rfl ?_
          exact w_X9_ways_48 n a1 a2 a3 0 p10.2
        · refine z_bipush (pc := 42) dX9_ways_42 zcb_m6 ?_
          refine z_goto (pc := 44) (tgt := 48) dX9_ways_44 (by decide) ?_
          refine z_drop (L' := [(0, .ref (b + 0)), (1, .int a1), (2, .int a2), (3, .int a3)]) [0, 1, 2, 3] rfl ?_
          exact w_X9_ways_48 n a1 a2 a3 (-6) p10.2
  · exact w_X9_ways_50 n a1 a2 a3 p1.1 p1.2

set_option maxRecDepth 20000 in
theorem c_X9_ways {D : va_G} {cI cL : ClassId} {b : Nat} {Z : State → Heap → Prop}  (n : Nat) (a1 : Int32) (a2 : Int32) (a3 : Int32) (μ : z_M) : z_S (zEm D cI cL b Z) 2 yX9_ways cX9_ways 6 (some .int) z_ei [.ref (b + 0), .int a1, .int a2, .int a3] μ ((f_X9_ways n a1 a2 a3 μ)) :=
  z_entry (yn := yX9_ways) (by decide) (Nat.le_of_ble_eq_true rfl) rfl (w_X9_ways_0 n a1 a2 a3 μ)

def f_X9_shut_b39 (l1 : Int32) (l3 : Int32) (s0 : Int32) (μ : z_M) : Option (Int32 × z_M) :=
  z_chk l1 12 (z_let (z_sI μ 8 (z_ix l1) l3) (fun m2 => some (s0, m2)))
def f_X9_shut_b23 (l1 : Int32) (s0 : Int32) (μ : z_M) : Option (Int32 × z_M) :=
  z_chk l1 12 (if (μ.1 8 (z_ix l1)) = s0 then (f_X9_shut_b39 l1 s0 0 μ) else (f_X9_shut_b39 l1 s0 1 μ))
def f_X9_shut (a1 : Int32) (a2 : Int32) (μ : z_M) : Option (Int32 × z_M) :=
  if (f_X9_isWay a1 μ) = 0 then (z_bind (f_X9_no (-1) μ) (fun p1 => some (p1.1, p1.2))) else (if a2 = 0 then (f_X9_shut_b23 a1 0 μ) else (f_X9_shut_b23 a1 1 μ))
set_option maxRecDepth 20000 in
theorem w_X9_shut_39 {D : va_G} {cI cL : ClassId} {b : Nat} {Z : State → Heap → Prop}  (l1 : Int32) (l3 : Int32) (s0 : Int32) (μ : z_M) : z_w (zEm D cI cL b Z) (RX9, cX9_shut, 5, (some .int), 1) z_ei 39 [(0, .ref (b + 0)), (1, .int l1), (3, .int l3)] [.int s0] μ ((f_X9_shut_b39 l1 l3 s0 μ)) := by
  unfold f_X9_shut_b39
  refine z_istore (pc := 39) (L' := [(0, .ref (b + 0)), (1, .int l1), (3, .int l3), (4, .int s0)]) dX9_shut_39 (by decide) rfl ?_
  refine z_aload_n (pc := 41) dX9_shut_41 rfl ?_
  refine zgR_X9_31 (pc := 42) gm_0 rfl dX9_shut_42 ?_
  refine z_iload_n (pc := 45) dX9_shut_45 rfl ?_
  refine z_iload_n (pc := 46) dX9_shut_46 rfl ?_
  refine z_iast (pc := 47) gm_8 dX9_shut_47 ?_
  refine z_letMO (fun m2 => ?_)
  refine z_iload (pc := 48) dX9_shut_48 rfl ?_
  exact z_iret (pc := 50) rfl dX9_shut_50

set_option maxRecDepth 20000 in
theorem w_X9_shut_23 {D : va_G} {cI cL : ClassId} {b : Nat} {Z : State → Heap → Prop}  (l1 : Int32) (s0 : Int32) (μ : z_M) : z_w (zEm D cI cL b Z) (RX9, cX9_shut, 5, (some .int), 1) z_ei 23 [(0, .ref (b + 0)), (1, .int l1)] [.int s0] μ ((f_X9_shut_b23 l1 s0 μ)) := by
  unfold f_X9_shut_b23
  refine z_istore_n (pc := 23) (L' := [(0, .ref (b + 0)), (1, .int l1), (3, .int s0)]) dX9_shut_23 (by decide) rfl ?_
  refine z_aload_n (pc := 24) dX9_shut_24 rfl ?_
  refine zgR_X9_31 (pc := 25) gm_0 rfl dX9_shut_25 ?_
  refine z_iload_n (pc := 28) dX9_shut_28 rfl ?_
  refine z_iald (pc := 29) gm_8 dX9_shut_29 ?_
  refine z_iload_n (pc := 30) dX9_shut_30 rfl ?_
  refine z_icmp_ne (pc := 31) (tgt := 38) dX9_shut_31 (by decide) (fun _ => ?_) (fun _ => ?_)
  · refine z_iconst (pc := 34) dX9_shut_34 zci_0 ?_
    refine z_goto (pc := 35) (tgt := 39) dX9_shut_35 (by decide) ?_
    exact w_X9_shut_39 l1 s0 0 μ
  · refine z_iconst (pc := 38) dX9_shut_38 zci_1 ?_
    exact w_X9_shut_39 l1 s0 1 μ

set_option maxRecDepth 20000 in
theorem w_X9_shut_0 {D : va_G} {cI cL : ClassId} {b : Nat} {Z : State → Heap → Prop}  (a1 : Int32) (a2 : Int32) (μ : z_M) : z_w (zEm D cI cL b Z) (RX9, cX9_shut, 5, (some .int), 1) z_ei 0 [(0, .ref (b + 0)), (1, .int a1), (2, .int a2)] [] μ ((f_X9_shut a1 a2 μ)) := by
  unfold f_X9_shut
  refine z_aload_n (pc := 0) dX9_shut_0 rfl ?_
  refine z_iload_n (pc := 1) dX9_shut_1 rfl ?_
  refine z_callVi (pc := 2) (As := [.int a1]) (S := []) (c_X9_isWay a1 μ) rfl zw_X9_isWay zv_X9_isWay zm_X9_211 (n := 1) (by decide) rfl (z_recv gm_0 (T := TX9) (N := 52) rfl) rfl (Nat.le_of_ble_eq_true rfl) (by decide) (by decide) dX9_shut_2 ?_
  refine z_if_ne (pc := 5) (tgt := 14) dX9_shut_5 (by decide) (fun _ => ?_) (fun _ => ?_)
  · refine z_aload_n (pc := 8) dX9_shut_8 rfl ?_
    refine z_iconst (pc := 9) dX9_shut_9 zci_m1 ?_
    refine z_bindP (fun p1 hp1 => ?_)
    refine z_callVi (pc := 10) (As := [.int (-1)]) (S := []) (c_X9_no (-1) μ) hp1 zw_X9_no zv_X9_no zm_X9_171 (n := 1) (by decide) rfl (z_recv gm_0 (T := TX9) (N := 52) rfl) rfl (Nat.le_of_ble_eq_true rfl) (by decide) (by decide) dX9_shut_10 ?_
    exact z_iret (pc := 13) rfl dX9_shut_13
  · refine z_iload_n (pc := 14) dX9_shut_14 rfl ?_
    refine z_if_eq (pc := 15) (tgt := 22) dX9_shut_15 (by decide) (fun _ => ?_) (fun _ => ?_)
    · refine z_iconst (pc := 22) dX9_shut_22 zci_0 ?_
      refine z_drop (L' := [(0, .ref (b + 0)), (1, .int a1)]) [0, 1] rfl ?_
      exact w_X9_shut_23 a1 0 μ
    · refine z_iconst (pc := 18) dX9_shut_18 zci_1 ?_
      refine z_goto (pc := 19) (tgt := 23) dX9_shut_19 (by decide) ?_
      refine z_drop (L' := [(0, .ref (b + 0)), (1, .int a1)]) [0, 1] rfl ?_
      exact w_X9_shut_23 a1 1 μ

set_option maxRecDepth 20000 in
theorem c_X9_shut {D : va_G} {cI cL : ClassId} {b : Nat} {Z : State → Heap → Prop}  (a1 : Int32) (a2 : Int32) (μ : z_M) : z_S (zEm D cI cL b Z) 1 yX9_shut cX9_shut 5 (some .int) z_ei [.ref (b + 0), .int a1, .int a2] μ ((f_X9_shut a1 a2 μ)) :=
  z_entry (yn := yX9_shut) (by decide) (Nat.le_of_ble_eq_true rfl) rfl (w_X9_shut_0 a1 a2 μ)

def f_X9_lag (a1 : Int32) (μ : z_M) : Option (Int32 × z_M) :=
  if (f_X9_isIn a1 1 3 μ) = 0 then (z_bind (f_X9_no (-6) μ) (fun p1 => some (p1.1, p1.2))) else (z_let ((μ.1 0 10) : Int32) (fun x2 => z_let (z_sI μ 0 10 a1) (fun m3 => z_let (z_sI m3 0 23 a1) (fun m4 => z_chk 0 9 (z_let (z_sI m4 14 (z_ix 0) 0) (fun m5 => some (x2, m5)))))))
set_option maxRecDepth 20000 in
theorem w_X9_lag_0 {D : va_G} {cI cL : ClassId} {b : Nat} {Z : State → Heap → Prop}  (a1 : Int32) (μ : z_M) : z_w (zEm D cI cL b Z) (RX9, cX9_lag, 3, (some .int), 1) z_ei 0 [(0, .ref (b + 0)), (1, .int a1)] [] μ ((f_X9_lag a1 μ)) := by
  unfold f_X9_lag
  refine z_iload_n (pc := 0) dX9_lag_0 rfl ?_
  refine z_iconst (pc := 1) dX9_lag_1 zci_1 ?_
  refine z_iconst (pc := 2) dX9_lag_2 zci_3 ?_
  refine z_callSi (pc := 3) (As := [.int a1, .int 1, .int 3]) (S := []) (c_X9_isIn a1 1 3 μ) rfl zw_X9_isIn zs_X9_isIn zm_X9_167 (n := 3) (by decide) rfl rfl (Nat.le_of_ble_eq_true rfl) (by decide) (by decide) dX9_lag_3 ?_
  refine z_if_ne (pc := 6) (tgt := 16) dX9_lag_6 (by decide) (fun _ => ?_) (fun _ => ?_)
  · refine z_aload_n (pc := 9) dX9_lag_9 rfl ?_
    refine z_bipush (pc := 10) dX9_lag_10 zcb_m6 ?_
    refine z_bindP (fun p1 hp1 => ?_)
    refine z_callVi (pc := 12) (As := [.int (-6)]) (S := []) (c_X9_no (-6) μ) hp1 zw_X9_no zv_X9_no zm_X9_171 (n := 1) (by decide) rfl (z_recv gm_0 (T := TX9) (N := 52) rfl) rfl (Nat.le_of_ble_eq_true rfl) (by decide) (by decide) dX9_lag_12 ?_
    exact z_iret (pc := 15) rfl dX9_lag_15
  · refine z_aload_n (pc := 16) dX9_lag_16 rfl ?_
    refine zgI_X9_34 (pc := 17) gm_0 rfl dX9_lag_17 ?_
    refine z_letIO (fun x2 => ?_)
    refine z_istore_n (pc := 20) (L' := [(0, .ref (b + 0)), (1, .int a1), (2, .int x2)]) dX9_lag_20 (by decide) rfl ?_
    refine z_aload_n (pc := 21) dX9_lag_21 rfl ?_
    refine z_iload_n (pc := 22) dX9_lag_22 rfl ?_
    refine zpI_X9_34 (pc := 23) gm_0 rfl dX9_lag_23 ?_
    refine z_letMO (fun m3 => ?_)
    refine z_aload_n (pc := 26) dX9_lag_26 rfl ?_
    refine z_iload_n (pc := 27) dX9_lag_27 rfl ?_
    refine zpI_X9_69 (pc := 28) gm_0 rfl dX9_lag_28 ?_
    refine z_letMO (fun m4 => ?_)
    refine z_aload_n (pc := 31) dX9_lag_31 rfl ?_
    refine zgR_X9_56 (pc := 32) gm_0 rfl dX9_lag_32 ?_
    refine z_iconst (pc := 35) dX9_lag_35 zci_0 ?_
    refine z_iconst (pc := 36) dX9_lag_36 zci_0 ?_
    refine z_iast (pc := 37) gm_14 dX9_lag_37 ?_
    refine z_letMO (fun m5 => ?_)
    refine z_iload_n (pc := 38) dX9_lag_38 rfl ?_
    exact z_iret (pc := 39) rfl dX9_lag_39

set_option maxRecDepth 20000 in
theorem c_X9_lag {D : va_G} {cI cL : ClassId} {b : Nat} {Z : State → Heap → Prop}  (a1 : Int32) (μ : z_M) : z_S (zEm D cI cL b Z) 1 yX9_lag cX9_lag 3 (some .int) z_ei [.ref (b + 0), .int a1] μ ((f_X9_lag a1 μ)) :=
  z_entry (yn := yX9_lag) (by decide) (Nat.le_of_ble_eq_true rfl) rfl (w_X9_lag_0 a1 μ)

def f_X9_said (a1 : Int32) (a2 : Int32) (μ : z_M) : Option (Int32 × z_M) :=
  if (f_X9_isHouse a1 μ) = 0 then (z_bind (f_X9_no (-1) μ) (fun p1 => some (p1.1, p1.2))) else (if (f_X9_isSet a2 μ) = 0 then (z_bind (f_X9_no (-6) μ) (fun p2 => some (p2.1, p2.2))) else (z_chk a1 8 (z_let ((μ.1 3 (z_ix a1)) : Int32) (fun x3 => z_chk a1 8 (z_let (z_sI μ 3 (z_ix a1) a2) (fun m4 => some (x3, m4)))))))
set_option maxRecDepth 20000 in
theorem w_X9_said_0 {D : va_G} {cI cL : ClassId} {b : Nat} {Z : State → Heap → Prop}  (a1 : Int32) (a2 : Int32) (μ : z_M) : z_w (zEm D cI cL b Z) (RX9, cX9_said, 4, (some .int), 1) z_ei 0 [(0, .ref (b + 0)), (1, .int a1), (2, .int a2)] [] μ ((f_X9_said a1 a2 μ)) := by
  unfold f_X9_said
  refine z_aload_n (pc := 0) dX9_said_0 rfl ?_
  refine z_iload_n (pc := 1) dX9_said_1 rfl ?_
  refine z_callVi (pc := 2) (As := [.int a1]) (S := []) (c_X9_isHouse a1 μ) rfl zw_X9_isHouse zv_X9_isHouse zm_X9_188 (n := 1) (by decide) rfl (z_recv gm_0 (T := TX9) (N := 52) rfl) rfl (Nat.le_of_ble_eq_true rfl) (by decide) (by decide) dX9_said_2 ?_
  refine z_if_ne (pc := 5) (tgt := 14) dX9_said_5 (by decide) (fun _ => ?_) (fun _ => ?_)
  · refine z_aload_n (pc := 8) dX9_said_8 rfl ?_
    refine z_iconst (pc := 9) dX9_said_9 zci_m1 ?_
    refine z_bindP (fun p1 hp1 => ?_)
    refine z_callVi (pc := 10) (As := [.int (-1)]) (S := []) (c_X9_no (-1) μ) hp1 zw_X9_no zv_X9_no zm_X9_171 (n := 1) (by decide) rfl (z_recv gm_0 (T := TX9) (N := 52) rfl) rfl (Nat.le_of_ble_eq_true rfl) (by decide) (by decide) dX9_said_10 ?_
    exact z_iret (pc := 13) rfl dX9_said_13
  · refine z_iload_n (pc := 14) dX9_said_14 rfl ?_
    refine z_callSi (pc := 15) (As := [.int a2]) (S := []) (c_X9_isSet a2 μ) rfl zw_X9_isSet zs_X9_isSet zm_X9_195 (n := 1) (by decide) rfl rfl (Nat.le_of_ble_eq_true rfl) (by decide) (by decide) dX9_said_15 ?_
    refine z_if_ne (pc := 18) (tgt := 28) dX9_said_18 (by decide) (fun _ => ?_) (fun _ => ?_)
    · refine z_aload_n (pc := 21) dX9_said_21 rfl ?_
      refine z_bipush (pc := 22) dX9_said_22 zcb_m6 ?_
      refine z_bindP (fun p2 hp2 => ?_)
      refine z_callVi (pc := 24) (As := [.int (-6)]) (S := []) (c_X9_no (-6) μ) hp2 zw_X9_no zv_X9_no zm_X9_171 (n := 1) (by decide) rfl (z_recv gm_0 (T := TX9) (N := 52) rfl) rfl (Nat.le_of_ble_eq_true rfl) (by decide) (by decide) dX9_said_24 ?_
      exact z_iret (pc := 27) rfl dX9_said_27
    · refine z_aload_n (pc := 28) dX9_said_28 rfl ?_
      refine zgR_X9_16 (pc := 29) gm_0 rfl dX9_said_29 ?_
      refine z_iload_n (pc := 32) dX9_said_32 rfl ?_
      refine z_iald (pc := 33) gm_3 dX9_said_33 ?_
      refine z_letIO (fun x3 => ?_)
      refine z_istore_n (pc := 34) (L' := [(0, .ref (b + 0)), (1, .int a1), (2, .int a2), (3, .int x3)]) dX9_said_34 (by decide) rfl ?_
      refine z_aload_n (pc := 35) dX9_said_35 rfl ?_
      refine zgR_X9_16 (pc := 36) gm_0 rfl dX9_said_36 ?_
      refine z_iload_n (pc := 39) dX9_said_39 rfl ?_
      refine z_iload_n (pc := 40) dX9_said_40 rfl ?_
      refine z_iast (pc := 41) gm_3 dX9_said_41 ?_
      refine z_letMO (fun m4 => ?_)
      refine z_iload_n (pc := 42) dX9_said_42 rfl ?_
      exact z_iret (pc := 43) rfl dX9_said_43

set_option maxRecDepth 20000 in
theorem c_X9_said {D : va_G} {cI cL : ClassId} {b : Nat} {Z : State → Heap → Prop}  (a1 : Int32) (a2 : Int32) (μ : z_M) : z_S (zEm D cI cL b Z) 1 yX9_said cX9_said 4 (some .int) z_ei [.ref (b + 0), .int a1, .int a2] μ ((f_X9_said a1 a2 μ)) :=
  z_entry (yn := yX9_said) (by decide) (Nat.le_of_ble_eq_true rfl) rfl (w_X9_said_0 a1 a2 μ)

def f_X9_houseOf_b17  (μ : z_M) : Option (Int32 × z_M) :=
  z_bind (f_X9_no (-5) μ) (fun p1 => some (p1.1, p1.2))
def f_X9_houseOf (a1 : Int32) (a2 : Int32) (μ : z_M) : Option (Int32 × z_M) :=
  if (f_X9_isHouse a1 μ) = 0 then (f_X9_houseOf_b17 μ) else (if (f_X9_isIn a2 0 4 μ) = 0 then (f_X9_houseOf_b17 μ) else (if a2 = 0 then (z_chk a1 8 (some ((μ.1 2 (z_ix a1)), μ))) else (if a2 = 1 then (z_chk a1 8 (some ((μ.1 3 (z_ix a1)), μ))) else (if a2 = 2 then (z_chk a1 8 (some ((μ.1 4 (z_ix a1)), μ))) else (if a2 = 3 then (z_chk a1 72 (some ((μ.1 10 (z_ix a1)), μ))) else (z_chk a1 72 (some ((μ.1 11 (z_ix a1)), μ))))))))
set_option maxRecDepth 20000 in
theorem w_X9_houseOf_17 {D : va_G} {cI cL : ClassId} {b : Nat} {Z : State → Heap → Prop}   (μ : z_M) : z_w (zEm D cI cL b Z) (RX9, cX9_houseOf, 3, (some .int), 1) z_ei 17 [(0, .ref (b + 0))] [] μ ((f_X9_houseOf_b17 μ)) := by
  unfold f_X9_houseOf_b17
  refine z_aload_n (pc := 17) dX9_houseOf_17 rfl ?_
  refine z_bipush (pc := 18) dX9_houseOf_18 zcb_m5 ?_
  refine z_bindP (fun p1 hp1 => ?_)
  refine z_callVi (pc := 20) (As := [.int (-5)]) (S := []) (c_X9_no (-5) μ) hp1 zw_X9_no zv_X9_no zm_X9_171 (n := 1) (by decide) rfl (z_recv gm_0 (T := TX9) (N := 52) rfl) rfl (Nat.le_of_ble_eq_true rfl) (by decide) (by decide) dX9_houseOf_20 ?_
  exact z_iret (pc := 23) rfl dX9_houseOf_23

set_option maxRecDepth 20000 in
theorem w_X9_houseOf_0 {D : va_G} {cI cL : ClassId} {b : Nat} {Z : State → Heap → Prop}  (a1 : Int32) (a2 : Int32) (μ : z_M) : z_w (zEm D cI cL b Z) (RX9, cX9_houseOf, 3, (some .int), 1) z_ei 0 [(0, .ref (b + 0)), (1, .int a1), (2, .int a2)] [] μ ((f_X9_houseOf a1 a2 μ)) := by
  unfold f_X9_houseOf
  refine z_aload_n (pc := 0) dX9_houseOf_0 rfl ?_
  refine z_iload_n (pc := 1) dX9_houseOf_1 rfl ?_
  refine z_callVi (pc := 2) (As := [.int a1]) (S := []) (c_X9_isHouse a1 μ) rfl zw_X9_isHouse zv_X9_isHouse zm_X9_188 (n := 1) (by decide) rfl (z_recv gm_0 (T := TX9) (N := 52) rfl) rfl (Nat.le_of_ble_eq_true rfl) (by decide) (by decide) dX9_houseOf_2 ?_
  refine z_if_eq (pc := 5) (tgt := 17) dX9_houseOf_5 (by decide) (fun _ => ?_) (fun _ => ?_)
  · refine z_drop (L' := [(0, .ref (b + 0))]) [0] rfl ?_
    exact w_X9_houseOf_17 μ
  · refine z_iload_n (pc := 8) dX9_houseOf_8 rfl ?_
    refine z_iconst (pc := 9) dX9_houseOf_9 zci_0 ?_
    refine z_iconst (pc := 10) dX9_houseOf_10 zci_4 ?_
    refine z_callSi (pc := 11) (As := [.int a2, .int 0, .int 4]) (S := []) (c_X9_isIn a2 0 4 μ) rfl zw_X9_isIn zs_X9_isIn zm_X9_167 (n := 3) (by decide) rfl rfl (Nat.le_of_ble_eq_true rfl) (by decide) (by decide) dX9_houseOf_11 ?_
    refine z_if_ne (pc := 14) (tgt := 24) dX9_houseOf_14 (by decide) (fun _ => ?_) (fun _ => ?_)
    · refine z_drop (L' := [(0, .ref (b + 0))]) [0] rfl ?_
      exact w_X9_houseOf_17 μ
    · refine z_iload_n (pc := 24) dX9_houseOf_24 rfl ?_
      refine z_split (fun hx => ?_) (fun hs25_0 => ?_)
      · refine z_tableIn (pc := 25) (x0 := 0) (off := 31) (tgt := 56) dX9_houseOf_25 hx (by decide) (by decide) (by decide) (by decide) ?_
        refine z_aload_n (pc := 56) dX9_houseOf_56 rfl ?_
        refine zgR_X9_13 (pc := 57) gm_0 rfl dX9_houseOf_57 ?_
        refine z_iload_n (pc := 60) dX9_houseOf_60 rfl ?_
        refine z_iald (pc := 61) gm_2 dX9_houseOf_61 ?_
        exact z_iret (pc := 62) rfl dX9_houseOf_62
      · refine z_split (fun hx => ?_) (fun hs25_1 => ?_)
        · refine z_tableIn (pc := 25) (x0 := 1) (off := 38) (tgt := 63) dX9_houseOf_25 hx (by decide) (by decide) (by decide) (by decide) ?_
          refine z_aload_n (pc := 63) dX9_houseOf_63 rfl ?_
          refine zgR_X9_16 (pc := 64) gm_0 rfl dX9_houseOf_64 ?_
          refine z_iload_n (pc := 67) dX9_houseOf_67 rfl ?_
          refine z_iald (pc := 68) gm_3 dX9_houseOf_68 ?_
          exact z_iret (pc := 69) rfl dX9_houseOf_69
        · refine z_split (fun hx => ?_) (fun hs25_2 => ?_)
          · refine z_tableIn (pc := 25) (x0 := 2) (off := 45) (tgt := 70) dX9_houseOf_25 hx (by decide) (by decide) (by decide) (by decide) ?_
            refine z_aload_n (pc := 70) dX9_houseOf_70 rfl ?_
            refine zgR_X9_19 (pc := 71) gm_0 rfl dX9_houseOf_71 ?_
            refine z_iload_n (pc := 74) dX9_houseOf_74 rfl ?_
            refine z_iald (pc := 75) gm_4 dX9_houseOf_75 ?_
            exact z_iret (pc := 76) rfl dX9_houseOf_76
          · refine z_split (fun hx => ?_) (fun hs25_3 => ?_)
            · refine z_tableIn (pc := 25) (x0 := 3) (off := 52) (tgt := 77) dX9_houseOf_25 hx (by decide) (by decide) (by decide) (by decide) ?_
              refine z_aload_n (pc := 77) dX9_houseOf_77 rfl ?_
              refine zgR_X9_44 (pc := 78) gm_0 rfl dX9_houseOf_78 ?_
              refine z_iload_n (pc := 81) dX9_houseOf_81 rfl ?_
              refine z_iald (pc := 82) gm_10 dX9_houseOf_82 ?_
              exact z_iret (pc := 83) rfl dX9_houseOf_83
            · have hk0 := lv_neT hs25_0 (show Int32.toInt 0 = 0 by decide)
              have hk1 := lv_neT hs25_1 (show Int32.toInt 1 = 1 by decide)
              have hk2 := lv_neT hs25_2 (show Int32.toInt 2 = 2 by decide)
              have hk3 := lv_neT hs25_3 (show Int32.toInt 3 = 3 by decide)
              refine z_tableOut (pc := 25) (tgt := 84) dX9_houseOf_25 (by omega) (by decide) ?_
              refine z_aload_n (pc := 84) dX9_houseOf_84 rfl ?_
              refine zgR_X9_47 (pc := 85) gm_0 rfl dX9_houseOf_85 ?_
              refine z_iload_n (pc := 88) dX9_houseOf_88 rfl ?_
              refine z_iald (pc := 89) gm_11 dX9_houseOf_89 ?_
              exact z_iret (pc := 90) rfl dX9_houseOf_90

set_option maxRecDepth 20000 in
theorem c_X9_houseOf {D : va_G} {cI cL : ClassId} {b : Nat} {Z : State → Heap → Prop}  (a1 : Int32) (a2 : Int32) (μ : z_M) : z_S (zEm D cI cL b Z) 1 yX9_houseOf cX9_houseOf 3 (some .int) z_ei [.ref (b + 0), .int a1, .int a2] μ ((f_X9_houseOf a1 a2 μ)) :=
  z_entry (yn := yX9_houseOf) (by decide) (Nat.le_of_ble_eq_true rfl) rfl (w_X9_houseOf_0 a1 a2 μ)

def f_X9_wayOf_b17  (μ : z_M) : Option (Int32 × z_M) :=
  z_bind (f_X9_no (-5) μ) (fun p1 => some (p1.1, p1.2))
def f_X9_wayOf (a1 : Int32) (a2 : Int32) (μ : z_M) : Option (Int32 × z_M) :=
  if (f_X9_isWay a1 μ) = 0 then (f_X9_wayOf_b17 μ) else (if (f_X9_isIn a2 0 3 μ) = 0 then (f_X9_wayOf_b17 μ) else (if a2 = 0 then (z_chk a1 12 (some ((μ.1 5 (z_ix a1)), μ))) else (if a2 = 1 then (z_chk a1 12 (some ((μ.1 6 (z_ix a1)), μ))) else (if a2 = 2 then (z_chk a1 12 (some ((μ.1 7 (z_ix a1)), μ))) else (z_chk a1 12 (some ((μ.1 8 (z_ix a1)), μ)))))))
set_option maxRecDepth 20000 in
theorem w_X9_wayOf_17 {D : va_G} {cI cL : ClassId} {b : Nat} {Z : State → Heap → Prop}   (μ : z_M) : z_w (zEm D cI cL b Z) (RX9, cX9_wayOf, 3, (some .int), 1) z_ei 17 [(0, .ref (b + 0))] [] μ ((f_X9_wayOf_b17 μ)) := by
  unfold f_X9_wayOf_b17
  refine z_aload_n (pc := 17) dX9_wayOf_17 rfl ?_
  refine z_bipush (pc := 18) dX9_wayOf_18 zcb_m5 ?_
  refine z_bindP (fun p1 hp1 => ?_)
  refine z_callVi (pc := 20) (As := [.int (-5)]) (S := []) (c_X9_no (-5) μ) hp1 zw_X9_no zv_X9_no zm_X9_171 (n := 1) (by decide) rfl (z_recv gm_0 (T := TX9) (N := 52) rfl) rfl (Nat.le_of_ble_eq_true rfl) (by decide) (by decide) dX9_wayOf_20 ?_
  exact z_iret (pc := 23) rfl dX9_wayOf_23

set_option maxRecDepth 20000 in
theorem w_X9_wayOf_0 {D : va_G} {cI cL : ClassId} {b : Nat} {Z : State → Heap → Prop}  (a1 : Int32) (a2 : Int32) (μ : z_M) : z_w (zEm D cI cL b Z) (RX9, cX9_wayOf, 3, (some .int), 1) z_ei 0 [(0, .ref (b + 0)), (1, .int a1), (2, .int a2)] [] μ ((f_X9_wayOf a1 a2 μ)) := by
  unfold f_X9_wayOf
  refine z_aload_n (pc := 0) dX9_wayOf_0 rfl ?_
  refine z_iload_n (pc := 1) dX9_wayOf_1 rfl ?_
  refine z_callVi (pc := 2) (As := [.int a1]) (S := []) (c_X9_isWay a1 μ) rfl zw_X9_isWay zv_X9_isWay zm_X9_211 (n := 1) (by decide) rfl (z_recv gm_0 (T := TX9) (N := 52) rfl) rfl (Nat.le_of_ble_eq_true rfl) (by decide) (by decide) dX9_wayOf_2 ?_
  refine z_if_eq (pc := 5) (tgt := 17) dX9_wayOf_5 (by decide) (fun _ => ?_) (fun _ => ?_)
  · refine z_drop (L' := [(0, .ref (b + 0))]) [0] rfl ?_
    exact w_X9_wayOf_17 μ
  · refine z_iload_n (pc := 8) dX9_wayOf_8 rfl ?_
    refine z_iconst (pc := 9) dX9_wayOf_9 zci_0 ?_
    refine z_iconst (pc := 10) dX9_wayOf_10 zci_3 ?_
    refine z_callSi (pc := 11) (As := [.int a2, .int 0, .int 3]) (S := []) (c_X9_isIn a2 0 3 μ) rfl zw_X9_isIn zs_X9_isIn zm_X9_167 (n := 3) (by decide) rfl rfl (Nat.le_of_ble_eq_true rfl) (by decide) (by decide) dX9_wayOf_11 ?_
    refine z_if_ne (pc := 14) (tgt := 24) dX9_wayOf_14 (by decide) (fun _ => ?_) (fun _ => ?_)
    · refine z_drop (L' := [(0, .ref (b + 0))]) [0] rfl ?_
      exact w_X9_wayOf_17 μ
    · refine z_iload_n (pc := 24) dX9_wayOf_24 rfl ?_
      refine z_if_ne (pc := 25) (tgt := 37) dX9_wayOf_25 (by decide) (fun _ => ?_) (fun _ => ?_)
      · refine z_aload_n (pc := 28) dX9_wayOf_28 rfl ?_
        refine zgR_X9_22 (pc := 29) gm_0 rfl dX9_wayOf_29 ?_
        refine z_iload_n (pc := 32) dX9_wayOf_32 rfl ?_
        refine z_iald (pc := 33) gm_5 dX9_wayOf_33 ?_
        refine z_goto (pc := 34) (tgt := 71) dX9_wayOf_34 (by decide) ?_
        exact z_iret (pc := 71) rfl dX9_wayOf_71
      · refine z_iload_n (pc := 37) dX9_wayOf_37 rfl ?_
        refine z_iconst (pc := 38) dX9_wayOf_38 zci_1 ?_
        refine z_icmp_ne (pc := 39) (tgt := 51) dX9_wayOf_39 (by decide) (fun _ => ?_) (fun _ => ?_)
        · refine z_aload_n (pc := 42) dX9_wayOf_42 rfl ?_
          refine zgR_X9_25 (pc := 43) gm_0 rfl dX9_wayOf_43 ?_
          refine z_iload_n (pc := 46) dX9_wayOf_46 rfl ?_
          refine z_iald (pc := 47) gm_6 dX9_wayOf_47 ?_
          refine z_goto (pc := 48) (tgt := 71) dX9_wayOf_48 (by decide) ?_
          exact z_iret (pc := 71) rfl dX9_wayOf_71
        · refine z_iload_n (pc := 51) dX9_wayOf_51 rfl ?_
          refine z_iconst (pc := 52) dX9_wayOf_52 zci_2 ?_
          refine z_icmp_ne (pc := 53) (tgt := 65) dX9_wayOf_53 (by decide) (fun _ => ?_) (fun _ => ?_)
          · refine z_aload_n (pc := 56) dX9_wayOf_56 rfl ?_
            refine zgR_X9_28 (pc := 57) gm_0 rfl dX9_wayOf_57 ?_
            refine z_iload_n (pc := 60) dX9_wayOf_60 rfl ?_
            refine z_iald (pc := 61) gm_7 dX9_wayOf_61 ?_
            refine z_goto (pc := 62) (tgt := 71) dX9_wayOf_62 (by decide) ?_
            exact z_iret (pc := 71) rfl dX9_wayOf_71
          · refine z_aload_n (pc := 65) dX9_wayOf_65 rfl ?_
            refine zgR_X9_31 (pc := 66) gm_0 rfl dX9_wayOf_66 ?_
            refine z_iload_n (pc := 69) dX9_wayOf_69 rfl ?_
            refine z_iald (pc := 70) gm_8 dX9_wayOf_70 ?_
            exact z_iret (pc := 71) rfl dX9_wayOf_71

set_option maxRecDepth 20000 in
theorem c_X9_wayOf {D : va_G} {cI cL : ClassId} {b : Nat} {Z : State → Heap → Prop}  (a1 : Int32) (a2 : Int32) (μ : z_M) : z_S (zEm D cI cL b Z) 1 yX9_wayOf cX9_wayOf 3 (some .int) z_ei [.ref (b + 0), .int a1, .int a2] μ ((f_X9_wayOf a1 a2 μ)) :=
  z_entry (yn := yX9_wayOf) (by decide) (Nat.le_of_ble_eq_true rfl) rfl (w_X9_wayOf_0 a1 a2 μ)

def f_X9_letter  (μ : z_M) : Option (Int32 × z_M) :=
  z_chk (μ.1 0 37) 8 (if (μ.1 0 38) < (μ.1 20 (z_ix (μ.1 0 37))) then (z_bind (f_X9_intAt (μ.1 0 37) (μ.1 0 38) μ) (fun p1 => some (p1.1, p1.2))) else (some ((-1), μ)))
set_option maxRecDepth 20000 in
theorem w_X9_letter_0 {D : va_G} {cI cL : ClassId} {b : Nat} {Z : State → Heap → Prop}   (μ : z_M) : z_w (zEm D cI cL b Z) (RX9, cX9_letter, 1, (some .int), 1) z_ei 0 [(0, .ref (b + 0))] [] μ ((f_X9_letter μ)) := by
  unfold f_X9_letter
  refine z_aload_n (pc := 0) dX9_letter_0 rfl ?_
  refine zgI_X9_214 (pc := 1) gm_0 rfl dX9_letter_1 ?_
  refine z_aload_n (pc := 4) dX9_letter_4 rfl ?_
  refine zgR_X9_78 (pc := 5) gm_0 rfl dX9_letter_5 ?_
  refine z_aload_n (pc := 8) dX9_letter_8 rfl ?_
  refine zgI_X9_217 (pc := 9) gm_0 rfl dX9_letter_9 ?_
  refine z_iald (pc := 12) gm_20 dX9_letter_12 ?_
  refine z_icmp_ge (pc := 13) (tgt := 31) dX9_letter_13 (by decide) (fun _ => ?_) (fun _ => ?_)
  · refine z_aload_n (pc := 16) dX9_letter_16 rfl ?_
    refine z_aload_n (pc := 17) dX9_letter_17 rfl ?_
    refine zgI_X9_217 (pc := 18) gm_0 rfl dX9_letter_18 ?_
    refine z_aload_n (pc := 21) dX9_letter_21 rfl ?_
    refine zgI_X9_214 (pc := 22) gm_0 rfl dX9_letter_22 ?_
    refine z_bindP (fun p1 hp1 => ?_)
    refine z_callVi (pc := 25) (As := [.int (μ.1 0 37), .int (μ.1 0 38)]) (S := []) (c_X9_intAt (μ.1 0 37) (μ.1 0 38) μ) hp1 zw_X9_intAt zv_X9_intAt zm_X9_208 (n := 2) (by decide) rfl (z_recv gm_0 (T := TX9) (N := 52) rfl) rfl (Nat.le_of_ble_eq_true rfl) (by decide) (by decide) dX9_letter_25 ?_
    refine z_goto (pc := 28) (tgt := 32) dX9_letter_28 (by decide) ?_
    exact z_iret (pc := 32) rfl dX9_letter_32
  · refine z_iconst (pc := 31) dX9_letter_31 zci_m1 ?_
    exact z_iret (pc := 32) rfl dX9_letter_32

set_option maxRecDepth 20000 in
theorem c_X9_letter {D : va_G} {cI cL : ClassId} {b : Nat} {Z : State → Heap → Prop}   (μ : z_M) : z_S (zEm D cI cL b Z) 1 yX9_letter cX9_letter 1 (some .int) z_ei [.ref (b + 0)] μ ((f_X9_letter μ)) :=
  z_entry (yn := yX9_letter) (by decide) (Nat.le_of_ble_eq_true rfl) rfl (w_X9_letter_0  μ)

def f_X9_takes (a1 : Int32) (μ : z_M) : Option (Int32 × z_M) :=
  z_bind (f_X9_letter μ) (fun p1 => if p1.1 = a1 then (z_let (z_sI p1.2 0 38 ((p1.2.1 0 38) + 1)) (fun m2 => some (1, m2))) else (some (0, p1.2)))
set_option maxRecDepth 20000 in
theorem w_X9_takes_0 {D : va_G} {cI cL : ClassId} {b : Nat} {Z : State → Heap → Prop}  (a1 : Int32) (μ : z_M) : z_w (zEm D cI cL b Z) (RX9, cX9_takes, 2, (some .boolean), 2) z_ei 0 [(0, .ref (b + 0)), (1, .int a1)] [] μ ((f_X9_takes a1 μ)) := by
  unfold f_X9_takes
  refine z_aload_n (pc := 0) dX9_takes_0 rfl ?_
  refine z_bindP (fun p1 hp1 => ?_)
  refine z_callVi (pc := 1) (As := []) (S := []) (c_X9_letter μ) hp1 zw_X9_letter zv_X9_letter zm_X9_220 (n := 0) (by decide) rfl (z_recv gm_0 (T := TX9) (N := 52) rfl) rfl (Nat.le_of_ble_eq_true rfl) (by decide) (by decide) dX9_takes_1 ?_
  refine z_iload_n (pc := 4) dX9_takes_4 rfl ?_
  refine z_icmp_eq (pc := 5) (tgt := 10) dX9_takes_5 (by decide) (fun _ => ?_) (fun _ => ?_)
  · refine z_aload_n (pc := 10) dX9_takes_10 rfl ?_
    refine z_dup (pc := 11) dX9_takes_11 rfl ?_
    refine zgI_X9_214 (pc := 12) gm_0 rfl dX9_takes_12 ?_
    refine z_iconst (pc := 15) dX9_takes_15 zci_1 ?_
    refine z_iadd (pc := 16) dX9_takes_16 ?_
    refine zpI_X9_214 (pc := 17) gm_0 rfl dX9_takes_17 ?_
    refine z_letMO (fun m2 => ?_)
    refine z_iconst (pc := 20) dX9_takes_20 zci_1 ?_
    exact z_zret (pc := 21) rfl dX9_takes_21 (by decide)
  · refine z_iconst (pc := 8) dX9_takes_8 zci_0 ?_
    exact z_zret (pc := 9) rfl dX9_takes_9 (by decide)

set_option maxRecDepth 20000 in
theorem c_X9_takes {D : va_G} {cI cL : ClassId} {b : Nat} {Z : State → Heap → Prop}  (a1 : Int32) (μ : z_M) : z_S (zEm D cI cL b Z) 2 yX9_takes cX9_takes 2 (some .boolean) z_ei [.ref (b + 0), .int a1] μ ((f_X9_takes a1 μ)) :=
  z_entry (yn := yX9_takes) (by decide) (Nat.le_of_ble_eq_true rfl) rfl (w_X9_takes_0 a1 μ)

def f_X9_takesNumber_b80 (n : Nat) (l1 : Int32) (l2 : Int32) (l3 : Int32) (μ : z_M) : Option (Int32 × z_M) :=
  if l3 = 0 then (some (0, μ)) else (if (f_X9_isIn (μ.1 0 40) l1 l2 μ) = 0 then (z_let (z_sI μ 0 38 (μ.1 0 39)) (fun m5 => some (0, m5))) else (some (1, μ)))
def f_X9_takesNumber_h26 : Nat → Int32 → Int32 → Int32 → z_M → Option (Int32 × z_M)
  | 0, _, _, _, _ => none
  | n + 1, l1, l2, l3, μ =>
    if l3 < 3 then (z_bind (f_X9_letter μ) (fun p4 => if (f_X9_isIn p4.1 48 57 p4.2) = 0 then (f_X9_takesNumber_b80 n l1 l2 l3 p4.2) else (z_bind (f_X9_letter p4.2) (fun p6 => z_let (z_sI p6.2 0 40 (((10 * (p4.2.1 0 40)) + p6.1) - 48)) (fun m7 => z_let (z_sI m7 0 38 ((m7.1 0 38) + 1)) (fun m8 => f_X9_takesNumber_h26 n l1 l2 (l3 + 1) m8)))))) else (f_X9_takesNumber_b80 n l1 l2 l3 μ)
def f_X9_takesNumber (n : Nat) (a1 : Int32) (a2 : Int32) (μ : z_M) : Option (Int32 × z_M) :=
  z_bind (f_X9_takes 32 μ) (fun p1 => if p1.1 = 0 then (some (0, p1.2)) else (z_let (z_sI p1.2 0 39 (p1.2.1 0 38)) (fun m2 => z_let (z_sI m2 0 40 0) (fun m3 => f_X9_takesNumber_h26 n a1 a2 0 m3))))
set_option maxRecDepth 20000 in
theorem w_X9_takesNumber_80 {D : va_G} {cI cL : ClassId} {b : Nat} {Z : State → Heap → Prop}  (n : Nat) (l1 : Int32) (l2 : Int32) (l3 : Int32) (μ : z_M) : z_w (zEm D cI cL b Z) (RX9, cX9_takesNumber, 4, (some .boolean), 3) z_ei 80 [(0, .ref (b + 0)), (1, .int l1), (2, .int l2), (3, .int l3)] [] μ ((f_X9_takesNumber_b80 n l1 l2 l3 μ)) := by
  unfold f_X9_takesNumber_b80
  refine z_iload_n (pc := 80) dX9_takesNumber_80 rfl ?_
  refine z_if_ne (pc := 81) (tgt := 86) dX9_takesNumber_81 (by decide) (fun _ => ?_) (fun _ => ?_)
  · refine z_iconst (pc := 84) dX9_takesNumber_84 zci_0 ?_
    exact z_zret (pc := 85) rfl dX9_takesNumber_85 (by decide)
  · refine z_aload_n (pc := 86) dX9_takesNumber_86 rfl ?_
    refine zgI_X9_230 (pc := 87) gm_0 rfl dX9_takesNumber_87 ?_
    refine z_iload_n (pc := 90) dX9_takesNumber_90 rfl ?_
    refine z_iload_n (pc := 91) dX9_takesNumber_91 rfl ?_
    refine z_callSi (pc := 92) (As := [.int (μ.1 0 40), .int l1, .int l2]) (S := []) (c_X9_isIn (μ.1 0 40) l1 l2 μ) rfl zw_X9_isIn zs_X9_isIn zm_X9_167 (n := 3) (by decide) rfl rfl (Nat.le_of_ble_eq_true rfl) (by decide) (by decide) dX9_takesNumber_92 ?_
    refine z_if_eq (pc := 95) (tgt := 100) dX9_takesNumber_95 (by decide) (fun _ => ?_) (fun _ => ?_)
    · refine z_aload_n (pc := 100) dX9_takesNumber_100 rfl ?_
      refine z_aload_n (pc := 101) dX9_takesNumber_101 rfl ?_
      refine zgI_X9_227 (pc := 102) gm_0 rfl dX9_takesNumber_102 ?_
      refine zpI_X9_214 (pc := 105) gm_0 rfl dX9_takesNumber_105 ?_
      refine z_letMO (fun m5 => ?_)
      refine z_iconst (pc := 108) dX9_takesNumber_108 zci_0 ?_
      exact z_zret (pc := 109) rfl dX9_takesNumber_109 (by decide)
    · refine z_iconst (pc := 98) dX9_takesNumber_98 zci_1 ?_
      exact z_zret (pc := 99) rfl dX9_takesNumber_99 (by decide)

set_option maxRecDepth 20000 in
theorem w_X9_takesNumber_26 {D : va_G} {cI cL : ClassId} {b : Nat} {Z : State → Heap → Prop}  : ∀ (n : Nat) (l1 : Int32) (l2 : Int32) (l3 : Int32) (μ : z_M), z_w (zEm D cI cL b Z) (RX9, cX9_takesNumber, 4, (some .boolean), 3) z_ei 26 [(0, .ref (b + 0)), (1, .int l1), (2, .int l2), (3, .int l3)] [] μ (f_X9_takesNumber_h26 n l1 l2 l3 μ) := by
  intro n
  induction n with
  | zero =>
    intro l1 l2 l3 μ
    exact z_none
  | succ n ih =>
    intro l1 l2 l3 μ
    unfold f_X9_takesNumber_h26
    refine z_iload_n (pc := 26) dX9_takesNumber_26 rfl ?_
    refine z_iconst (pc := 27) dX9_takesNumber_27 zci_3 ?_
    refine z_icmp_ge (pc := 28) (tgt := 80) dX9_takesNumber_28 (by decide) (fun _ => ?_) (fun _ => ?_)
    · refine z_aload_n (pc := 31) dX9_takesNumber_31 rfl ?_
      refine z_bindP (fun p4 hp4 => ?_)
      refine z_callVi (pc := 32) (As := []) (S := []) (c_X9_letter μ) hp4 zw_X9_letter zv_X9_letter zm_X9_220 (n := 0) (by decide) rfl (z_recv gm_0 (T := TX9) (N := 52) rfl) rfl (Nat.le_of_ble_eq_true rfl) (by decide) (by decide) dX9_takesNumber_32 ?_
      refine z_bipush (pc := 35) dX9_takesNumber_35 zcb_48 ?_
      refine z_bipush (pc := 37) dX9_takesNumber_37 zcb_57 ?_
      refine z_callSi (pc := 39) (As := [.int p4.1, .int 48, .int 57]) (S := []) (c_X9_isIn p4.1 48 57 p4.2) rfl zw_X9_isIn zs_X9_isIn zm_X9_167 (n := 3) (by decide) rfl rfl (Nat.le_of_ble_eq_true rfl) (by decide) (by decide) dX9_takesNumber_39 ?_
      refine z_if_eq (pc := 42) (tgt := 80) dX9_takesNumber_42 (by decide) (fun _ => ?_) (fun _ => ?_)
      · exact w_X9_takesNumber_80 n l1 l2 l3 p4.2
      · refine z_aload_n (pc := 45) dX9_takesNumber_45 rfl ?_
        refine z_bipush (pc := 46) dX9_takesNumber_46 zcb_10 ?_
        refine z_aload_n (pc := 48) dX9_takesNumber_48 rfl ?_
        refine zgI_X9_230 (pc := 49) gm_0 rfl dX9_takesNumber_49 ?_
        refine z_imul (pc := 52) dX9_takesNumber_52 ?_
        refine z_aload_n (pc := 53) dX9_takesNumber_53 rfl ?_
        refine z_bindP (fun p6 hp6 => ?_)
        refine z_callVi (pc := 54) (As := []) (S := [.int (10 * (p4.2.1 0 40)), .ref (b + 0)]) (c_X9_letter p4.2) hp6 zw_X9_letter zv_X9_letter zm_X9_220 (n := 0) (by decide) rfl (z_recv gm_0 (T := TX9) (N := 52) rfl) rfl (Nat.le_of_ble_eq_true rfl) (by decide) (by decide) dX9_takesNumber_54 ?_
        refine z_iadd (pc := 57) dX9_takesNumber_57 ?_
        refine z_bipush (pc := 58) dX9_takesNumber_58 zcb_48 ?_
        refine z_isub (pc := 60) dX9_takesNumber_60 ?_
        refine zpI_X9_230 (pc := 61) gm_0 rfl dX9_takesNumber_61 ?_
        refine z_letMO (fun m7 => ?_)
        refine z_aload_n (pc := 64) dX9_takesNumber_64 rfl ?_
        refine z_dup (pc := 65) dX9_takesNumber_65 rfl ?_
        refine zgI_X9_214 (pc := 66) gm_0 rfl dX9_takesNumber_66 ?_
        refine z_iconst (pc := 69) dX9_takesNumber_69 zci_1 ?_
        refine z_iadd (pc := 70) dX9_takesNumber_70 ?_
        refine zpI_X9_214 (pc := 71) gm_0 rfl dX9_takesNumber_71 ?_
        refine z_letMO (fun m8 => ?_)
        refine z_iinc (pc := 74) (v := (l3 + 1)) (L' := [(0, .ref (b + 0)), (1, .int l1), (2, .int l2), (3, .int (l3 + 1))]) dX9_takesNumber_74 rfl (by decide) rfl rfl ?_
        refine z_goto (pc := 77) (tgt := 26) dX9_takesNumber_77 (by decide) ?_
        exact ih l1 l2 (l3 + 1) m8
    · exact w_X9_takesNumber_80 n l1 l2 l3 μ

set_option maxRecDepth 20000 in
theorem w_X9_takesNumber_0 {D : va_G} {cI cL : ClassId} {b : Nat} {Z : State → Heap → Prop}  (n : Nat) (a1 : Int32) (a2 : Int32) (μ : z_M) : z_w (zEm D cI cL b Z) (RX9, cX9_takesNumber, 4, (some .boolean), 3) z_ei 0 [(0, .ref (b + 0)), (1, .int a1), (2, .int a2)] [] μ ((f_X9_takesNumber n a1 a2 μ)) := by
  unfold f_X9_takesNumber
  refine z_aload_n (pc := 0) dX9_takesNumber_0 rfl ?_
  refine z_bipush (pc := 1) dX9_takesNumber_1 zcb_32 ?_
  refine z_bindP (fun p1 hp1 => ?_)
  refine z_callVi (pc := 3) (As := [.int 32]) (S := []) (c_X9_takes 32 μ) hp1 zw_X9_takes zv_X9_takes zm_X9_224 (n := 1) (by decide) rfl (z_recv gm_0 (T := TX9) (N := 52) rfl) rfl (Nat.le_of_ble_eq_true rfl) (by decide) (by decide) dX9_takesNumber_3 ?_
  refine z_if_ne (pc := 6) (tgt := 11) dX9_takesNumber_6 (by decide) (fun _ => ?_) (fun _ => ?_)
  · refine z_iconst (pc := 9) dX9_takesNumber_9 zci_0 ?_
    exact z_zret (pc := 10) rfl dX9_takesNumber_10 (by decide)
  · refine z_aload_n (pc := 11) dX9_takesNumber_11 rfl ?_
    refine z_aload_n (pc := 12) dX9_takesNumber_12 rfl ?_
    refine zgI_X9_214 (pc := 13) gm_0 rfl dX9_takesNumber_13 ?_
    refine zpI_X9_227 (pc := 16) gm_0 rfl dX9_takesNumber_16 ?_
    refine z_letMO (fun m2 => ?_)
    refine z_aload_n (pc := 19) dX9_takesNumber_19 rfl ?_
    refine z_iconst (pc := 20) dX9_takesNumber_20 zci_0 ?_
    refine zpI_X9_230 (pc := 21) gm_0 rfl dX9_takesNumber_21 ?_
    refine z_letMO (fun m3 => ?_)
    refine z_iconst (pc := 24) dX9_takesNumber_24 zci_0 ?_
    refine z_istore_n (pc := 25) (L' := [(0, .ref (b + 0)), (1, .int a1), (2, .int a2), (3, .int 0)]) dX9_takesNumber_25 (by decide) rfl ?_
    exact w_X9_takesNumber_26 n a1 a2 0 m3

set_option maxRecDepth 20000 in
theorem c_X9_takesNumber {D : va_G} {cI cL : ClassId} {b : Nat} {Z : State → Heap → Prop}  (n : Nat) (a1 : Int32) (a2 : Int32) (μ : z_M) : z_S (zEm D cI cL b Z) 3 yX9_takesNumber cX9_takesNumber 4 (some .boolean) z_ei [.ref (b + 0), .int a1, .int a2] μ ((f_X9_takesNumber n a1 a2 μ)) :=
  z_entry (yn := yX9_takesNumber) (by decide) (Nat.le_of_ble_eq_true rfl) rfl (w_X9_takesNumber_0 n a1 a2 μ)

def f_X9_fault  (μ : z_M) : Int32 :=
  (μ.1 0 36)
set_option maxRecDepth 20000 in
theorem w_X9_fault_0 {D : va_G} {cI cL : ClassId} {b : Nat} {Z : State → Heap → Prop}   (μ : z_M) : z_w (zEm D cI cL b Z) (RX9, cX9_fault, 1, (some .int), 0) z_ei 0 [(0, .ref (b + 0))] [] μ (z_oP μ (f_X9_fault μ)) := by
  unfold f_X9_fault
  refine z_aload_n (pc := 0) dX9_fault_0 rfl ?_
  refine zgI_X9_90 (pc := 1) gm_0 rfl dX9_fault_1 ?_
  exact z_iret (pc := 4) rfl dX9_fault_4

set_option maxRecDepth 20000 in
theorem c_X9_fault {D : va_G} {cI cL : ClassId} {b : Nat} {Z : State → Heap → Prop}   (μ : z_M) : z_S (zEm D cI cL b Z) 0 yX9_fault cX9_fault 1 (some .int) z_ei [.ref (b + 0)] μ (z_oP μ (f_X9_fault μ)) :=
  z_entry (yn := yX9_fault) (by decide) (Nat.le_of_ble_eq_true rfl) rfl (w_X9_fault_0  μ)

def f_X9_passOne_b38 (l2 : Int32) (μ : z_M) : Option (Int32 × z_M) :=
  z_let (z_sI μ 0 44 ((μ.1 0 44) + 1)) (fun m1 => some (l2, m1))
def f_X9_passOne_b20 (l1 : Int32) (s0 : Int32) (μ : z_M) : Option (Int32 × z_M) :=
  if (μ.1 0 43) = 0 then (f_X9_passOne_b38 s0 μ) else (z_chk (μ.1 0 44) 400 (z_let (z_sI μ 24 (z_ix (μ.1 0 44)) l1) (fun m2 => f_X9_passOne_b38 s0 m2)))
def f_X9_passOne (a1 : Int32) (μ : z_M) : Option (Int32 × z_M) :=
  if (μ.1 0 43) = 0 then (z_chk (μ.1 0 44) 400 (f_X9_passOne_b20 a1 (μ.1 24 (z_ix (μ.1 0 44))) μ)) else (f_X9_passOne_b20 a1 a1 μ)
set_option maxRecDepth 20000 in
theorem w_X9_passOne_38 {D : va_G} {cI cL : ClassId} {b : Nat} {Z : State → Heap → Prop}  (l2 : Int32) (μ : z_M) : z_w (zEm D cI cL b Z) (RX9, cX9_passOne, 3, (some .int), 0) z_ei 38 [(0, .ref (b + 0)), (2, .int l2)] [] μ ((f_X9_passOne_b38 l2 μ)) := by
  unfold f_X9_passOne_b38
  refine z_aload_n (pc := 38) dX9_passOne_38 rfl ?_
  refine z_dup (pc := 39) dX9_passOne_39 rfl ?_
  refine zgI_X9_272 (pc := 40) gm_0 rfl dX9_passOne_40 ?_
  refine z_iconst (pc := 43) dX9_passOne_43 zci_1 ?_
  refine z_iadd (pc := 44) dX9_passOne_44 ?_
  refine zpI_X9_272 (pc := 45) gm_0 rfl dX9_passOne_45 ?_
  refine z_letMO (fun m1 => ?_)
  refine z_iload_n (pc := 48) dX9_passOne_48 rfl ?_
  exact z_iret (pc := 49) rfl dX9_passOne_49

set_option maxRecDepth 20000 in
theorem w_X9_passOne_20 {D : va_G} {cI cL : ClassId} {b : Nat} {Z : State → Heap → Prop}  (l1 : Int32) (s0 : Int32) (μ : z_M) : z_w (zEm D cI cL b Z) (RX9, cX9_passOne, 3, (some .int), 0) z_ei 20 [(0, .ref (b + 0)), (1, .int l1)] [.int s0] μ ((f_X9_passOne_b20 l1 s0 μ)) := by
  unfold f_X9_passOne_b20
  refine z_istore_n (pc := 20) (L' := [(0, .ref (b + 0)), (1, .int l1), (2, .int s0)]) dX9_passOne_20 (by decide) rfl ?_
  refine z_aload_n (pc := 21) dX9_passOne_21 rfl ?_
  refine zgI_X9_269 (pc := 22) gm_0 rfl dX9_passOne_22 ?_
  refine z_if_eq (pc := 25) (tgt := 38) dX9_passOne_25 (by decide) (fun _ => ?_) (fun _ => ?_)
  · refine z_drop (L' := [(0, .ref (b + 0)), (2, .int s0)]) [0, 2] rfl ?_
    exact w_X9_passOne_38 s0 μ
  · refine z_aload_n (pc := 28) dX9_passOne_28 rfl ?_
    refine zgR_X9_93 (pc := 29) gm_0 rfl dX9_passOne_29 ?_
    refine z_aload_n (pc := 32) dX9_passOne_32 rfl ?_
    refine zgI_X9_272 (pc := 33) gm_0 rfl dX9_passOne_33 ?_
    refine z_iload_n (pc := 36) dX9_passOne_36 rfl ?_
    refine z_iast (pc := 37) gm_24 dX9_passOne_37 ?_
    refine z_letMO (fun m2 => ?_)
    refine z_drop (L' := [(0, .ref (b + 0)), (2, .int s0)]) [0, 2] rfl ?_
    exact w_X9_passOne_38 s0 m2

set_option maxRecDepth 20000 in
theorem w_X9_passOne_0 {D : va_G} {cI cL : ClassId} {b : Nat} {Z : State → Heap → Prop}  (a1 : Int32) (μ : z_M) : z_w (zEm D cI cL b Z) (RX9, cX9_passOne, 3, (some .int), 0) z_ei 0 [(0, .ref (b + 0)), (1, .int a1)] [] μ ((f_X9_passOne a1 μ)) := by
  unfold f_X9_passOne
  refine z_aload_n (pc := 0) dX9_passOne_0 rfl ?_
  refine zgI_X9_269 (pc := 1) gm_0 rfl dX9_passOne_1 ?_
  refine z_if_eq (pc := 4) (tgt := 11) dX9_passOne_4 (by decide) (fun _ => ?_) (fun _ => ?_)
  · refine z_aload_n (pc := 11) dX9_passOne_11 rfl ?_
    refine zgR_X9_93 (pc := 12) gm_0 rfl dX9_passOne_12 ?_
    refine z_aload_n (pc := 15) dX9_passOne_15 rfl ?_
    refine zgI_X9_272 (pc := 16) gm_0 rfl dX9_passOne_16 ?_
    refine z_iald (pc := 19) gm_24 dX9_passOne_19 ?_
    exact w_X9_passOne_20 a1 (μ.1 24 (z_ix (μ.1 0 44))) μ
  · refine z_iload_n (pc := 7) dX9_passOne_7 rfl ?_
    refine z_goto (pc := 8) (tgt := 20) dX9_passOne_8 (by decide) ?_
    exact w_X9_passOne_20 a1 a1 μ

set_option maxRecDepth 20000 in
theorem c_X9_passOne {D : va_G} {cI cL : ClassId} {b : Nat} {Z : State → Heap → Prop}  (a1 : Int32) (μ : z_M) : z_S (zEm D cI cL b Z) 0 yX9_passOne cX9_passOne 3 (some .int) z_ei [.ref (b + 0), .int a1] μ ((f_X9_passOne a1 μ)) :=
  z_entry (yn := yX9_passOne) (by decide) (Nat.le_of_ble_eq_true rfl) rfl (w_X9_passOne_0 a1 μ)

def f_X9_passesAll (n : Nat) (a1 : Int32) (a2 : Int32) (μ : z_M) : Option (Unit × z_M) :=
  z_let (z_sI μ 0 44 (200 * a1)) (fun m1 => z_bool a2 (z_let (z_sI m1 0 43 a2) (fun m2 => z_bind (f_X9_passes 2 8 n 8 m2) (fun p3 => z_bind (f_X9_passes 3 8 n 8 p3.2) (fun p4 => z_bind (f_X9_passes 4 8 n 8 p4.2) (fun p5 => z_bind (f_X9_passes 5 12 n 12 p5.2) (fun p6 => z_bind (f_X9_passes 6 12 n 12 p6.2) (fun p7 => z_bind (f_X9_passes 7 12 n 12 p7.2) (fun p8 => z_bind (f_X9_passes 8 12 n 12 p8.2) (fun p9 => z_bind (f_X9_passes 9 9 n 1 p9.2) (fun p10 => z_bind (f_X9_passes 10 72 n 8 p10.2) (fun p11 => z_bind (f_X9_passes 11 72 n 8 p11.2) (fun p12 => z_bind (f_X9_passes 13 27 n 3 p12.2) (fun p13 => z_bind (f_X9_passes 14 9 n 1 p13.2) (fun p14 => z_bind (f_X9_passOne (p14.2.1 0 8) p14.2) (fun p15 => z_let (z_sI p15.2 0 8 p15.1) (fun m16 => z_bind (f_X9_passOne (m16.1 0 9) m16) (fun p17 => z_let (z_sI p17.2 0 9 p17.1) (fun m18 => z_bind (f_X9_passOne (m18.1 0 10) m18) (fun p19 => z_let (z_sI p19.2 0 10 p19.1) (fun m20 => z_bind (f_X9_passOne (m20.1 0 11) m20) (fun p21 => z_let (z_sI p21.2 0 11 p21.1) (fun m22 => z_bind (f_X9_passOne (m22.1 0 12) m22) (fun p23 => z_let (z_sI p23.2 0 12 p23.1) (fun m24 => z_bind (f_X9_passOne (m24.1 0 13) m24) (fun p25 => z_let (z_sI p25.2 0 13 p25.1) (fun m26 => z_let (z_sI m26 0 23 (m26.1 0 10)) (fun m27 => some ((), m27)))))))))))))))))))))))))))))
set_option maxRecDepth 20000 in
theorem w_X9_passesAll_0 {D : va_G} {cI cL : ClassId} {b : Nat} {Z : State → Heap → Prop}  (n : Nat) (a1 : Int32) (a2 : Int32) (μ : z_M) : z_w (zEm D cI cL b Z) (RX9, cX9_passesAll, 3, none, 1) z_ev 0 [(0, .ref (b + 0)), (1, .int a1), (2, .int a2)] [] μ ((f_X9_passesAll n a1 a2 μ)) := by
  unfold f_X9_passesAll
  refine z_aload_n (pc := 0) dX9_passesAll_0 rfl ?_
  refine z_sipush (pc := 1) dX9_passesAll_1 zcs_200 ?_
  refine z_iload_n (pc := 4) dX9_passesAll_4 rfl ?_
  refine z_imul (pc := 5) dX9_passesAll_5 ?_
  refine zpI_X9_272 (pc := 6) gm_0 rfl dX9_passesAll_6 ?_
  refine z_letMO (fun m1 => ?_)
  refine z_aload_n (pc := 9) dX9_passesAll_9 rfl ?_
  refine z_iload_n (pc := 10) dX9_passesAll_10 rfl ?_
  refine z_guardW (fun _ h => z_bool_some h) (fun hb11 => ?_)
  refine zpZ_X9_269 (pc := 11) gm_0 rfl hb11 dX9_passesAll_11 ?_
  refine z_letMO (fun m2 => ?_)
  refine z_aload_n (pc := 14) dX9_passesAll_14 rfl ?_
  refine z_aload_n (pc := 15) dX9_passesAll_15 rfl ?_
  refine zgR_X9_13 (pc := 16) gm_0 rfl dX9_passesAll_16 ?_
  refine z_bipush (pc := 19) dX9_passesAll_19 zcb_8 ?_
  refine z_bindP (fun p3 hp3 => ?_)
  refine z_callVv (pc := 21) (As := [.ref (b + 2), .int 8]) (S := []) (c_X9_passes gm_2 n 8 m2) hp3 zw_X9_passes zv_X9_passes zm_X9_275 (n := 2) (by decide) rfl (z_recv gm_0 (T := TX9) (N := 52) rfl) rfl (Nat.le_of_ble_eq_true rfl) (by decide) (by decide) dX9_passesAll_21 ?_
  refine z_aload_n (pc := 24) dX9_passesAll_24 rfl ?_
  refine z_aload_n (pc := 25) dX9_passesAll_25 rfl ?_
  refine zgR_X9_16 (pc := 26) gm_0 rfl dX9_passesAll_26 ?_
  refine z_bipush (pc := 29) dX9_passesAll_29 zcb_8 ?_
  refine z_bindP (fun p4 hp4 => ?_)
  refine z_callVv (pc := 31) (As := [.ref (b + 3), .int 8]) (S := []) (c_X9_passes gm_3 n 8 p3.2) hp4 zw_X9_passes zv_X9_passes zm_X9_275 (n := 2) (by decide) rfl (z_recv gm_0 (T := TX9) (N := 52) rfl) rfl (Nat.le_of_ble_eq_true rfl) (by decide) (by decide) dX9_passesAll_31 ?_
  refine z_aload_n (pc := 34) dX9_passesAll_34 rfl ?_
  refine z_aload_n (pc := 35) dX9_passesAll_35 rfl ?_
  refine zgR_X9_19 (pc := 36) gm_0 rfl dX9_passesAll_36 ?_
  refine z_bipush (pc := 39) dX9_passesAll_39 zcb_8 ?_
  refine z_bindP (fun p5 hp5 => ?_)
  refine z_callVv (pc := 41) (As := [.ref (b + 4), .int 8]) (S := []) (c_X9_passes gm_4 n 8 p4.2) hp5 zw_X9_passes zv_X9_passes zm_X9_275 (n := 2) (by decide) rfl (z_recv gm_0 (T := TX9) (N := 52) rfl) rfl (Nat.le_of_ble_eq_true rfl) (by decide) (by decide) dX9_passesAll_41 ?_
  refine z_aload_n (pc := 44) dX9_passesAll_44 rfl ?_
  refine z_aload_n (pc := 45) dX9_passesAll_45 rfl ?_
  refine zgR_X9_22 (pc := 46) gm_0 rfl dX9_passesAll_46 ?_
  refine z_bipush (pc := 49) dX9_passesAll_49 zcb_12 ?_
  refine z_bindP (fun p6 hp6 => ?_)
  refine z_callVv (pc := 51) (As := [.ref (b + 5), .int 12]) (S := []) (c_X9_passes gm_5 n 12 p5.2) hp6 zw_X9_passes zv_X9_passes zm_X9_275 (n := 2) (by decide) rfl (z_recv gm_0 (T := TX9) (N := 52) rfl) rfl (Nat.le_of_ble_eq_true rfl) (by decide) (by decide) dX9_passesAll_51 ?_
  refine z_aload_n (pc := 54) dX9_passesAll_54 rfl ?_
  refine z_aload_n (pc := 55) dX9_passesAll_55 rfl ?_
  refine zgR_X9_25 (pc := 56) gm_0 rfl dX9_passesAll_56 ?_
  refine z_bipush (pc := 59) dX9_passesAll_59 zcb_12 ?_
  refine z_bindP (fun p7 hp7 => ?_)
  refine z_callVv (pc := 61) (As := [.ref (b + 6), .int 12]) (S := []) (c_X9_passes gm_6 n 12 p6.2) hp7 zw_X9_passes zv_X9_passes zm_X9_275 (n := 2) (by decide) rfl (z_recv gm_0 (T := TX9) (N := 52) rfl) rfl (Nat.le_of_ble_eq_true rfl) (by decide) (by decide) dX9_passesAll_61 ?_
  refine z_aload_n (pc := 64) dX9_passesAll_64 rfl ?_
  refine z_aload_n (pc := 65) dX9_passesAll_65 rfl ?_
  refine zgR_X9_28 (pc := 66) gm_0 rfl dX9_passesAll_66 ?_
  refine z_bipush (pc := 69) dX9_passesAll_69 zcb_12 ?_
  refine z_bindP (fun p8 hp8 => ?_)
  refine z_callVv (pc := 71) (As := [.ref (b + 7), .int 12]) (S := []) (c_X9_passes gm_7 n 12 p7.2) hp8 zw_X9_passes zv_X9_passes zm_X9_275 (n := 2) (by decide) rfl (z_recv gm_0 (T := TX9) (N := 52) rfl) rfl (Nat.le_of_ble_eq_true rfl) (by decide) (by decide) dX9_passesAll_71 ?_
  refine z_aload_n (pc := 74) dX9_passesAll_74 rfl ?_
  refine z_aload_n (pc := 75) dX9_passesAll_75 rfl ?_
  refine zgR_X9_31 (pc := 76) gm_0 rfl dX9_passesAll_76 ?_
  refine z_bipush (pc := 79) dX9_passesAll_79 zcb_12 ?_
  refine z_bindP (fun p9 hp9 => ?_)
  refine z_callVv (pc := 81) (As := [.ref (b + 8), .int 12]) (S := []) (c_X9_passes gm_8 n 12 p8.2) hp9 zw_X9_passes zv_X9_passes zm_X9_275 (n := 2) (by decide) rfl (z_recv gm_0 (T := TX9) (N := 52) rfl) rfl (Nat.le_of_ble_eq_true rfl) (by decide) (by decide) dX9_passesAll_81 ?_
  refine z_aload_n (pc := 84) dX9_passesAll_84 rfl ?_
  refine z_aload_n (pc := 85) dX9_passesAll_85 rfl ?_
  refine zgR_X9_41 (pc := 86) gm_0 rfl dX9_passesAll_86 ?_
  refine z_iconst (pc := 89) dX9_passesAll_89 zci_1 ?_
  refine z_bindP (fun p10 hp10 => ?_)
  refine z_callVv (pc := 90) (As := [.ref (b + 9), .int 1]) (S := []) (c_X9_passes gm_9 n 1 p9.2) hp10 zw_X9_passes zv_X9_passes zm_X9_275 (n := 2) (by decide) rfl (z_recv gm_0 (T := TX9) (N := 52) rfl) rfl (Nat.le_of_ble_eq_true rfl) (by decide) (by decide) dX9_passesAll_90 ?_
  refine z_aload_n (pc := 93) dX9_passesAll_93 rfl ?_
  refine z_aload_n (pc := 94) dX9_passesAll_94 rfl ?_
  refine zgR_X9_44 (pc := 95) gm_0 rfl dX9_passesAll_95 ?_
  refine z_bipush (pc := 98) dX9_passesAll_98 zcb_8 ?_
  refine z_bindP (fun p11 hp11 => ?_)
  refine z_callVv (pc := 100) (As := [.ref (b + 10), .int 8]) (S := []) (c_X9_passes gm_10 n 8 p10.2) hp11 zw_X9_passes zv_X9_passes zm_X9_275 (n := 2) (by decide) rfl (z_recv gm_0 (T := TX9) (N := 52) rfl) rfl (Nat.le_of_ble_eq_true rfl) (by decide) (by decide) dX9_passesAll_100 ?_
  refine z_aload_n (pc := 103) dX9_passesAll_103 rfl ?_
  refine z_aload_n (pc := 104) dX9_passesAll_104 rfl ?_
  refine zgR_X9_47 (pc := 105) gm_0 rfl dX9_passesAll_105 ?_
  refine z_bipush (pc := 108) dX9_passesAll_108 zcb_8 ?_
  refine z_bindP (fun p12 hp12 => ?_)
  refine z_callVv (pc := 110) (As := [.ref (b + 11), .int 8]) (S := []) (c_X9_passes gm_11 n 8 p11.2) hp12 zw_X9_passes zv_X9_passes zm_X9_275 (n := 2) (by decide) rfl (z_recv gm_0 (T := TX9) (N := 52) rfl) rfl (Nat.le_of_ble_eq_true rfl) (by decide) (by decide) dX9_passesAll_110 ?_
  refine z_aload_n (pc := 113) dX9_passesAll_113 rfl ?_
  refine z_aload_n (pc := 114) dX9_passesAll_114 rfl ?_
  refine zgR_X9_53 (pc := 115) gm_0 rfl dX9_passesAll_115 ?_
  refine z_iconst (pc := 118) dX9_passesAll_118 zci_3 ?_
  refine z_bindP (fun p13 hp13 => ?_)
  refine z_callVv (pc := 119) (As := [.ref (b + 13), .int 3]) (S := []) (c_X9_passes gm_13 n 3 p12.2) hp13 zw_X9_passes zv_X9_passes zm_X9_275 (n := 2) (by decide) rfl (z_recv gm_0 (T := TX9) (N := 52) rfl) rfl (Nat.le_of_ble_eq_true rfl) (by decide) (by decide) dX9_passesAll_119 ?_
  refine z_aload_n (pc := 122) dX9_passesAll_122 rfl ?_
  refine z_aload_n (pc := 123) dX9_passesAll_123 rfl ?_
  refine zgR_X9_56 (pc := 124) gm_0 rfl dX9_passesAll_124 ?_
  refine z_iconst (pc := 127) dX9_passesAll_127 zci_1 ?_
  refine z_bindP (fun p14 hp14 => ?_)
  refine z_callVv (pc := 128) (As := [.ref (b + 14), .int 1]) (S := []) (c_X9_passes gm_14 n 1 p13.2) hp14 zw_X9_passes zv_X9_passes zm_X9_275 (n := 2) (by decide) rfl (z_recv gm_0 (T := TX9) (N := 52) rfl) rfl (Nat.le_of_ble_eq_true rfl) (by decide) (by decide) dX9_passesAll_128 ?_
  refine z_aload_n (pc := 131) dX9_passesAll_131 rfl ?_
  refine z_aload_n (pc := 132) dX9_passesAll_132 rfl ?_
  refine z_aload_n (pc := 133) dX9_passesAll_133 rfl ?_
  refine zgI_X9_102 (pc := 134) gm_0 rfl dX9_passesAll_134 ?_
  refine z_bindP (fun p15 hp15 => ?_)
  refine z_callVi (pc := 137) (As := [.int (p14.2.1 0 8)]) (S := [.ref (b + 0)]) (c_X9_passOne (p14.2.1 0 8) p14.2) hp15 zw_X9_passOne zv_X9_passOne zm_X9_279 (n := 1) (by decide) rfl (z_recv gm_0 (T := TX9) (N := 52) rfl) rfl (Nat.le_of_ble_eq_true rfl) (by decide) (by decide) dX9_passesAll_137 ?_
  refine zpI_X9_102 (pc := 140) gm_0 rfl dX9_passesAll_140 ?_
  refine z_letMO (fun m16 => ?_)
  refine z_aload_n (pc := 143) dX9_passesAll_143 rfl ?_
  refine z_aload_n (pc := 144) dX9_passesAll_144 rfl ?_
  refine z_aload_n (pc := 145) dX9_passesAll_145 rfl ?_
  refine zgI_X9_105 (pc := 146) gm_0 rfl dX9_passesAll_146 ?_
  refine z_bindP (fun p17 hp17 => ?_)
  refine z_callVi (pc := 149) (As := [.int (m16.1 0 9)]) (S := [.ref (b + 0)]) (c_X9_passOne (m16.1 0 9) m16) hp17 zw_X9_passOne zv_X9_passOne zm_X9_279 (n := 1) (by decide) rfl (z_recv gm_0 (T := TX9) (N := 52) rfl) rfl (Nat.le_of_ble_eq_true rfl) (by decide) (by decide) dX9_passesAll_149 ?_
  refine zpI_X9_105 (pc := 152) gm_0 rfl dX9_passesAll_152 ?_
  refine z_letMO (fun m18 => ?_)
  refine z_aload_n (pc := 155) dX9_passesAll_155 rfl ?_
  refine z_aload_n (pc := 156) dX9_passesAll_156 rfl ?_
  refine z_aload_n (pc := 157) dX9_passesAll_157 rfl ?_
  refine zgI_X9_34 (pc := 158) gm_0 rfl dX9_passesAll_158 ?_
  refine z_bindP (fun p19 hp19 => ?_)
  refine z_callVi (pc := 161) (As := [.int (m18.1 0 10)]) (S := [.ref (b + 0)]) (c_X9_passOne (m18.1 0 10) m18) hp19 zw_X9_passOne zv_X9_passOne zm_X9_279 (n := 1) (by decide) rfl (z_recv gm_0 (T := TX9) (N := 52) rfl) rfl (Nat.le_of_ble_eq_true rfl) (by decide) (by decide) dX9_passesAll_161 ?_
  refine zpI_X9_34 (pc := 164) gm_0 rfl dX9_passesAll_164 ?_
  refine z_letMO (fun m20 => ?_)
  refine z_aload_n (pc := 167) dX9_passesAll_167 rfl ?_
  refine z_aload_n (pc := 168) dX9_passesAll_168 rfl ?_
  refine z_aload_n (pc := 169) dX9_passesAll_169 rfl ?_
  refine zgI_X9_282 (pc := 170) gm_0 rfl dX9_passesAll_170 ?_
  refine z_bindP (fun p21 hp21 => ?_)
  refine z_callVi (pc := 173) (As := [.int (m20.1 0 11)]) (S := [.ref (b + 0)]) (c_X9_passOne (m20.1 0 11) m20) hp21 zw_X9_passOne zv_X9_passOne zm_X9_279 (n := 1) (by decide) rfl (z_recv gm_0 (T := TX9) (N := 52) rfl) rfl (Nat.le_of_ble_eq_true rfl) (by decide) (by decide) dX9_passesAll_173 ?_
  refine zpI_X9_282 (pc := 176) gm_0 rfl dX9_passesAll_176 ?_
  refine z_letMO (fun m22 => ?_)
  refine z_aload_n (pc := 179) dX9_passesAll_179 rfl ?_
  refine z_aload_n (pc := 180) dX9_passesAll_180 rfl ?_
  refine z_aload_n (pc := 181) dX9_passesAll_181 rfl ?_
  refine zgI_X9_285 (pc := 182) gm_0 rfl dX9_passesAll_182 ?_
  refine z_bindP (fun p23 hp23 => ?_)
  refine z_callVi (pc := 185) (As := [.int (m22.1 0 12)]) (S := [.ref (b + 0)]) (c_X9_passOne (m22.1 0 12) m22) hp23 zw_X9_passOne zv_X9_passOne zm_X9_279 (n := 1) (by decide) rfl (z_recv gm_0 (T := TX9) (N := 52) rfl) rfl (Nat.le_of_ble_eq_true rfl) (by decide) (by decide) dX9_passesAll_185 ?_
  refine zpI_X9_285 (pc := 188) gm_0 rfl dX9_passesAll_188 ?_
  refine z_letMO (fun m24 => ?_)
  refine z_aload_n (pc := 191) dX9_passesAll_191 rfl ?_
  refine z_aload_n (pc := 192) dX9_passesAll_192 rfl ?_
  refine z_aload_n (pc := 193) dX9_passesAll_193 rfl ?_
  refine zgI_X9_38 (pc := 194) gm_0 rfl dX9_passesAll_194 ?_
  refine z_bindP (fun p25 hp25 => ?_)
  refine z_callVi (pc := 197) (As := [.int (m24.1 0 13)]) (S := [.ref (b + 0)]) (c_X9_passOne (m24.1 0 13) m24) hp25 zw_X9_passOne zv_X9_passOne zm_X9_279 (n := 1) (by decide) rfl (z_recv gm_0 (T := TX9) (N := 52) rfl) rfl (Nat.le_of_ble_eq_true rfl) (by decide) (by decide) dX9_passesAll_197 ?_
  refine zpI_X9_38 (pc := 200) gm_0 rfl dX9_passesAll_200 ?_
  refine z_letMO (fun m26 => ?_)
  refine z_aload_n (pc := 203) dX9_passesAll_203 rfl ?_
  refine z_aload_n (pc := 204) dX9_passesAll_204 rfl ?_
  refine zgI_X9_34 (pc := 205) gm_0 rfl dX9_passesAll_205 ?_
  refine zpI_X9_69 (pc := 208) gm_0 rfl dX9_passesAll_208 ?_
  refine z_letMO (fun m27 => ?_)
  exact z_vret (pc := 211) rfl dX9_passesAll_211

set_option maxRecDepth 20000 in
theorem c_X9_passesAll {D : va_G} {cI cL : ClassId} {b : Nat} {Z : State → Heap → Prop}  (n : Nat) (a1 : Int32) (a2 : Int32) (μ : z_M) : z_S (zEm D cI cL b Z) 1 yX9_passesAll cX9_passesAll 3 none z_ev [.ref (b + 0), .int a1, .int a2] μ ((f_X9_passesAll n a1 a2 μ)) :=
  z_entry (yn := yX9_passesAll) (by decide) (Nat.le_of_ble_eq_true rfl) rfl (w_X9_passesAll_0 n a1 a2 μ)

def f_X9_image (n : Nat)  (μ : z_M) : Option (Int32 × z_M) :=
  z_let (z_sI μ 0 42 1) (fun m1 => z_bind (f_X9_passesAll n 0 1 m1) (fun p2 => some ((p2.2.1 0 8), p2.2)))
set_option maxRecDepth 20000 in
theorem w_X9_image_0 {D : va_G} {cI cL : ClassId} {b : Nat} {Z : State → Heap → Prop}  (n : Nat)  (μ : z_M) : z_w (zEm D cI cL b Z) (RX9, cX9_image, 1, (some .int), 2) z_ei 0 [(0, .ref (b + 0))] [] μ ((f_X9_image n μ)) := by
  unfold f_X9_image
  refine z_aload_n (pc := 0) dX9_image_0 rfl ?_
  refine z_iconst (pc := 1) dX9_image_1 zci_1 ?_
  refine zpZ_X9_288 (pc := 2) gm_0 rfl (by decide) dX9_image_2 ?_
  refine z_letMO (fun m1 => ?_)
  refine z_aload_n (pc := 5) dX9_image_5 rfl ?_
  refine z_iconst (pc := 6) dX9_image_6 zci_0 ?_
  refine z_iconst (pc := 7) dX9_image_7 zci_1 ?_
  refine z_bindP (fun p2 hp2 => ?_)
  refine z_callVv (pc := 8) (As := [.int 0, .int 1]) (S := []) (c_X9_passesAll n 0 1 m1) hp2 zw_X9_passesAll zv_X9_passesAll zm_X9_262 (n := 2) (by decide) rfl (z_recv gm_0 (T := TX9) (N := 52) rfl) rfl (Nat.le_of_ble_eq_true rfl) (by decide) (by decide) dX9_image_8 ?_
  refine z_aload_n (pc := 11) dX9_image_11 rfl ?_
  refine zgI_X9_102 (pc := 12) gm_0 rfl dX9_image_12 ?_
  exact z_iret (pc := 15) rfl dX9_image_15

set_option maxRecDepth 20000 in
theorem c_X9_image {D : va_G} {cI cL : ClassId} {b : Nat} {Z : State → Heap → Prop}  (n : Nat)  (μ : z_M) : z_S (zEm D cI cL b Z) 2 yX9_image cX9_image 1 (some .int) z_ei [.ref (b + 0)] μ ((f_X9_image n μ)) :=
  z_entry (yn := yX9_image) (by decide) (Nat.le_of_ble_eq_true rfl) rfl (w_X9_image_0 n  μ)

def f_X9_restore_b58 (r22 : Int32 → z_M → Option (Int32 × z_M)) (n : Nat) (l1 : Int32) (μ : z_M) : Option (Int32 × z_M) :=
  r22 (l1 + 1) μ
def f_X9_restore_h22 : Nat → Int32 → z_M → Option (Int32 × z_M)
  | 0, _, _ => none
  | n + 1, l1, μ =>
    if l1 < 8 then (z_chk l1 8 (if (μ.1 19 (z_ix l1)) = 4 then (z_chk l1 8 (if (μ.1 21 (z_ix l1)) < (μ.1 0 8) then (f_X9_restore_b58 (f_X9_restore_h22 n) n l1 μ) else (z_chk l1 8 (z_let (z_sI μ 19 (z_ix l1) (-1)) (fun m3 => f_X9_restore_b58 (f_X9_restore_h22 n) n l1 m3))))) else (f_X9_restore_b58 (f_X9_restore_h22 n) n l1 μ))) else (some ((μ.1 0 8), μ))
def f_X9_restore (n : Nat)  (μ : z_M) : Option (Int32 × z_M) :=
  if (μ.1 0 42) = 0 then (z_bind (f_X9_no (-6) μ) (fun p1 => some (p1.1, p1.2))) else (z_bind (f_X9_passesAll n 0 0 μ) (fun p2 => f_X9_restore_h22 n 0 p2.2))
set_option maxRecDepth 20000 in
theorem w_X9_restore_58 {D : va_G} {cI cL : ClassId} {b : Nat} {Z : State → Heap → Prop}  (r22 : Int32 → z_M → Option (Int32 × z_M)) (hr22 : ∀ (l1 : Int32) (μ : z_M), z_w (zEm D cI cL b Z) (RX9, cX9_restore, 2, (some .int), 2) z_ei 22 [(0, .ref (b + 0)), (1, .int l1)] [] μ ((r22 l1 μ))) (n : Nat) (l1 : Int32) (μ : z_M) : z_w (zEm D cI cL b Z) (RX9, cX9_restore, 2, (some .int), 2) z_ei 58 [(0, .ref (b + 0)), (1, .int l1)] [] μ ((f_X9_restore_b58 r22 n l1 μ)) := by
  unfold f_X9_restore_b58
  refine z_iinc (pc := 58) (v := (l1 + 1)) (L' := [(0, .ref (b + 0)), (1, .int (l1 + 1))]) dX9_restore_58 rfl (by decide) rfl rfl ?_
  refine z_goto (pc := 61) (tgt := 22) dX9_restore_61 (by decide) ?_
  exact hr22 (l1 + 1) μ

set_option maxRecDepth 20000 in
theorem w_X9_restore_22 {D : va_G} {cI cL : ClassId} {b : Nat} {Z : State → Heap → Prop}  : ∀ (n : Nat) (l1 : Int32) (μ : z_M), z_w (zEm D cI cL b Z) (RX9, cX9_restore, 2, (some .int), 2) z_ei 22 [(0, .ref (b + 0)), (1, .int l1)] [] μ (f_X9_restore_h22 n l1 μ) := by
  intro n
  induction n with
  | zero =>
    intro l1 μ
    exact z_none
  | succ n ih =>
    intro l1 μ
    unfold f_X9_restore_h22
    refine z_iload_n (pc := 22) dX9_restore_22 rfl ?_
    refine z_bipush (pc := 23) dX9_restore_23 zcb_8 ?_
    refine z_icmp_ge (pc := 25) (tgt := 64) dX9_restore_25 (by decide) (fun _ => ?_) (fun _ => ?_)
    · refine z_aload_n (pc := 28) dX9_restore_28 rfl ?_
      refine zgR_X9_75 (pc := 29) gm_0 rfl dX9_restore_29 ?_
      refine z_iload_n (pc := 32) dX9_restore_32 rfl ?_
      refine z_iald (pc := 33) gm_19 dX9_restore_33 ?_
      refine z_iconst (pc := 34) dX9_restore_34 zci_4 ?_
      refine z_icmp_ne (pc := 35) (tgt := 58) dX9_restore_35 (by decide) (fun _ => ?_) (fun _ => ?_)
      · refine z_aload_n (pc := 38) dX9_restore_38 rfl ?_
        refine zgR_X9_81 (pc := 39) gm_0 rfl dX9_restore_39 ?_
        refine z_iload_n (pc := 42) dX9_restore_42 rfl ?_
        refine z_iald (pc := 43) gm_21 dX9_restore_43 ?_
        refine z_aload_n (pc := 44) dX9_restore_44 rfl ?_
        refine zgI_X9_102 (pc := 45) gm_0 rfl dX9_restore_45 ?_
        refine z_icmp_lt (pc := 48) (tgt := 58) dX9_restore_48 (by decide) (fun _ => ?_) (fun _ => ?_)
        · exact w_X9_restore_58 _ ih n l1 μ
        · refine z_aload_n (pc := 51) dX9_restore_51 rfl ?_
          refine zgR_X9_75 (pc := 52) gm_0 rfl dX9_restore_52 ?_
          refine z_iload_n (pc := 55) dX9_restore_55 rfl ?_
          refine z_iconst (pc := 56) dX9_restore_56 zci_m1 ?_
          refine z_iast (pc := 57) gm_19 dX9_restore_57 ?_
          refine z_letMO (fun m3 => ?_)
          exact w_X9_restore_58 _ ih n l1 m3
      · exact w_X9_restore_58 _ ih n l1 μ
    · refine z_aload_n (pc := 64) dX9_restore_64 rfl ?_
      refine zgI_X9_102 (pc := 65) gm_0 rfl dX9_restore_65 ?_
      exact z_iret (pc := 68) rfl dX9_restore_68

set_option maxRecDepth 20000 in
theorem w_X9_restore_0 {D : va_G} {cI cL : ClassId} {b : Nat} {Z : State → Heap → Prop}  (n : Nat)  (μ : z_M) : z_w (zEm D cI cL b Z) (RX9, cX9_restore, 2, (some .int), 2) z_ei 0 [(0, .ref (b + 0))] [] μ ((f_X9_restore n μ)) := by
  unfold f_X9_restore
  refine z_aload_n (pc := 0) dX9_restore_0 rfl ?_
  refine zgI_X9_288 (pc := 1) gm_0 rfl dX9_restore_1 ?_
  refine z_if_ne (pc := 4) (tgt := 14) dX9_restore_4 (by decide) (fun _ => ?_) (fun _ => ?_)
  · refine z_aload_n (pc := 7) dX9_restore_7 rfl ?_
    refine z_bipush (pc := 8) dX9_restore_8 zcb_m6 ?_
    refine z_bindP (fun p1 hp1 => ?_)
    refine z_callVi (pc := 10) (As := [.int (-6)]) (S := []) (c_X9_no (-6) μ) hp1 zw_X9_no zv_X9_no zm_X9_171 (n := 1) (by decide) rfl (z_recv gm_0 (T := TX9) (N := 52) rfl) rfl (Nat.le_of_ble_eq_true rfl) (by decide) (by decide) dX9_restore_10 ?_
    exact z_iret (pc := 13) rfl dX9_restore_13
  · refine z_aload_n (pc := 14) dX9_restore_14 rfl ?_
    refine z_iconst (pc := 15) dX9_restore_15 zci_0 ?_
    refine z_iconst (pc := 16) dX9_restore_16 zci_0 ?_
    refine z_bindP (fun p2 hp2 => ?_)
    refine z_callVv (pc := 17) (As := [.int 0, .int 0]) (S := []) (c_X9_passesAll n 0 0 μ) hp2 zw_X9_passesAll zv_X9_passesAll zm_X9_262 (n := 2) (by decide) rfl (z_recv gm_0 (T := TX9) (N := 52) rfl) rfl (Nat.le_of_ble_eq_true rfl) (by decide) (by decide) dX9_restore_17 ?_
    refine z_iconst (pc := 20) dX9_restore_20 zci_0 ?_
    refine z_istore_n (pc := 21) (L' := [(0, .ref (b + 0)), (1, .int 0)]) dX9_restore_21 (by decide) rfl ?_
    exact w_X9_restore_22 n 0 p2.2

set_option maxRecDepth 20000 in
theorem c_X9_restore {D : va_G} {cI cL : ClassId} {b : Nat} {Z : State → Heap → Prop}  (n : Nat)  (μ : z_M) : z_S (zEm D cI cL b Z) 2 yX9_restore cX9_restore 2 (some .int) z_ei [.ref (b + 0)] μ ((f_X9_restore n μ)) :=
  z_entry (yn := yX9_restore) (by decide) (Nat.le_of_ble_eq_true rfl) rfl (w_X9_restore_0 n  μ)

def f_X9_reallyVisits (a1 : Int32) (μ : z_M) : Option (Int32 × z_M) :=
  z_bind (f_X9_visits 0 a1 μ) (fun p1 => z_let (z_sI p1.2 0 12 ((p1.2.1 0 12) + 1)) (fun m2 => some ((m2.1 16 (z_ix 0)), m2)))
set_option maxRecDepth 20000 in
theorem w_X9_reallyVisits_0 {D : va_G} {cI cL : ClassId} {b : Nat} {Z : State → Heap → Prop}  (a1 : Int32) (μ : z_M) : z_w (zEm D cI cL b Z) (RX9, cX9_reallyVisits, 2, (some .int), 2) z_ei 0 [(0, .ref (b + 0)), (1, .int a1)] [] μ ((f_X9_reallyVisits a1 μ)) := by
  unfold f_X9_reallyVisits
  refine z_aload_n (pc := 0) dX9_reallyVisits_0 rfl ?_
  refine z_iconst (pc := 1) dX9_reallyVisits_1 zci_0 ?_
  refine z_iload_n (pc := 2) dX9_reallyVisits_2 rfl ?_
  refine z_bindP (fun p1 hp1 => ?_)
  refine z_callVv (pc := 3) (As := [.int 0, .int a1]) (S := []) (c_X9_visits 0 a1 μ) hp1 zw_X9_visits zv_X9_visits zm_X9_154 (n := 2) (by decide) rfl (z_recv gm_0 (T := TX9) (N := 52) rfl) rfl (Nat.le_of_ble_eq_true rfl) (by decide) (by decide) dX9_reallyVisits_3 ?_
  refine z_aload_n (pc := 6) dX9_reallyVisits_6 rfl ?_
  refine z_dup (pc := 7) dX9_reallyVisits_7 rfl ?_
  refine zgI_X9_285 (pc := 8) gm_0 rfl dX9_reallyVisits_8 ?_
  refine z_iconst (pc := 11) dX9_reallyVisits_11 zci_1 ?_
  refine z_iadd (pc := 12) dX9_reallyVisits_12 ?_
  refine zpI_X9_285 (pc := 13) gm_0 rfl dX9_reallyVisits_13 ?_
  refine z_letMO (fun m2 => ?_)
  refine z_aload_n (pc := 16) dX9_reallyVisits_16 rfl ?_
  refine zgR_X9_62 (pc := 17) gm_0 rfl dX9_reallyVisits_17 ?_
  refine z_iconst (pc := 20) dX9_reallyVisits_20 zci_0 ?_
  refine z_ialdK (pc := 21) gm_16 (by decide) dX9_reallyVisits_21 ?_
  exact z_iret (pc := 22) rfl dX9_reallyVisits_22

set_option maxRecDepth 20000 in
theorem c_X9_reallyVisits {D : va_G} {cI cL : ClassId} {b : Nat} {Z : State → Heap → Prop}  (a1 : Int32) (μ : z_M) : z_S (zEm D cI cL b Z) 2 yX9_reallyVisits cX9_reallyVisits 2 (some .int) z_ei [.ref (b + 0), .int a1] μ ((f_X9_reallyVisits a1 μ)) :=
  z_entry (yn := yX9_reallyVisits) (by decide) (Nat.le_of_ble_eq_true rfl) rfl (w_X9_reallyVisits_0 a1 μ)

def f_X9_put (a1 : Int32) (μ : z_M) : Option (Int32 × z_M) :=
  if (f_X9_isHouse a1 μ) = 0 then (z_bind (f_X9_no (-1) μ) (fun p1 => some (p1.1, p1.2))) else (z_bind (f_X9_reallyVisits a1 μ) (fun p2 => some (p2.1, p2.2)))
set_option maxRecDepth 20000 in
theorem w_X9_put_0 {D : va_G} {cI cL : ClassId} {b : Nat} {Z : State → Heap → Prop}  (a1 : Int32) (μ : z_M) : z_w (zEm D cI cL b Z) (RX9, cX9_put, 2, (some .int), 3) z_ei 0 [(0, .ref (b + 0)), (1, .int a1)] [] μ ((f_X9_put a1 μ)) := by
  unfold f_X9_put
  refine z_aload_n (pc := 0) dX9_put_0 rfl ?_
  refine z_iload_n (pc := 1) dX9_put_1 rfl ?_
  refine z_callVi (pc := 2) (As := [.int a1]) (S := []) (c_X9_isHouse a1 μ) rfl zw_X9_isHouse zv_X9_isHouse zm_X9_188 (n := 1) (by decide) rfl (z_recv gm_0 (T := TX9) (N := 52) rfl) rfl (Nat.le_of_ble_eq_true rfl) (by decide) (by decide) dX9_put_2 ?_
  refine z_if_eq (pc := 5) (tgt := 16) dX9_put_5 (by decide) (fun _ => ?_) (fun _ => ?_)
  · refine z_aload_n (pc := 16) dX9_put_16 rfl ?_
    refine z_iconst (pc := 17) dX9_put_17 zci_m1 ?_
    refine z_bindP (fun p1 hp1 => ?_)
    refine z_callVi (pc := 18) (As := [.int (-1)]) (S := []) (c_X9_no (-1) μ) hp1 zw_X9_no zv_X9_no zm_X9_171 (n := 1) (by decide) rfl (z_recv gm_0 (T := TX9) (N := 52) rfl) rfl (Nat.le_of_ble_eq_true rfl) (by decide) (by decide) dX9_put_18 ?_
    exact z_iret (pc := 21) rfl dX9_put_21
  · refine z_aload_n (pc := 8) dX9_put_8 rfl ?_
    refine z_iload_n (pc := 9) dX9_put_9 rfl ?_
    refine z_bindP (fun p2 hp2 => ?_)
    refine z_callVi (pc := 10) (As := [.int a1]) (S := []) (c_X9_reallyVisits a1 μ) hp2 zw_X9_reallyVisits zv_X9_reallyVisits zm_X9_291 (n := 1) (by decide) rfl (z_recv gm_0 (T := TX9) (N := 52) rfl) rfl (Nat.le_of_ble_eq_true rfl) (by decide) (by decide) dX9_put_10 ?_
    refine z_goto (pc := 13) (tgt := 21) dX9_put_13 (by decide) ?_
    exact z_iret (pc := 21) rfl dX9_put_21

set_option maxRecDepth 20000 in
theorem c_X9_put {D : va_G} {cI cL : ClassId} {b : Nat} {Z : State → Heap → Prop}  (a1 : Int32) (μ : z_M) : z_S (zEm D cI cL b Z) 3 yX9_put cX9_put 2 (some .int) z_ei [.ref (b + 0), .int a1] μ ((f_X9_put a1 μ)) :=
  z_entry (yn := yX9_put) (by decide) (Nat.le_of_ble_eq_true rfl) rfl (w_X9_put_0 a1 μ)

def f_X9_isOf_b20  (μ : z_M) : Option (Int32 × z_M) :=
  some (1, μ)
def f_X9_isOf (a1 : Int32) (a2 : Int32) (μ : z_M) : Option (Int32 × z_M) :=
  z_chk a1 12 (if (μ.1 5 (z_ix a1)) = a2 then (f_X9_isOf_b20 μ) else (z_chk a1 12 (if (μ.1 6 (z_ix a1)) = a2 then (f_X9_isOf_b20 μ) else (some (0, μ)))))
set_option maxRecDepth 20000 in
theorem w_X9_isOf_20 {D : va_G} {cI cL : ClassId} {b : Nat} {Z : State → Heap → Prop}   (μ : z_M) : z_w (zEm D cI cL b Z) (RX9, cX9_isOf, 3, (some .boolean), 0) z_ei 20 [] [] μ ((f_X9_isOf_b20 μ)) := by
  unfold f_X9_isOf_b20
  refine z_iconst (pc := 20) dX9_isOf_20 zci_1 ?_
  refine z_goto (pc := 21) (tgt := 25) dX9_isOf_21 (by decide) ?_
  exact z_zret (pc := 25) rfl dX9_isOf_25 (by decide)

set_option maxRecDepth 20000 in
theorem w_X9_isOf_0 {D : va_G} {cI cL : ClassId} {b : Nat} {Z : State → Heap → Prop}  (a1 : Int32) (a2 : Int32) (μ : z_M) : z_w (zEm D cI cL b Z) (RX9, cX9_isOf, 3, (some .boolean), 0) z_ei 0 [(0, .ref (b + 0)), (1, .int a1), (2, .int a2)] [] μ ((f_X9_isOf a1 a2 μ)) := by
  unfold f_X9_isOf
  refine z_aload_n (pc := 0) dX9_isOf_0 rfl ?_
  refine zgR_X9_22 (pc := 1) gm_0 rfl dX9_isOf_1 ?_
  refine z_iload_n (pc := 4) dX9_isOf_4 rfl ?_
  refine z_iald (pc := 5) gm_5 dX9_isOf_5 ?_
  refine z_iload_n (pc := 6) dX9_isOf_6 rfl ?_
  refine z_icmp_eq (pc := 7) (tgt := 20) dX9_isOf_7 (by decide) (fun _ => ?_) (fun _ => ?_)
  · refine z_drop (L' := []) [] rfl ?_
    exact w_X9_isOf_20 μ
  · refine z_aload_n (pc := 10) dX9_isOf_10 rfl ?_
    refine zgR_X9_25 (pc := 11) gm_0 rfl dX9_isOf_11 ?_
    refine z_iload_n (pc := 14) dX9_isOf_14 rfl ?_
    refine z_iald (pc := 15) gm_6 dX9_isOf_15 ?_
    refine z_iload_n (pc := 16) dX9_isOf_16 rfl ?_
    refine z_icmp_ne (pc := 17) (tgt := 24) dX9_isOf_17 (by decide) (fun _ => ?_) (fun _ => ?_)
    · refine z_drop (L' := []) [] rfl ?_
      exact w_X9_isOf_20 μ
    · refine z_iconst (pc := 24) dX9_isOf_24 zci_0 ?_
      exact z_zret (pc := 25) rfl dX9_isOf_25 (by decide)

set_option maxRecDepth 20000 in
theorem c_X9_isOf {D : va_G} {cI cL : ClassId} {b : Nat} {Z : State → Heap → Prop}  (a1 : Int32) (a2 : Int32) (μ : z_M) : z_S (zEm D cI cL b Z) 0 yX9_isOf cX9_isOf 3 (some .boolean) z_ei [.ref (b + 0), .int a1, .int a2] μ ((f_X9_isOf a1 a2 μ)) :=
  z_entry (yn := yX9_isOf) (by decide) (Nat.le_of_ble_eq_true rfl) rfl (w_X9_isOf_0 a1 a2 μ)

def f_X9_goesBy_b46 (s0 : Int32) (μ : z_M) : Option (Int32 × z_M) :=
  z_bind (f_X9_reallyVisits s0 μ) (fun p2 => some (p2.1, p2.2))
def f_X9_goesBy (a1 : Int32) (μ : z_M) : Option (Int32 × z_M) :=
  z_chk a1 12 (z_let (z_sI μ 0 11 ((μ.1 0 11) + (μ.1 7 (z_ix a1)))) (fun m1 => z_chk a1 12 (if (m1.1 5 (z_ix a1)) = (m1.1 9 (z_ix 0)) then (z_chk a1 12 (f_X9_goesBy_b46 (m1.1 6 (z_ix a1)) m1)) else (z_chk a1 12 (f_X9_goesBy_b46 (m1.1 5 (z_ix a1)) m1)))))
set_option maxRecDepth 20000 in
theorem w_X9_goesBy_46 {D : va_G} {cI cL : ClassId} {b : Nat} {Z : State → Heap → Prop}  (s0 : Int32) (μ : z_M) : z_w (zEm D cI cL b Z) (RX9, cX9_goesBy, 2, (some .int), 3) z_ei 46 [] [.int s0, .ref (b + 0)] μ ((f_X9_goesBy_b46 s0 μ)) := by
  unfold f_X9_goesBy_b46
  refine z_bindP (fun p2 hp2 => ?_)
  refine z_callVi (pc := 46) (As := [.int s0]) (S := []) (c_X9_reallyVisits s0 μ) hp2 zw_X9_reallyVisits zv_X9_reallyVisits zm_X9_291 (n := 1) (by decide) rfl (z_recv gm_0 (T := TX9) (N := 52) rfl) rfl (Nat.le_of_ble_eq_true rfl) (by decide) (by decide) dX9_goesBy_46 ?_
  exact z_iret (pc := 49) rfl dX9_goesBy_49

set_option maxRecDepth 20000 in
theorem w_X9_goesBy_0 {D : va_G} {cI cL : ClassId} {b : Nat} {Z : State → Heap → Prop}  (a1 : Int32) (μ : z_M) : z_w (zEm D cI cL b Z) (RX9, cX9_goesBy, 2, (some .int), 3) z_ei 0 [(0, .ref (b + 0)), (1, .int a1)] [] μ ((f_X9_goesBy a1 μ)) := by
  unfold f_X9_goesBy
  refine z_aload_n (pc := 0) dX9_goesBy_0 rfl ?_
  refine z_dup (pc := 1) dX9_goesBy_1 rfl ?_
  refine zgI_X9_282 (pc := 2) gm_0 rfl dX9_goesBy_2 ?_
  refine z_aload_n (pc := 5) dX9_goesBy_5 rfl ?_
  refine zgR_X9_28 (pc := 6) gm_0 rfl dX9_goesBy_6 ?_
  refine z_iload_n (pc := 9) dX9_goesBy_9 rfl ?_
  refine z_iald (pc := 10) gm_7 dX9_goesBy_10 ?_
  refine z_iadd (pc := 11) dX9_goesBy_11 ?_
  refine zpI_X9_282 (pc := 12) gm_0 rfl dX9_goesBy_12 ?_
  refine z_letMO (fun m1 => ?_)
  refine z_aload_n (pc := 15) dX9_goesBy_15 rfl ?_
  refine z_aload_n (pc := 16) dX9_goesBy_16 rfl ?_
  refine zgR_X9_22 (pc := 17) gm_0 rfl dX9_goesBy_17 ?_
  refine z_iload_n (pc := 20) dX9_goesBy_20 rfl ?_
  refine z_iald (pc := 21) gm_5 dX9_goesBy_21 ?_
  refine z_aload_n (pc := 22) dX9_goesBy_22 rfl ?_
  refine zgR_X9_41 (pc := 23) gm_0 rfl dX9_goesBy_23 ?_
  refine z_iconst (pc := 26) dX9_goesBy_26 zci_0 ?_
  refine z_ialdK (pc := 27) gm_9 (by decide) dX9_goesBy_27 ?_
  refine z_icmp_ne (pc := 28) (tgt := 40) dX9_goesBy_28 (by decide) (fun _ => ?_) (fun _ => ?_)
  · refine z_aload_n (pc := 31) dX9_goesBy_31 rfl ?_
    refine zgR_X9_25 (pc := 32) gm_0 rfl dX9_goesBy_32 ?_
    refine z_iload_n (pc := 35) dX9_goesBy_35 rfl ?_
    refine z_iald (pc := 36) gm_6 dX9_goesBy_36 ?_
    refine z_goto (pc := 37) (tgt := 46) dX9_goesBy_37 (by decide) ?_
    refine z_drop (L' := []) [] rfl ?_
    exact w_X9_goesBy_46 (m1.1 6 (z_ix a1)) m1
  · refine z_aload_n (pc := 40) dX9_goesBy_40 rfl ?_
    refine zgR_X9_22 (pc := 41) gm_0 rfl dX9_goesBy_41 ?_
    refine z_iload_n (pc := 44) dX9_goesBy_44 rfl ?_
    refine z_iald (pc := 45) gm_5 dX9_goesBy_45 ?_
    refine z_drop (L' := []) [] rfl ?_
    exact w_X9_goesBy_46 (m1.1 5 (z_ix a1)) m1

set_option maxRecDepth 20000 in
theorem c_X9_goesBy {D : va_G} {cI cL : ClassId} {b : Nat} {Z : State → Heap → Prop}  (a1 : Int32) (μ : z_M) : z_S (zEm D cI cL b Z) 3 yX9_goesBy cX9_goesBy 2 (some .int) z_ei [.ref (b + 0), .int a1] μ ((f_X9_goesBy a1 μ)) :=
  z_entry (yn := yX9_goesBy) (by decide) (Nat.le_of_ble_eq_true rfl) rfl (w_X9_goesBy_0 a1 μ)

def f_X9_go_b45  (μ : z_M) : Option (Int32 × z_M) :=
  z_bind (f_X9_no (-6) μ) (fun p2 => some (p2.1, p2.2))
def f_X9_go (a1 : Int32) (μ : z_M) : Option (Int32 × z_M) :=
  if (f_X9_isWay a1 μ) = 0 then (z_bind (f_X9_no (-1) μ) (fun p1 => some (p1.1, p1.2))) else (if (μ.1 9 (z_ix 0)) < 0 then (f_X9_go_b45 μ) else (z_bind (f_X9_isOpen a1 μ) (fun p3 => if p3.1 = 0 then (f_X9_go_b45 p3.2) else (z_bind (f_X9_isOf a1 (p3.2.1 9 (z_ix 0)) p3.2) (fun p4 => if p4.1 = 0 then (f_X9_go_b45 p4.2) else (z_bind (f_X9_goesBy a1 p4.2) (fun p5 => some (p5.1, p5.2))))))))
set_option maxRecDepth 20000 in
theorem w_X9_go_45 {D : va_G} {cI cL : ClassId} {b : Nat} {Z : State → Heap → Prop}   (μ : z_M) : z_w (zEm D cI cL b Z) (RX9, cX9_go, 2, (some .int), 4) z_ei 45 [(0, .ref (b + 0))] [] μ ((f_X9_go_b45 μ)) := by
  unfold f_X9_go_b45
  refine z_aload_n (pc := 45) dX9_go_45 rfl ?_
  refine z_bipush (pc := 46) dX9_go_46 zcb_m6 ?_
  refine z_bindP (fun p2 hp2 => ?_)
  refine z_callVi (pc := 48) (As := [.int (-6)]) (S := []) (c_X9_no (-6) μ) hp2 zw_X9_no zv_X9_no zm_X9_171 (n := 1) (by decide) rfl (z_recv gm_0 (T := TX9) (N := 52) rfl) rfl (Nat.le_of_ble_eq_true rfl) (by decide) (by decide) dX9_go_48 ?_
  exact z_iret (pc := 51) rfl dX9_go_51

set_option maxRecDepth 20000 in
theorem w_X9_go_0 {D : va_G} {cI cL : ClassId} {b : Nat} {Z : State → Heap → Prop}  (a1 : Int32) (μ : z_M) : z_w (zEm D cI cL b Z) (RX9, cX9_go, 2, (some .int), 4) z_ei 0 [(0, .ref (b + 0)), (1, .int a1)] [] μ ((f_X9_go a1 μ)) := by
  unfold f_X9_go
  refine z_aload_n (pc := 0) dX9_go_0 rfl ?_
  refine z_iload_n (pc := 1) dX9_go_1 rfl ?_
  refine z_callVi (pc := 2) (As := [.int a1]) (S := []) (c_X9_isWay a1 μ) rfl zw_X9_isWay zv_X9_isWay zm_X9_211 (n := 1) (by decide) rfl (z_recv gm_0 (T := TX9) (N := 52) rfl) rfl (Nat.le_of_ble_eq_true rfl) (by decide) (by decide) dX9_go_2 ?_
  refine z_if_ne (pc := 5) (tgt := 14) dX9_go_5 (by decide) (fun _ => ?_) (fun _ => ?_)
  · refine z_aload_n (pc := 8) dX9_go_8 rfl ?_
    refine z_iconst (pc := 9) dX9_go_9 zci_m1 ?_
    refine z_bindP (fun p1 hp1 => ?_)
    refine z_callVi (pc := 10) (As := [.int (-1)]) (S := []) (c_X9_no (-1) μ) hp1 zw_X9_no zv_X9_no zm_X9_171 (n := 1) (by decide) rfl (z_recv gm_0 (T := TX9) (N := 52) rfl) rfl (Nat.le_of_ble_eq_true rfl) (by decide) (by decide) dX9_go_10 ?_
    exact z_iret (pc := 13) rfl dX9_go_13
  · refine z_aload_n (pc := 14) dX9_go_14 rfl ?_
    refine zgR_X9_41 (pc := 15) gm_0 rfl dX9_go_15 ?_
    refine z_iconst (pc := 18) dX9_go_18 zci_0 ?_
    refine z_ialdK (pc := 19) gm_9 (by decide) dX9_go_19 ?_
    refine z_if_lt (pc := 20) (tgt := 45) dX9_go_20 (by decide) (fun _ => ?_) (fun _ => ?_)
    · refine z_drop (L' := [(0, .ref (b + 0))]) [0] rfl ?_
      exact w_X9_go_45 μ
    · refine z_aload_n (pc := 23) dX9_go_23 rfl ?_
      refine z_iload_n (pc := 24) dX9_go_24 rfl ?_
      refine z_bindP (fun p3 hp3 => ?_)
      refine z_callVi (pc := 25) (As := [.int a1]) (S := []) (c_X9_isOpen a1 μ) hp3 zw_X9_isOpen zv_X9_isOpen zm_X9_119 (n := 1) (by decide) rfl (z_recv gm_0 (T := TX9) (N := 52) rfl) rfl (Nat.le_of_ble_eq_true rfl) (by decide) (by decide) dX9_go_25 ?_
      refine z_if_eq (pc := 28) (tgt := 45) dX9_go_28 (by decide) (fun _ => ?_) (fun _ => ?_)
      · refine z_drop (L' := [(0, .ref (b + 0))]) [0] rfl ?_
        exact w_X9_go_45 p3.2
      · refine z_aload_n (pc := 31) dX9_go_31 rfl ?_
        refine z_iload_n (pc := 32) dX9_go_32 rfl ?_
        refine z_aload_n (pc := 33) dX9_go_33 rfl ?_
        refine zgR_X9_41 (pc := 34) gm_0 rfl dX9_go_34 ?_
        refine z_iconst (pc := 37) dX9_go_37 zci_0 ?_
        refine z_ialdK (pc := 38) gm_9 (by decide) dX9_go_38 ?_
        refine z_bindP (fun p4 hp4 => ?_)
        refine z_callVi (pc := 39) (As := [.int a1, .int (p3.2.1 9 (z_ix 0))]) (S := []) (c_X9_isOf a1 (p3.2.1 9 (z_ix 0)) p3.2) hp4 zw_X9_isOf zv_X9_isOf zm_X9_294 (n := 2) (by decide) rfl (z_recv gm_0 (T := TX9) (N := 52) rfl) rfl (Nat.le_of_ble_eq_true rfl) (by decide) (by decide) dX9_go_39 ?_
        refine z_if_ne (pc := 42) (tgt := 52) dX9_go_42 (by decide) (fun _ => ?_) (fun _ => ?_)
        · refine z_drop (L' := [(0, .ref (b + 0))]) [0] rfl ?_
          exact w_X9_go_45 p4.2
        · refine z_aload_n (pc := 52) dX9_go_52 rfl ?_
          refine z_iload_n (pc := 53) dX9_go_53 rfl ?_
          refine z_bindP (fun p5 hp5 => ?_)
          refine z_callVi (pc := 54) (As := [.int a1]) (S := []) (c_X9_goesBy a1 p4.2) hp5 zw_X9_goesBy zv_X9_goesBy zm_X9_297 (n := 1) (by decide) rfl (z_recv gm_0 (T := TX9) (N := 52) rfl) rfl (Nat.le_of_ble_eq_true rfl) (by decide) (by decide) dX9_go_54 ?_
          exact z_iret (pc := 57) rfl dX9_go_57

set_option maxRecDepth 20000 in
theorem c_X9_go {D : va_G} {cI cL : ClassId} {b : Nat} {Z : State → Heap → Prop}  (a1 : Int32) (μ : z_M) : z_S (zEm D cI cL b Z) 4 yX9_go cX9_go 2 (some .int) z_ei [.ref (b + 0), .int a1] μ ((f_X9_go a1 μ)) :=
  z_entry (yn := yX9_go) (by decide) (Nat.le_of_ble_eq_true rfl) rfl (w_X9_go_0 a1 μ)

def f_X9_where  (μ : z_M) : Option (Int32 × z_M) :=
  some ((μ.1 9 (z_ix 0)), μ)
set_option maxRecDepth 20000 in
theorem w_X9_where_0 {D : va_G} {cI cL : ClassId} {b : Nat} {Z : State → Heap → Prop}   (μ : z_M) : z_w (zEm D cI cL b Z) (RX9, cX9_where, 1, (some .int), 0) z_ei 0 [(0, .ref (b + 0))] [] μ ((f_X9_where μ)) := by
  unfold f_X9_where
  refine z_aload_n (pc := 0) dX9_where_0 rfl ?_
  refine zgR_X9_41 (pc := 1) gm_0 rfl dX9_where_1 ?_
  refine z_iconst (pc := 4) dX9_where_4 zci_0 ?_
  refine z_ialdK (pc := 5) gm_9 (by decide) dX9_where_5 ?_
  exact z_iret (pc := 6) rfl dX9_where_6

set_option maxRecDepth 20000 in
theorem c_X9_where {D : va_G} {cI cL : ClassId} {b : Nat} {Z : State → Heap → Prop}   (μ : z_M) : z_S (zEm D cI cL b Z) 0 yX9_where cX9_where 1 (some .int) z_ei [.ref (b + 0)] μ ((f_X9_where μ)) :=
  z_entry (yn := yX9_where) (by decide) (Nat.le_of_ble_eq_true rfl) rfl (w_X9_where_0  μ)

def f_X9_next  (μ : z_M) : Option (Int32 × z_M) :=
  z_bind (f_X9_speaksNext 0 μ) (fun p1 => some (p1.1, p1.2))
set_option maxRecDepth 20000 in
theorem w_X9_next_0 {D : va_G} {cI cL : ClassId} {b : Nat} {Z : State → Heap → Prop}   (μ : z_M) : z_w (zEm D cI cL b Z) (RX9, cX9_next, 1, (some .int), 1) z_ei 0 [(0, .ref (b + 0))] [] μ ((f_X9_next μ)) := by
  unfold f_X9_next
  refine z_aload_n (pc := 0) dX9_next_0 rfl ?_
  refine z_iconst (pc := 1) dX9_next_1 zci_0 ?_
  refine z_bindP (fun p1 hp1 => ?_)
  refine z_callVi (pc := 2) (As := [.int 0]) (S := []) (c_X9_speaksNext 0 μ) hp1 zw_X9_speaksNext zv_X9_speaksNext zm_X9_111 (n := 1) (by decide) rfl (z_recv gm_0 (T := TX9) (N := 52) rfl) rfl (Nat.le_of_ble_eq_true rfl) (by decide) (by decide) dX9_next_2 ?_
  exact z_iret (pc := 5) rfl dX9_next_5

set_option maxRecDepth 20000 in
theorem c_X9_next {D : va_G} {cI cL : ClassId} {b : Nat} {Z : State → Heap → Prop}   (μ : z_M) : z_S (zEm D cI cL b Z) 1 yX9_next cX9_next 1 (some .int) z_ei [.ref (b + 0)] μ ((f_X9_next μ)) :=
  z_entry (yn := yX9_next) (by decide) (Nat.le_of_ble_eq_true rfl) rfl (w_X9_next_0  μ)

def f_X9_behind (a1 : Int32) (μ : z_M) : Option (Int32 × z_M) :=
  if (f_X9_isIn a1 0 ((μ.1 0 10) - 1) μ) = 0 then (z_bind (f_X9_no (-5) μ) (fun p1 => some (p1.1, p1.2))) else (if a1 < (μ.1 14 (z_ix 0)) then (z_chk a1 27 (some ((μ.1 13 (z_ix a1)), μ))) else (some (0, μ)))
set_option maxRecDepth 20000 in
theorem w_X9_behind_0 {D : va_G} {cI cL : ClassId} {b : Nat} {Z : State → Heap → Prop}  (a1 : Int32) (μ : z_M) : z_w (zEm D cI cL b Z) (RX9, cX9_behind, 2, (some .int), 1) z_ei 0 [(0, .ref (b + 0)), (1, .int a1)] [] μ ((f_X9_behind a1 μ)) := by
  unfold f_X9_behind
  refine z_iload_n (pc := 0) dX9_behind_0 rfl ?_
  refine z_iconst (pc := 1) dX9_behind_1 zci_0 ?_
  refine z_aload_n (pc := 2) dX9_behind_2 rfl ?_
  refine zgI_X9_34 (pc := 3) gm_0 rfl dX9_behind_3 ?_
  refine z_iconst (pc := 6) dX9_behind_6 zci_1 ?_
  refine z_isub (pc := 7) dX9_behind_7 ?_
  refine z_callSi (pc := 8) (As := [.int a1, .int 0, .int ((μ.1 0 10) - 1)]) (S := []) (c_X9_isIn a1 0 ((μ.1 0 10) - 1) μ) rfl zw_X9_isIn zs_X9_isIn zm_X9_167 (n := 3) (by decide) rfl rfl (Nat.le_of_ble_eq_true rfl) (by decide) (by decide) dX9_behind_8 ?_
  refine z_if_ne (pc := 11) (tgt := 23) dX9_behind_11 (by decide) (fun _ => ?_) (fun _ => ?_)
  · refine z_aload_n (pc := 14) dX9_behind_14 rfl ?_
    refine z_bipush (pc := 15) dX9_behind_15 zcb_m5 ?_
    refine z_bindP (fun p1 hp1 => ?_)
    refine z_callVi (pc := 17) (As := [.int (-5)]) (S := []) (c_X9_no (-5) μ) hp1 zw_X9_no zv_X9_no zm_X9_171 (n := 1) (by decide) rfl (z_recv gm_0 (T := TX9) (N := 52) rfl) rfl (Nat.le_of_ble_eq_true rfl) (by decide) (by decide) dX9_behind_17 ?_
    refine z_goto (pc := 20) (tgt := 43) dX9_behind_20 (by decide) ?_
    exact z_iret (pc := 43) rfl dX9_behind_43
  · refine z_iload_n (pc := 23) dX9_behind_23 rfl ?_
    refine z_aload_n (pc := 24) dX9_behind_24 rfl ?_
    refine zgR_X9_56 (pc := 25) gm_0 rfl dX9_behind_25 ?_
    refine z_iconst (pc := 28) dX9_behind_28 zci_0 ?_
    refine z_ialdK (pc := 29) gm_14 (by decide) dX9_behind_29 ?_
    refine z_icmp_ge (pc := 30) (tgt := 42) dX9_behind_30 (by decide) (fun _ => ?_) (fun _ => ?_)
    · refine z_aload_n (pc := 33) dX9_behind_33 rfl ?_
      refine zgR_X9_53 (pc := 34) gm_0 rfl dX9_behind_34 ?_
      refine z_iload_n (pc := 37) dX9_behind_37 rfl ?_
      refine z_iald (pc := 38) gm_13 dX9_behind_38 ?_
      refine z_goto (pc := 39) (tgt := 43) dX9_behind_39 (by decide) ?_
      exact z_iret (pc := 43) rfl dX9_behind_43
    · refine z_iconst (pc := 42) dX9_behind_42 zci_0 ?_
      exact z_iret (pc := 43) rfl dX9_behind_43

set_option maxRecDepth 20000 in
theorem c_X9_behind {D : va_G} {cI cL : ClassId} {b : Nat} {Z : State → Heap → Prop}  (a1 : Int32) (μ : z_M) : z_S (zEm D cI cL b Z) 1 yX9_behind cX9_behind 2 (some .int) z_ei [.ref (b + 0), .int a1] μ ((f_X9_behind a1 μ)) :=
  z_entry (yn := yX9_behind) (by decide) (Nat.le_of_ble_eq_true rfl) rfl (w_X9_behind_0 a1 μ)

def f_X9_answer (a1 : Int32) (a2 : Int32) (μ : z_M) : Option (Int32 × z_M) :=
  if (f_X9_isHouse a1 μ) = 0 then (z_bind (f_X9_no (-1) μ) (fun p1 => some (p1.1, p1.2))) else (if (f_X9_isSet a2 μ) = 0 then (z_bind (f_X9_no (-6) μ) (fun p2 => some (p2.1, p2.2))) else (z_bind (f_X9_answerOf 0 a1 a2 μ) (fun p3 => some (p3.1, p3.2))))
set_option maxRecDepth 20000 in
theorem w_X9_answer_0 {D : va_G} {cI cL : ClassId} {b : Nat} {Z : State → Heap → Prop}  (a1 : Int32) (a2 : Int32) (μ : z_M) : z_w (zEm D cI cL b Z) (RX9, cX9_answer, 3, (some .int), 1) z_ei 0 [(0, .ref (b + 0)), (1, .int a1), (2, .int a2)] [] μ ((f_X9_answer a1 a2 μ)) := by
  unfold f_X9_answer
  refine z_aload_n (pc := 0) dX9_answer_0 rfl ?_
  refine z_iload_n (pc := 1) dX9_answer_1 rfl ?_
  refine z_callVi (pc := 2) (As := [.int a1]) (S := []) (c_X9_isHouse a1 μ) rfl zw_X9_isHouse zv_X9_isHouse zm_X9_188 (n := 1) (by decide) rfl (z_recv gm_0 (T := TX9) (N := 52) rfl) rfl (Nat.le_of_ble_eq_true rfl) (by decide) (by decide) dX9_answer_2 ?_
  refine z_if_ne (pc := 5) (tgt := 16) dX9_answer_5 (by decide) (fun _ => ?_) (fun _ => ?_)
  · refine z_aload_n (pc := 8) dX9_answer_8 rfl ?_
    refine z_iconst (pc := 9) dX9_answer_9 zci_m1 ?_
    refine z_bindP (fun p1 hp1 => ?_)
    refine z_callVi (pc := 10) (As := [.int (-1)]) (S := []) (c_X9_no (-1) μ) hp1 zw_X9_no zv_X9_no zm_X9_171 (n := 1) (by decide) rfl (z_recv gm_0 (T := TX9) (N := 52) rfl) rfl (Nat.le_of_ble_eq_true rfl) (by decide) (by decide) dX9_answer_10 ?_
    refine z_goto (pc := 13) (tgt := 39) dX9_answer_13 (by decide) ?_
    exact z_iret (pc := 39) rfl dX9_answer_39
  · refine z_iload_n (pc := 16) dX9_answer_16 rfl ?_
    refine z_callSi (pc := 17) (As := [.int a2]) (S := []) (c_X9_isSet a2 μ) rfl zw_X9_isSet zs_X9_isSet zm_X9_195 (n := 1) (by decide) rfl rfl (Nat.le_of_ble_eq_true rfl) (by decide) (by decide) dX9_answer_17 ?_
    refine z_if_ne (pc := 20) (tgt := 32) dX9_answer_20 (by decide) (fun _ => ?_) (fun _ => ?_)
    · refine z_aload_n (pc := 23) dX9_answer_23 rfl ?_
      refine z_bipush (pc := 24) dX9_answer_24 zcb_m6 ?_
      refine z_bindP (fun p2 hp2 => ?_)
      refine z_callVi (pc := 26) (As := [.int (-6)]) (S := []) (c_X9_no (-6) μ) hp2 zw_X9_no zv_X9_no zm_X9_171 (n := 1) (by decide) rfl (z_recv gm_0 (T := TX9) (N := 52) rfl) rfl (Nat.le_of_ble_eq_true rfl) (by decide) (by decide) dX9_answer_26 ?_
      refine z_goto (pc := 29) (tgt := 39) dX9_answer_29 (by decide) ?_
      exact z_iret (pc := 39) rfl dX9_answer_39
    · refine z_aload_n (pc := 32) dX9_answer_32 rfl ?_
      refine z_iconst (pc := 33) dX9_answer_33 zci_0 ?_
      refine z_iload_n (pc := 34) dX9_answer_34 rfl ?_
      refine z_iload_n (pc := 35) dX9_answer_35 rfl ?_
      refine z_bindP (fun p3 hp3 => ?_)
      refine z_callVi (pc := 36) (As := [.int 0, .int a1, .int a2]) (S := []) (c_X9_answerOf 0 a1 a2 μ) hp3 zw_X9_answerOf zv_X9_answerOf zm_X9_115 (n := 3) (by decide) rfl (z_recv gm_0 (T := TX9) (N := 52) rfl) rfl (Nat.le_of_ble_eq_true rfl) (by decide) (by decide) dX9_answer_36 ?_
      exact z_iret (pc := 39) rfl dX9_answer_39

set_option maxRecDepth 20000 in
theorem c_X9_answer {D : va_G} {cI cL : ClassId} {b : Nat} {Z : State → Heap → Prop}  (a1 : Int32) (a2 : Int32) (μ : z_M) : z_S (zEm D cI cL b Z) 1 yX9_answer cX9_answer 3 (some .int) z_ei [.ref (b + 0), .int a1, .int a2] μ ((f_X9_answer a1 a2 μ)) :=
  z_entry (yn := yX9_answer) (by decide) (Nat.le_of_ble_eq_true rfl) rfl (w_X9_answer_0 a1 a2 μ)

def f_X9_between_b16 (n : Nat)  (μ : z_M) : Option (Int32 × z_M) :=
  z_bind (f_X9_noTen (-1) μ) (fun p1 => some (p1.1, p1.2))
def f_X9_between (n : Nat) (a1 : Int32) (a2 : Int32) (μ : z_M) : Option (Int32 × z_M) :=
  if (f_X9_isHouse a1 μ) = 0 then (f_X9_between_b16 n μ) else (if (f_X9_isHouse a2 μ) = 0 then (f_X9_between_b16 n μ) else (z_bind (f_X9_betweenOf n a1 a2 μ) (fun p2 => some (p2.1, p2.2))))
set_option maxRecDepth 20000 in
theorem w_X9_between_16 {D : va_G} {cI cL : ClassId} {b : Nat} {Z : State → Heap → Prop}  (n : Nat)  (μ : z_M) : z_w (zEm D cI cL b Z) (RX9, cX9_between, 3, (some .int), 2) z_ei 16 [(0, .ref (b + 0))] [] μ ((f_X9_between_b16 n μ)) := by
  unfold f_X9_between_b16
  refine z_aload_n (pc := 16) dX9_between_16 rfl ?_
  refine z_iconst (pc := 17) dX9_between_17 zci_m1 ?_
  refine z_bindP (fun p1 hp1 => ?_)
  refine z_callVi (pc := 18) (As := [.int (-1)]) (S := []) (c_X9_noTen (-1) μ) hp1 zw_X9_noTen zv_X9_noTen zm_X9_300 (n := 1) (by decide) rfl (z_recv gm_0 (T := TX9) (N := 52) rfl) rfl (Nat.le_of_ble_eq_true rfl) (by decide) (by decide) dX9_between_18 ?_
  refine z_goto (pc := 21) (tgt := 30) dX9_between_21 (by decide) ?_
  exact z_iret (pc := 30) rfl dX9_between_30

set_option maxRecDepth 20000 in
theorem w_X9_between_0 {D : va_G} {cI cL : ClassId} {b : Nat} {Z : State → Heap → Prop}  (n : Nat) (a1 : Int32) (a2 : Int32) (μ : z_M) : z_w (zEm D cI cL b Z) (RX9, cX9_between, 3, (some .int), 2) z_ei 0 [(0, .ref (b + 0)), (1, .int a1), (2, .int a2)] [] μ ((f_X9_between n a1 a2 μ)) := by
  unfold f_X9_between
  refine z_aload_n (pc := 0) dX9_between_0 rfl ?_
  refine z_iload_n (pc := 1) dX9_between_1 rfl ?_
  refine z_callVi (pc := 2) (As := [.int a1]) (S := []) (c_X9_isHouse a1 μ) rfl zw_X9_isHouse zv_X9_isHouse zm_X9_188 (n := 1) (by decide) rfl (z_recv gm_0 (T := TX9) (N := 52) rfl) rfl (Nat.le_of_ble_eq_true rfl) (by decide) (by decide) dX9_between_2 ?_
  refine z_if_eq (pc := 5) (tgt := 16) dX9_between_5 (by decide) (fun _ => ?_) (fun _ => ?_)
  · refine z_drop (L' := [(0, .ref (b + 0))]) [0] rfl ?_
    exact w_X9_between_16 n μ
  · refine z_aload_n (pc := 8) dX9_between_8 rfl ?_
    refine z_iload_n (pc := 9) dX9_between_9 rfl ?_
    refine z_callVi (pc := 10) (As := [.int a2]) (S := []) (c_X9_isHouse a2 μ) rfl zw_X9_isHouse zv_X9_isHouse zm_X9_188 (n := 1) (by decide) rfl (z_recv gm_0 (T := TX9) (N := 52) rfl) rfl (Nat.le_of_ble_eq_true rfl) (by decide) (by decide) dX9_between_10 ?_
    refine z_if_ne (pc := 13) (tgt := 24) dX9_between_13 (by decide) (fun _ => ?_) (fun _ => ?_)
    · refine z_drop (L' := [(0, .ref (b + 0))]) [0] rfl ?_
      exact w_X9_between_16 n μ
    · refine z_aload_n (pc := 24) dX9_between_24 rfl ?_
      refine z_iload_n (pc := 25) dX9_between_25 rfl ?_
      refine z_iload_n (pc := 26) dX9_between_26 rfl ?_
      refine z_bindP (fun p2 hp2 => ?_)
      refine z_callVi (pc := 27) (As := [.int a1, .int a2]) (S := []) (c_X9_betweenOf n a1 a2 μ) hp2 zw_X9_betweenOf zv_X9_betweenOf zm_X9_143 (n := 2) (by decide) rfl (z_recv gm_0 (T := TX9) (N := 52) rfl) rfl (Nat.le_of_ble_eq_true rfl) (by decide) (by decide) dX9_between_27 ?_
      exact z_iret (pc := 30) rfl dX9_between_30

set_option maxRecDepth 20000 in
theorem c_X9_between {D : va_G} {cI cL : ClassId} {b : Nat} {Z : State → Heap → Prop}  (n : Nat) (a1 : Int32) (a2 : Int32) (μ : z_M) : z_S (zEm D cI cL b Z) 2 yX9_between cX9_between 3 (some .int) z_ei [.ref (b + 0), .int a1, .int a2] μ ((f_X9_between n a1 a2 μ)) :=
  z_entry (yn := yX9_between) (by decide) (Nat.le_of_ble_eq_true rfl) rfl (w_X9_between_0 n a1 a2 μ)

def f_X9_draw (a1 : Int32) (μ : z_M) : Option (Int32 × z_M) :=
  z_let (z_sI μ 0 13 (((μ.1 0 13) * 1103515245) + 12345)) (fun m1 => z_nz a1 (some ((z_rem (((Int32.toUInt32 (m1.1 0 13)) >>> ((Int32.toUInt32 16) &&& Int32.toUInt32 31)).toInt32) a1), m1)))
set_option maxRecDepth 20000 in
theorem w_X9_draw_0 {D : va_G} {cI cL : ClassId} {b : Nat} {Z : State → Heap → Prop}  (a1 : Int32) (μ : z_M) : z_w (zEm D cI cL b Z) (RX9, cX9_draw, 2, (some .int), 0) z_ei 0 [(0, .ref (b + 0)), (1, .int a1)] [] μ ((f_X9_draw a1 μ)) := by
  unfold f_X9_draw
  refine z_aload_n (pc := 0) dX9_draw_0 rfl ?_
  refine z_aload_n (pc := 1) dX9_draw_1 rfl ?_
  refine zgI_X9_38 (pc := 2) gm_0 rfl dX9_draw_2 ?_
  refine z_ldcw (pc := 5) dX9_draw_5 zc_X9_303 ?_
  refine z_imul (pc := 8) dX9_draw_8 ?_
  refine z_sipush (pc := 9) dX9_draw_9 zcs_12345 ?_
  refine z_iadd (pc := 12) dX9_draw_12 ?_
  refine zpI_X9_38 (pc := 13) gm_0 rfl dX9_draw_13 ?_
  refine z_letMO (fun m1 => ?_)
  refine z_aload_n (pc := 16) dX9_draw_16 rfl ?_
  refine zgI_X9_38 (pc := 17) gm_0 rfl dX9_draw_17 ?_
  refine z_bipush (pc := 20) dX9_draw_20 zcb_16 ?_
  refine z_iushr (pc := 22) dX9_draw_22 ?_
  refine z_iload_n (pc := 23) dX9_draw_23 rfl ?_
  refine z_irem (pc := 24) dX9_draw_24 ?_
  exact z_iret (pc := 25) rfl dX9_draw_25

set_option maxRecDepth 20000 in
theorem c_X9_draw {D : va_G} {cI cL : ClassId} {b : Nat} {Z : State → Heap → Prop}  (a1 : Int32) (μ : z_M) : z_S (zEm D cI cL b Z) 0 yX9_draw cX9_draw 2 (some .int) z_ei [.ref (b + 0), .int a1] μ ((f_X9_draw a1 μ)) :=
  z_entry (yn := yX9_draw) (by decide) (Nat.le_of_ble_eq_true rfl) rfl (w_X9_draw_0 a1 μ)

def f_X9_wander_b19 (n : Nat)  (μ : z_M) : Option (Int32 × z_M) :=
  z_bind (f_X9_no (-6) μ) (fun p1 => some (p1.1, p1.2))
def f_X9_wander_b122 (r28 : Int32 → Int32 → z_M → Option (Int32 × z_M)) (r64 : Int32 → Int32 → Int32 → Int32 → z_M → Option (Int32 × z_M)) (n : Nat) (l1 : Int32) (l2 : Int32) (l4 : Int32) (s0 : Int32) (s1 : Int32) (μ : z_M) : Option (Int32 × z_M) :=
  z_let ((s1 - s0) : Int32) (fun x7 => r64 l1 l2 x7 (l4 + 1) μ)
def f_X9_wander_b121 (r28 : Int32 → Int32 → z_M → Option (Int32 × z_M)) (r64 : Int32 → Int32 → Int32 → Int32 → z_M → Option (Int32 × z_M)) (n : Nat) (l1 : Int32) (l2 : Int32) (l4 : Int32) (s0 : Int32) (μ : z_M) : Option (Int32 × z_M) :=
  f_X9_wander_b122 r28 r64 n l1 l2 l4 0 s0 μ
def f_X9_wander_b92 (r28 : Int32 → Int32 → z_M → Option (Int32 × z_M)) (r64 : Int32 → Int32 → Int32 → Int32 → z_M → Option (Int32 × z_M)) (n : Nat) (l1 : Int32) (l2 : Int32) (l3 : Int32) (l4 : Int32) (μ : z_M) : Option (Int32 × z_M) :=
  z_bind (f_X9_isOpen l4 μ) (fun p6 => if p6.1 = 0 then (f_X9_wander_b121 r28 r64 n l1 l2 l4 l3 p6.2) else (z_bind (f_X9_isOf l4 (p6.2.1 9 (z_ix 0)) p6.2) (fun p8 => if p8.1 = 0 then (f_X9_wander_b121 r28 r64 n l1 l2 l4 l3 p8.2) else (f_X9_wander_b122 r28 r64 n l1 l2 l4 1 l3 p8.2))))
def f_X9_wander_h64 (r28 : Int32 → Int32 → z_M → Option (Int32 × z_M)) : Nat → Int32 → Int32 → Int32 → Int32 → z_M → Option (Int32 × z_M)
  | 0, _, _, _, _, _ => none
  | n + 1, l1, l2, l3, l4, μ =>
    z_bind (f_X9_isOpen l4 μ) (fun p5 => if p5.1 = 0 then (f_X9_wander_b92 r28 (f_X9_wander_h64 r28 n) n l1 l2 l3 l4 p5.2) else (z_bind (f_X9_isOf l4 (p5.2.1 9 (z_ix 0)) p5.2) (fun p9 => if p9.1 = 0 then (f_X9_wander_b92 r28 (f_X9_wander_h64 r28 n) n l1 l2 l3 l4 p9.2) else (if (0 : Int32) < l3 then (f_X9_wander_b92 r28 (f_X9_wander_h64 r28 n) n l1 l2 l3 l4 p9.2) else (z_bind (f_X9_goesBy l4 p9.2) (fun p10 => r28 l1 (l2 + 1) p10.2))))))
def f_X9_wander_h28 : Nat → Int32 → Int32 → z_M → Option (Int32 × z_M)
  | 0, _, _, _ => none
  | n + 1, l1, l2, μ =>
    if l2 < l1 then (z_bind (f_X9_openAt n (μ.1 9 (z_ix 0)) μ) (fun p2 => if (0 : Int32) < p2.1 then (z_bind (f_X9_openAt n (p2.2.1 9 (z_ix 0)) p2.2) (fun p3 => z_bind (f_X9_draw p3.1 p3.2) (fun p4 => f_X9_wander_h64 (f_X9_wander_h28 n) n l1 l2 p4.1 0 p4.2))) else (some (l2, p2.2)))) else (some (l2, μ))
def f_X9_wander (n : Nat) (a1 : Int32) (μ : z_M) : Option (Int32 × z_M) :=
  if (f_X9_isIn a1 1 40 μ) = 0 then (f_X9_wander_b19 n μ) else (if (μ.1 9 (z_ix 0)) < 0 then (f_X9_wander_b19 n μ) else (f_X9_wander_h28 n a1 0 μ))
set_option maxRecDepth 20000 in
theorem w_X9_wander_19 {D : va_G} {cI cL : ClassId} {b : Nat} {Z : State → Heap → Prop}  (n : Nat)  (μ : z_M) : z_w (zEm D cI cL b Z) (RX9, cX9_wander, 5, (some .int), 4) z_ei 19 [(0, .ref (b + 0))] [] μ ((f_X9_wander_b19 n μ)) := by
  unfold f_X9_wander_b19
  refine z_aload_n (pc := 19) dX9_wander_19 rfl ?_
  refine z_bipush (pc := 20) dX9_wander_20 zcb_m6 ?_
  refine z_bindP (fun p1 hp1 => ?_)
  refine z_callVi (pc := 22) (As := [.int (-6)]) (S := []) (c_X9_no (-6) μ) hp1 zw_X9_no zv_X9_no zm_X9_171 (n := 1) (by decide) rfl (z_recv gm_0 (T := TX9) (N := 52) rfl) rfl (Nat.le_of_ble_eq_true rfl) (by decide) (by decide) dX9_wander_22 ?_
  exact z_iret (pc := 25) rfl dX9_wander_25

set_option maxRecDepth 20000 in
theorem w_X9_wander_122 {D : va_G} {cI cL : ClassId} {b : Nat} {Z : State → Heap → Prop}  (r28 : Int32 → Int32 → z_M → Option (Int32 × z_M)) (hr28 : ∀ (l1 : Int32) (l2 : Int32) (μ : z_M), z_w (zEm D cI cL b Z) (RX9, cX9_wander, 5, (some .int), 4) z_ei 28 [(0, .ref (b + 0)), (1, .int l1), (2, .int l2)] [] μ ((r28 l1 l2 μ))) (r64 : Int32 → Int32 → Int32 → Int32 → z_M → Option (Int32 × z_M)) (hr64 : ∀ (l1 : Int32) (l2 : Int32) (l3 : Int32) (l4 : Int32) (μ : z_M), z_w (zEm D cI cL b Z) (RX9, cX9_wander, 5, (some .int), 4) z_ei 64 [(0, .ref (b + 0)), (1, .int l1), (2, .int l2), (3, .int l3), (4, .int l4)] [] μ ((r64 l1 l2 l3 l4 μ))) (n : Nat) (l1 : Int32) (l2 : Int32) (l4 : Int32) (s0 : Int32) (s1 : Int32) (μ : z_M) : z_w (zEm D cI cL b Z) (RX9, cX9_wander, 5, (some .int), 4) z_ei 122 [(0, .ref (b + 0)), (1, .int l1), (2, .int l2), (4, .int l4)] [.int s0, .int s1] μ ((f_X9_wander_b122 r28 r64 n l1 l2 l4 s0 s1 μ)) := by
  unfold f_X9_wander_b122
  refine z_isub (pc := 122) dX9_wander_122 ?_
  refine z_letIO (fun x7 => ?_)
  refine z_istore_n (pc := 123) (L' := [(0, .ref (b + 0)), (1, .int l1), (2, .int l2), (3, .int x7), (4, .int l4)]) dX9_wander_123 (by decide) rfl ?_
  refine z_iinc (pc := 124) (v := (l4 + 1)) (L' := [(0, .ref (b + 0)), (1, .int l1), (2, .int l2), (3, .int x7), (4, .int (l4 + 1))]) dX9_wander_124 rfl (by decide) rfl rfl ?_
  refine z_goto (pc := 127) (tgt := 64) dX9_wander_127 (by decide) ?_
  exact hr64 l1 l2 x7 (l4 + 1) μ

set_option maxRecDepth 20000 in
theorem w_X9_wander_121 {D : va_G} {cI cL : ClassId} {b : Nat} {Z : State → Heap → Prop}  (r28 : Int32 → Int32 → z_M → Option (Int32 × z_M)) (hr28 : ∀ (l1 : Int32) (l2 : Int32) (μ : z_M), z_w (zEm D cI cL b Z) (RX9, cX9_wander, 5, (some .int), 4) z_ei 28 [(0, .ref (b + 0)), (1, .int l1), (2, .int l2)] [] μ ((r28 l1 l2 μ))) (r64 : Int32 → Int32 → Int32 → Int32 → z_M → Option (Int32 × z_M)) (hr64 : ∀ (l1 : Int32) (l2 : Int32) (l3 : Int32) (l4 : Int32) (μ : z_M), z_w (zEm D cI cL b Z) (RX9, cX9_wander, 5, (some .int), 4) z_ei 64 [(0, .ref (b + 0)), (1, .int l1), (2, .int l2), (3, .int l3), (4, .int l4)] [] μ ((r64 l1 l2 l3 l4 μ))) (n : Nat) (l1 : Int32) (l2 : Int32) (l4 : Int32) (s0 : Int32) (μ : z_M) : z_w (zEm D cI cL b Z) (RX9, cX9_wander, 5, (some .int), 4) z_ei 121 [(0, .ref (b + 0)), (1, .int l1), (2, .int l2), (4, .int l4)] [.int s0] μ ((f_X9_wander_b121 r28 r64 n l1 l2 l4 s0 μ)) := by
  unfold f_X9_wander_b121
  refine z_iconst (pc := 121) dX9_wander_121 zci_0 ?_
  exact w_X9_wander_122 _ hr28 _ hr64 n l1 l2 l4 0 s0 μ

set_option maxRecDepth 20000 in
theorem w_X9_wander_92 {D : va_G} {cI cL : ClassId} {b : Nat} {Z : State → Heap → Prop}  (r28 : Int32 → Int32 → z_M → Option (Int32 × z_M)) (hr28 : ∀ (l1 : Int32) (l2 : Int32) (μ : z_M), z_w (zEm D cI cL b Z) (RX9, cX9_wander, 5, (some .int), 4) z_ei 28 [(0, .ref (b + 0)), (1, .int l1), (2, .int l2)] [] μ ((r28 l1 l2 μ))) (r64 : Int32 → Int32 → Int32 → Int32 → z_M → Option (Int32 × z_M)) (hr64 : ∀ (l1 : Int32) (l2 : Int32) (l3 : Int32) (l4 : Int32) (μ : z_M), z_w (zEm D cI cL b Z) (RX9, cX9_wander, 5, (some .int), 4) z_ei 64 [(0, .ref (b + 0)), (1, .int l1), (2, .int l2), (3, .int l3), (4, .int l4)] [] μ ((r64 l1 l2 l3 l4 μ))) (n : Nat) (l1 : Int32) (l2 : Int32) (l3 : Int32) (l4 : Int32) (μ : z_M) : z_w (zEm D cI cL b Z) (RX9, cX9_wander, 5, (some .int), 4) z_ei 92 [(0, .ref (b + 0)), (1, .int l1), (2, .int l2), (3, .int l3), (4, .int l4)] [] μ ((f_X9_wander_b92 r28 r64 n l1 l2 l3 l4 μ)) := by
  unfold f_X9_wander_b92
  refine z_iload_n (pc := 92) dX9_wander_92 rfl ?_
  refine z_aload_n (pc := 93) dX9_wander_93 rfl ?_
  refine z_iload (pc := 94) dX9_wander_94 rfl ?_
  refine z_bindP (fun p6 hp6 => ?_)
  refine z_callVi (pc := 96) (As := [.int l4]) (S := [.int l3]) (c_X9_isOpen l4 μ) hp6 zw_X9_isOpen zv_X9_isOpen zm_X9_119 (n := 1) (by decide) rfl (z_recv gm_0 (T := TX9) (N := 52) rfl) rfl (Nat.le_of_ble_eq_true rfl) (by decide) (by decide) dX9_wander_96 ?_
  refine z_if_eq (pc := 99) (tgt := 121) dX9_wander_99 (by decide) (fun _ => ?_) (fun _ => ?_)
  · refine z_drop (L' := [(0, .ref (b + 0)), (1, .int l1), (2, .int l2), (4, .int l4)]) [0, 1, 2, 4] rfl ?_
    exact w_X9_wander_121 _ hr28 _ hr64 n l1 l2 l4 l3 p6.2
  · refine z_aload_n (pc := 102) dX9_wander_102 rfl ?_
    refine z_iload (pc := 103) dX9_wander_103 rfl ?_
    refine z_aload_n (pc := 105) dX9_wander_105 rfl ?_
    refine zgR_X9_41 (pc := 106) gm_0 rfl dX9_wander_106 ?_
    refine z_iconst (pc := 109) dX9_wander_109 zci_0 ?_
    refine z_ialdK (pc := 110) gm_9 (by decide) dX9_wander_110 ?_
    refine z_bindP (fun p8 hp8 => ?_)
    refine z_callVi (pc := 111) (As := [.int l4, .int (p6.2.1 9 (z_ix 0))]) (S := [.int l3]) (c_X9_isOf l4 (p6.2.1 9 (z_ix 0)) p6.2) hp8 zw_X9_isOf zv_X9_isOf zm_X9_294 (n := 2) (by decide) rfl (z_recv gm_0 (T := TX9) (N := 52) rfl) rfl (Nat.le_of_ble_eq_true rfl) (by decide) (by decide) dX9_wander_111 ?_
    refine z_if_eq (pc := 114) (tgt := 121) dX9_wander_114 (by decide) (fun _ => ?_) (fun _ => ?_)
    · refine z_drop (L' := [(0, .ref (b + 0)), (1, .int l1), (2, .int l2), (4, .int l4)]) [0, 1, 2, 4] rfl ?_
      exact w_X9_wander_121 _ hr28 _ hr64 n l1 l2 l4 l3 p8.2
    · refine z_iconst (pc := 117) dX9_wander_117 zci_1 ?_
      refine z_goto (pc := 118) (tgt := 122) dX9_wander_118 (by decide) ?_
      refine z_drop (L' := [(0, .ref (b + 0)), (1, .int l1), (2, .int l2), (4, .int l4)]) [0, 1, 2, 4] rfl ?_
      exact w_X9_wander_122 _ hr28 _ hr64 n l1 l2 l4 1 l3 p8.2

set_option maxRecDepth 20000 in
theorem w_X9_wander_64 {D : va_G} {cI cL : ClassId} {b : Nat} {Z : State → Heap → Prop}  (r28 : Int32 → Int32 → z_M → Option (Int32 × z_M)) (hr28 : ∀ (l1 : Int32) (l2 : Int32) (μ : z_M), z_w (zEm D cI cL b Z) (RX9, cX9_wander, 5, (some .int), 4) z_ei 28 [(0, .ref (b + 0)), (1, .int l1), (2, .int l2)] [] μ ((r28 l1 l2 μ))) : ∀ (n : Nat) (l1 : Int32) (l2 : Int32) (l3 : Int32) (l4 : Int32) (μ : z_M), z_w (zEm D cI cL b Z) (RX9, cX9_wander, 5, (some .int), 4) z_ei 64 [(0, .ref (b + 0)), (1, .int l1), (2, .int l2), (3, .int l3), (4, .int l4)] [] μ (f_X9_wander_h64 r28 n l1 l2 l3 l4 μ) := by
  intro n
  induction n with
  | zero =>
    intro l1 l2 l3 l4 μ
    exact z_none
  | succ n ih =>
    intro l1 l2 l3 l4 μ
    unfold f_X9_wander_h64
    refine z_aload_n (pc := 64) dX9_wander_64 rfl ?_
    refine z_iload (pc := 65) dX9_wander_65 rfl ?_
    refine z_bindP (fun p5 hp5 => ?_)
    refine z_callVi (pc := 67) (As := [.int l4]) (S := []) (c_X9_isOpen l4 μ) hp5 zw_X9_isOpen zv_X9_isOpen zm_X9_119 (n := 1) (by decide) rfl (z_recv gm_0 (T := TX9) (N := 52) rfl) rfl (Nat.le_of_ble_eq_true rfl) (by decide) (by decide) dX9_wander_67 ?_
    refine z_if_eq (pc := 70) (tgt := 92) dX9_wander_70 (by decide) (fun _ => ?_) (fun _ => ?_)
    · exact w_X9_wander_92 _ hr28 _ ih n l1 l2 l3 l4 p5.2
    · refine z_aload_n (pc := 73) dX9_wander_73 rfl ?_
      refine z_iload (pc := 74) dX9_wander_74 rfl ?_
      refine z_aload_n (pc := 76) dX9_wander_76 rfl ?_
      refine zgR_X9_41 (pc := 77) gm_0 rfl dX9_wander_77 ?_
      refine z_iconst (pc := 80) dX9_wander_80 zci_0 ?_
      refine z_ialdK (pc := 81) gm_9 (by decide) dX9_wander_81 ?_
      refine z_bindP (fun p9 hp9 => ?_)
      refine z_callVi (pc := 82) (As := [.int l4, .int (p5.2.1 9 (z_ix 0))]) (S := []) (c_X9_isOf l4 (p5.2.1 9 (z_ix 0)) p5.2) hp9 zw_X9_isOf zv_X9_isOf zm_X9_294 (n := 2) (by decide) rfl (z_recv gm_0 (T := TX9) (N := 52) rfl) rfl (Nat.le_of_ble_eq_true rfl) (by decide) (by decide) dX9_wander_82 ?_
      refine z_if_eq (pc := 85) (tgt := 92) dX9_wander_85 (by decide) (fun _ => ?_) (fun _ => ?_)
      · exact w_X9_wander_92 _ hr28 _ ih n l1 l2 l3 l4 p9.2
      · refine z_iload_n (pc := 88) dX9_wander_88 rfl ?_
        refine z_if_le (pc := 89) (tgt := 130) dX9_wander_89 (by decide) (fun _ => ?_) (fun _ => ?_)
        · exact w_X9_wander_92 _ hr28 _ ih n l1 l2 l3 l4 p9.2
        · refine z_aload_n (pc := 130) dX9_wander_130 rfl ?_
          refine z_iload (pc := 131) dX9_wander_131 rfl ?_
          refine z_bindP (fun p10 hp10 => ?_)
          refine z_callVi (pc := 133) (As := [.int l4]) (S := []) (c_X9_goesBy l4 p9.2) hp10 zw_X9_goesBy zv_X9_goesBy zm_X9_297 (n := 1) (by decide) rfl (z_recv gm_0 (T := TX9) (N := 52) rfl) rfl (Nat.le_of_ble_eq_true rfl) (by decide) (by decide) dX9_wander_133 ?_
          refine z_pop (pc := 136) dX9_wander_136 rfl ?_
          refine z_iinc (pc := 137) (v := (l2 + 1)) (L' := [(0, .ref (b + 0)), (1, .int l1), (2, .int (l2 + 1)), (3, .int l3), (4, .int l4)]) dX9_wander_137 rfl (by decide) rfl rfl ?_
          refine z_goto (pc := 140) (tgt := 28) dX9_wander_140 (by decide) ?_
          refine z_drop (L' := [(0, .ref (b + 0)), (1, .int l1), (2, .int (l2 + 1))]) [0, 1, 2] rfl ?_
          exact hr28 l1 (l2 + 1) p10.2

set_option maxRecDepth 20000 in
theorem w_X9_wander_28 {D : va_G} {cI cL : ClassId} {b : Nat} {Z : State → Heap → Prop}  : ∀ (n : Nat) (l1 : Int32) (l2 : Int32) (μ : z_M), z_w (zEm D cI cL b Z) (RX9, cX9_wander, 5, (some .int), 4) z_ei 28 [(0, .ref (b + 0)), (1, .int l1), (2, .int l2)] [] μ (f_X9_wander_h28 n l1 l2 μ) := by
  intro n
  induction n with
  | zero =>
    intro l1 l2 μ
    exact z_none
  | succ n ih =>
    intro l1 l2 μ
    unfold f_X9_wander_h28
    refine z_iload_n (pc := 28) dX9_wander_28 rfl ?_
    refine z_iload_n (pc := 29) dX9_wander_29 rfl ?_
    refine z_icmp_ge (pc := 30) (tgt := 143) dX9_wander_30 (by decide) (fun _ => ?_) (fun _ => ?_)
    · refine z_aload_n (pc := 33) dX9_wander_33 rfl ?_
      refine z_aload_n (pc := 34) dX9_wander_34 rfl ?_
      refine zgR_X9_41 (pc := 35) gm_0 rfl dX9_wander_35 ?_
      refine z_iconst (pc := 38) dX9_wander_38 zci_0 ?_
      refine z_ialdK (pc := 39) gm_9 (by decide) dX9_wander_39 ?_
      refine z_bindP (fun p2 hp2 => ?_)
      refine z_callVi (pc := 40) (As := [.int (μ.1 9 (z_ix 0))]) (S := []) (c_X9_openAt n (μ.1 9 (z_ix 0)) μ) hp2 zw_X9_openAt zv_X9_openAt zm_X9_147 (n := 1) (by decide) rfl (z_recv gm_0 (T := TX9) (N := 52) rfl) rfl (Nat.le_of_ble_eq_true rfl) (by decide) (by decide) dX9_wander_40 ?_
      refine z_if_le (pc := 43) (tgt := 143) dX9_wander_43 (by decide) (fun _ => ?_) (fun _ => ?_)
      · refine z_aload_n (pc := 46) dX9_wander_46 rfl ?_
        refine z_aload_n (pc := 47) dX9_wander_47 rfl ?_
        refine z_aload_n (pc := 48) dX9_wander_48 rfl ?_
        refine zgR_X9_41 (pc := 49) gm_0 rfl dX9_wander_49 ?_
        refine z_iconst (pc := 52) dX9_wander_52 zci_0 ?_
        refine z_ialdK (pc := 53) gm_9 (by decide) dX9_wander_53 ?_
        refine z_bindP (fun p3 hp3 => ?_)
        refine z_callVi (pc := 54) (As := [.int (p2.2.1 9 (z_ix 0))]) (S := [.ref (b + 0)]) (c_X9_openAt n (p2.2.1 9 (z_ix 0)) p2.2) hp3 zw_X9_openAt zv_X9_openAt zm_X9_147 (n := 1) (by decide) rfl (z_recv gm_0 (T := TX9) (N := 52) rfl) rfl (Nat.le_of_ble_eq_true rfl) (by decide) (by decide) dX9_wander_54 ?_
        refine z_bindP (fun p4 hp4 => ?_)
        refine z_callVi (pc := 57) (As := [.int p3.1]) (S := []) (c_X9_draw p3.1 p3.2) hp4 zw_X9_draw zv_X9_draw zm_X9_304 (n := 1) (by decide) rfl (z_recv gm_0 (T := TX9) (N := 52) rfl) rfl (Nat.le_of_ble_eq_true rfl) (by decide) (by decide) dX9_wander_57 ?_
        refine z_istore_n (pc := 60) (L' := [(0, .ref (b + 0)), (1, .int l1), (2, .int l2), (3, .int p4.1)]) dX9_wander_60 (by decide) rfl ?_
        refine z_iconst (pc := 61) dX9_wander_61 zci_0 ?_
        refine z_istore (pc := 62) (L' := [(0, .ref (b + 0)), (1, .int l1), (2, .int l2), (3, .int p4.1), (4, .int 0)]) dX9_wander_62 (by decide) rfl ?_
        exact w_X9_wander_64 _ ih n l1 l2 p4.1 0 p4.2
      · refine z_iload_n (pc := 143) dX9_wander_143 rfl ?_
        exact z_iret (pc := 144) rfl dX9_wander_144
    · refine z_iload_n (pc := 143) dX9_wander_143 rfl ?_
      exact z_iret (pc := 144) rfl dX9_wander_144

set_option maxRecDepth 20000 in
theorem w_X9_wander_0 {D : va_G} {cI cL : ClassId} {b : Nat} {Z : State → Heap → Prop}  (n : Nat) (a1 : Int32) (μ : z_M) : z_w (zEm D cI cL b Z) (RX9, cX9_wander, 5, (some .int), 4) z_ei 0 [(0, .ref (b + 0)), (1, .int a1)] [] μ ((f_X9_wander n a1 μ)) := by
  unfold f_X9_wander
  refine z_iload_n (pc := 0) dX9_wander_0 rfl ?_
  refine z_iconst (pc := 1) dX9_wander_1 zci_1 ?_
  refine z_bipush (pc := 2) dX9_wander_2 zcb_40 ?_
  refine z_callSi (pc := 4) (As := [.int a1, .int 1, .int 40]) (S := []) (c_X9_isIn a1 1 40 μ) rfl zw_X9_isIn zs_X9_isIn zm_X9_167 (n := 3) (by decide) rfl rfl (Nat.le_of_ble_eq_true rfl) (by decide) (by decide) dX9_wander_4 ?_
  refine z_if_eq (pc := 7) (tgt := 19) dX9_wander_7 (by decide) (fun _ => ?_) (fun _ => ?_)
  · refine z_drop (L' := [(0, .ref (b + 0))]) [0] rfl ?_
    exact w_X9_wander_19 n μ
  · refine z_aload_n (pc := 10) dX9_wander_10 rfl ?_
    refine zgR_X9_41 (pc := 11) gm_0 rfl dX9_wander_11 ?_
    refine z_iconst (pc := 14) dX9_wander_14 zci_0 ?_
    refine z_ialdK (pc := 15) gm_9 (by decide) dX9_wander_15 ?_
    refine z_if_ge (pc := 16) (tgt := 26) dX9_wander_16 (by decide) (fun _ => ?_) (fun _ => ?_)
    · refine z_drop (L' := [(0, .ref (b + 0))]) [0] rfl ?_
      exact w_X9_wander_19 n μ
    · refine z_iconst (pc := 26) dX9_wander_26 zci_0 ?_
      refine z_istore_n (pc := 27) (L' := [(0, .ref (b + 0)), (1, .int a1), (2, .int 0)]) dX9_wander_27 (by decide) rfl ?_
      exact w_X9_wander_28 n a1 0 μ

set_option maxRecDepth 20000 in
theorem c_X9_wander {D : va_G} {cI cL : ClassId} {b : Nat} {Z : State → Heap → Prop}  (n : Nat) (a1 : Int32) (μ : z_M) : z_S (zEm D cI cL b Z) 4 yX9_wander cX9_wander 5 (some .int) z_ei [.ref (b + 0), .int a1] μ ((f_X9_wander n a1 μ)) :=
  z_entry (yn := yX9_wander) (by decide) (Nat.le_of_ble_eq_true rfl) rfl (w_X9_wander_0 n a1 μ)

def f_X9_who_b47 (r18 : Int32 → Int32 → Int32 → z_M → Option (Int32 × z_M)) (n : Nat) (l1 : Int32) (l3 : Int32) (s0 : Int32) (s1 : Int32) (μ : z_M) : Option (Int32 × z_M) :=
  z_let ((s1 ||| s0) : Int32) (fun x2 => r18 l1 x2 (l3 + 1) μ)
def f_X9_who_h18 : Nat → Int32 → Int32 → Int32 → z_M → Option (Int32 × z_M)
  | 0, _, _, _, _ => none
  | n + 1, l1, l2, l3, μ =>
    if l3 < (μ.1 0 8) then (z_chk l3 72 (if (l1 &&& ((μ.1 10 (z_ix l3)) ^^^ (-1))) = 0 then (f_X9_who_b47 (f_X9_who_h18 n) n l1 l3 (1 <<< (l3 &&& 31)) l2 μ) else (f_X9_who_b47 (f_X9_who_h18 n) n l1 l3 0 l2 μ))) else (some (l2, μ))
def f_X9_who (n : Nat) (a1 : Int32) (μ : z_M) : Option (Int32 × z_M) :=
  if (f_X9_isSet a1 μ) = 0 then (z_bind (f_X9_no (-6) μ) (fun p1 => some (p1.1, p1.2))) else (f_X9_who_h18 n a1 0 0 μ)
set_option maxRecDepth 20000 in
theorem w_X9_who_47 {D : va_G} {cI cL : ClassId} {b : Nat} {Z : State → Heap → Prop}  (r18 : Int32 → Int32 → Int32 → z_M → Option (Int32 × z_M)) (hr18 : ∀ (l1 : Int32) (l2 : Int32) (l3 : Int32) (μ : z_M), z_w (zEm D cI cL b Z) (RX9, cX9_who, 4, (some .int), 1) z_ei 18 [(0, .ref (b + 0)), (1, .int l1), (2, .int l2), (3, .int l3)] [] μ ((r18 l1 l2 l3 μ))) (n : Nat) (l1 : Int32) (l3 : Int32) (s0 : Int32) (s1 : Int32) (μ : z_M) : z_w (zEm D cI cL b Z) (RX9, cX9_who, 4, (some .int), 1) z_ei 47 [(0, .ref (b + 0)), (1, .int l1), (3, .int l3)] [.int s0, .int s1] μ ((f_X9_who_b47 r18 n l1 l3 s0 s1 μ)) := by
  unfold f_X9_who_b47
  refine z_ior (pc := 47) dX9_who_47 ?_
  refine z_letIO (fun x2 => ?_)
  refine z_istore_n (pc := 48) (L' := [(0, .ref (b + 0)), (1, .int l1), (2, .int x2), (3, .int l3)]) dX9_who_48 (by decide) rfl ?_
  refine z_iinc (pc := 49) (v := (l3 + 1)) (L' := [(0, .ref (b + 0)), (1, .int l1), (2, .int x2), (3, .int (l3 + 1))]) dX9_who_49 rfl (by decide) rfl rfl ?_
  refine z_goto (pc := 52) (tgt := 18) dX9_who_52 (by decide) ?_
  exact hr18 l1 x2 (l3 + 1) μ

set_option maxRecDepth 20000 in
theorem w_X9_who_18 {D : va_G} {cI cL : ClassId} {b : Nat} {Z : State → Heap → Prop}  : ∀ (n : Nat) (l1 : Int32) (l2 : Int32) (l3 : Int32) (μ : z_M), z_w (zEm D cI cL b Z) (RX9, cX9_who, 4, (some .int), 1) z_ei 18 [(0, .ref (b + 0)), (1, .int l1), (2, .int l2), (3, .int l3)] [] μ (f_X9_who_h18 n l1 l2 l3 μ) := by
  intro n
  induction n with
  | zero =>
    intro l1 l2 l3 μ
    exact z_none
  | succ n ih =>
    intro l1 l2 l3 μ
    unfold f_X9_who_h18
    refine z_iload_n (pc := 18) dX9_who_18 rfl ?_
    refine z_aload_n (pc := 19) dX9_who_19 rfl ?_
    refine zgI_X9_102 (pc := 20) gm_0 rfl dX9_who_20 ?_
    refine z_icmp_ge (pc := 23) (tgt := 55) dX9_who_23 (by decide) (fun _ => ?_) (fun _ => ?_)
    · refine z_iload_n (pc := 26) dX9_who_26 rfl ?_
      refine z_iload_n (pc := 27) dX9_who_27 rfl ?_
      refine z_aload_n (pc := 28) dX9_who_28 rfl ?_
      refine zgR_X9_44 (pc := 29) gm_0 rfl dX9_who_29 ?_
      refine z_iload_n (pc := 32) dX9_who_32 rfl ?_
      refine z_iald (pc := 33) gm_10 dX9_who_33 ?_
      refine z_iconst (pc := 34) dX9_who_34 zci_m1 ?_
      refine z_ixor (pc := 35) dX9_who_35 ?_
      refine z_iand (pc := 36) dX9_who_36 ?_
      refine z_if_ne (pc := 37) (tgt := 46) dX9_who_37 (by decide) (fun _ => ?_) (fun _ => ?_)
      · refine z_iconst (pc := 40) dX9_who_40 zci_1 ?_
        refine z_iload_n (pc := 41) dX9_who_41 rfl ?_
        refine z_ishl (pc := 42) dX9_who_42 ?_
        refine z_goto (pc := 43) (tgt := 47) dX9_who_43 (by decide) ?_
        refine z_drop (L' := [(0, .ref (b + 0)), (1, .int l1), (3, .int l3)]) [0, 1, 3] rfl ?_
        exact w_X9_who_47 _ ih n l1 l3 (1 <<< (l3 &&& 31)) l2 μ
      · refine z_iconst (pc := 46) dX9_who_46 zci_0 ?_
        refine z_drop (L' := [(0, .ref (b + 0)), (1, .int l1), (3, .int l3)]) [0, 1, 3] rfl ?_
        exact w_X9_who_47 _ ih n l1 l3 0 l2 μ
    · refine z_iload_n (pc := 55) dX9_who_55 rfl ?_
      exact z_iret (pc := 56) rfl dX9_who_56

set_option maxRecDepth 20000 in
theorem w_X9_who_0 {D : va_G} {cI cL : ClassId} {b : Nat} {Z : State → Heap → Prop}  (n : Nat) (a1 : Int32) (μ : z_M) : z_w (zEm D cI cL b Z) (RX9, cX9_who, 4, (some .int), 1) z_ei 0 [(0, .ref (b + 0)), (1, .int a1)] [] μ ((f_X9_who n a1 μ)) := by
  unfold f_X9_who
  refine z_iload_n (pc := 0) dX9_who_0 rfl ?_
  refine z_callSi (pc := 1) (As := [.int a1]) (S := []) (c_X9_isSet a1 μ) rfl zw_X9_isSet zs_X9_isSet zm_X9_195 (n := 1) (by decide) rfl rfl (Nat.le_of_ble_eq_true rfl) (by decide) (by decide) dX9_who_1 ?_
  refine z_if_ne (pc := 4) (tgt := 14) dX9_who_4 (by decide) (fun _ => ?_) (fun _ => ?_)
  · refine z_aload_n (pc := 7) dX9_who_7 rfl ?_
    refine z_bipush (pc := 8) dX9_who_8 zcb_m6 ?_
    refine z_bindP (fun p1 hp1 => ?_)
    refine z_callVi (pc := 10) (As := [.int (-6)]) (S := []) (c_X9_no (-6) μ) hp1 zw_X9_no zv_X9_no zm_X9_171 (n := 1) (by decide) rfl (z_recv gm_0 (T := TX9) (N := 52) rfl) rfl (Nat.le_of_ble_eq_true rfl) (by decide) (by decide) dX9_who_10 ?_
    exact z_iret (pc := 13) rfl dX9_who_13
  · refine z_iconst (pc := 14) dX9_who_14 zci_0 ?_
    refine z_istore_n (pc := 15) (L' := [(0, .ref (b + 0)), (1, .int a1), (2, .int 0)]) dX9_who_15 (by decide) rfl ?_
    refine z_iconst (pc := 16) dX9_who_16 zci_0 ?_
    refine z_istore_n (pc := 17) (L' := [(0, .ref (b + 0)), (1, .int a1), (2, .int 0), (3, .int 0)]) dX9_who_17 (by decide) rfl ?_
    exact w_X9_who_18 n a1 0 0 μ

set_option maxRecDepth 20000 in
theorem c_X9_who {D : va_G} {cI cL : ClassId} {b : Nat} {Z : State → Heap → Prop}  (n : Nat) (a1 : Int32) (μ : z_M) : z_S (zEm D cI cL b Z) 1 yX9_who cX9_who 4 (some .int) z_ei [.ref (b + 0), .int a1] μ ((f_X9_who n a1 μ)) :=
  z_entry (yn := yX9_who) (by decide) (Nat.le_of_ble_eq_true rfl) rfl (w_X9_who_0 n a1 μ)

def f_X9_bits_h4 : Nat → Int32 → Int32 → Int32 → z_M → Option (Int32 × z_M)
  | 0, _, _, _, _ => none
  | n + 1, l0, l1, l2, μ =>
    if l2 < 31 then (z_let ((l1 + ((l0 >>> (l2 &&& 31)) &&& 1)) : Int32) (fun x1 => f_X9_bits_h4 n l0 x1 (l2 + 1) μ)) else (some (l1, μ))
def f_X9_bits (n : Nat) (a0 : Int32) (μ : z_M) : Option (Int32 × z_M) :=
  f_X9_bits_h4 n a0 0 0 μ
set_option maxRecDepth 20000 in
theorem w_X9_bits_4 {D : va_G} {cI cL : ClassId} {b : Nat} {Z : State → Heap → Prop}  : ∀ (n : Nat) (l0 : Int32) (l1 : Int32) (l2 : Int32) (μ : z_M), z_w (zEm D cI cL b Z) (RX9, cX9_bits, 3, (some .int), 0) z_ei 4 [(0, .int l0), (1, .int l1), (2, .int l2)] [] μ (f_X9_bits_h4 n l0 l1 l2 μ) := by
  intro n
  induction n with
  | zero =>
    intro l0 l1 l2 μ
    exact z_none
  | succ n ih =>
    intro l0 l1 l2 μ
    unfold f_X9_bits_h4
    refine z_iload_n (pc := 4) dX9_bits_4 rfl ?_
    refine z_bipush (pc := 5) dX9_bits_5 zcb_31 ?_
    refine z_icmp_ge (pc := 7) (tgt := 24) dX9_bits_7 (by decide) (fun _ => ?_) (fun _ => ?_)
    · refine z_iload_n (pc := 10) dX9_bits_10 rfl ?_
      refine z_iload_n (pc := 11) dX9_bits_11 rfl ?_
      refine z_iload_n (pc := 12) dX9_bits_12 rfl ?_
      refine z_ishr (pc := 13) dX9_bits_13 ?_
      refine z_iconst (pc := 14) dX9_bits_14 zci_1 ?_
      refine z_iand (pc := 15) dX9_bits_15 ?_
      refine z_iadd (pc := 16) dX9_bits_16 ?_
      refine z_letIO (fun x1 => ?_)
      refine z_istore_n (pc := 17) (L' := [(0, .int l0), (1, .int x1), (2, .int l2)]) dX9_bits_17 (by decide) rfl ?_
      refine z_iinc (pc := 18) (v := (l2 + 1)) (L' := [(0, .int l0), (1, .int x1), (2, .int (l2 + 1))]) dX9_bits_18 rfl (by decide) rfl rfl ?_
      refine z_goto (pc := 21) (tgt := 4) dX9_bits_21 (by decide) ?_
      exact ih l0 x1 (l2 + 1) μ
    · refine z_iload_n (pc := 24) dX9_bits_24 rfl ?_
      exact z_iret (pc := 25) rfl dX9_bits_25

set_option maxRecDepth 20000 in
theorem w_X9_bits_0 {D : va_G} {cI cL : ClassId} {b : Nat} {Z : State → Heap → Prop}  (n : Nat) (a0 : Int32) (μ : z_M) : z_w (zEm D cI cL b Z) (RX9, cX9_bits, 3, (some .int), 0) z_ei 0 [(0, .int a0)] [] μ ((f_X9_bits n a0 μ)) := by
  unfold f_X9_bits
  refine z_iconst (pc := 0) dX9_bits_0 zci_0 ?_
  refine z_istore_n (pc := 1) (L' := [(0, .int a0), (1, .int 0)]) dX9_bits_1 (by decide) rfl ?_
  refine z_iconst (pc := 2) dX9_bits_2 zci_0 ?_
  refine z_istore_n (pc := 3) (L' := [(0, .int a0), (1, .int 0), (2, .int 0)]) dX9_bits_3 (by decide) rfl ?_
  exact w_X9_bits_4 n a0 0 0 μ

set_option maxRecDepth 20000 in
theorem c_X9_bits {D : va_G} {cI cL : ClassId} {b : Nat} {Z : State → Heap → Prop}  (n : Nat) (a0 : Int32) (μ : z_M) : z_S (zEm D cI cL b Z) 0 yX9_bits cX9_bits 3 (some .int) z_ei [.int a0] μ ((f_X9_bits n a0 μ)) :=
  z_entry (yn := yX9_bits) (by decide) (Nat.le_of_ble_eq_true rfl) rfl (w_X9_bits_0 n a0 μ)

def f_X9_forget_h4 : Nat → Int32 → Int32 → z_M → Option (Int32 × z_M)
  | 0, _, _, _ => none
  | n + 1, l1, l2, μ =>
    if l2 < (μ.1 0 8) then (z_chk l2 72 (z_bind (f_X9_bits n (μ.1 10 (z_ix l2)) μ) (fun p1 => z_let ((l1 + p1.1) : Int32) (fun x2 => z_chk l2 72 (z_let (z_sI p1.2 10 (z_ix l2) 0) (fun m3 => z_chk l2 72 (z_let (z_sI m3 11 (z_ix l2) 0) (fun m4 => f_X9_forget_h4 n x2 (l2 + 1) m4)))))))) else (z_chk 0 9 (z_let (z_sI μ 14 (z_ix 0) 0) (fun m5 => some (l1, m5))))
def f_X9_forget (n : Nat)  (μ : z_M) : Option (Int32 × z_M) :=
  f_X9_forget_h4 n 0 0 μ
set_option maxRecDepth 20000 in
theorem w_X9_forget_4 {D : va_G} {cI cL : ClassId} {b : Nat} {Z : State → Heap → Prop}  : ∀ (n : Nat) (l1 : Int32) (l2 : Int32) (μ : z_M), z_w (zEm D cI cL b Z) (RX9, cX9_forget, 3, (some .int), 1) z_ei 4 [(0, .ref (b + 0)), (1, .int l1), (2, .int l2)] [] μ (f_X9_forget_h4 n l1 l2 μ) := by
  intro n
  induction n with
  | zero =>
    intro l1 l2 μ
    exact z_none
  | succ n ih =>
    intro l1 l2 μ
    unfold f_X9_forget_h4
    refine z_iload_n (pc := 4) dX9_forget_4 rfl ?_
    refine z_aload_n (pc := 5) dX9_forget_5 rfl ?_
    refine zgI_X9_102 (pc := 6) gm_0 rfl dX9_forget_6 ?_
    refine z_icmp_ge (pc := 9) (tgt := 44) dX9_forget_9 (by decide) (fun _ => ?_) (fun _ => ?_)
    · refine z_iload_n (pc := 12) dX9_forget_12 rfl ?_
      refine z_aload_n (pc := 13) dX9_forget_13 rfl ?_
      refine zgR_X9_44 (pc := 14) gm_0 rfl dX9_forget_14 ?_
      refine z_iload_n (pc := 17) dX9_forget_17 rfl ?_
      refine z_iald (pc := 18) gm_10 dX9_forget_18 ?_
      refine z_bindP (fun p1 hp1 => ?_)
      refine z_callSi (pc := 19) (As := [.int (μ.1 10 (z_ix l2))]) (S := [.int l1]) (c_X9_bits n (μ.1 10 (z_ix l2)) μ) hp1 zw_X9_bits zs_X9_bits zm_X9_307 (n := 1) (by decide) rfl rfl (Nat.le_of_ble_eq_true rfl) (by decide) (by decide) dX9_forget_19 ?_
      refine z_iadd (pc := 22) dX9_forget_22 ?_
      refine z_letIO (fun x2 => ?_)
      refine z_istore_n (pc := 23) (L' := [(0, .ref (b + 0)), (1, .int x2), (2, .int l2)]) dX9_forget_23 (by decide) rfl ?_
      refine z_aload_n (pc := 24) dX9_forget_24 rfl ?_
      refine zgR_X9_44 (pc := 25) gm_0 rfl dX9_forget_25 ?_
      refine z_iload_n (pc := 28) dX9_forget_28 rfl ?_
      refine z_iconst (pc := 29) dX9_forget_29 zci_0 ?_
      refine z_iast (pc := 30) gm_10 dX9_forget_30 ?_
      refine z_letMO (fun m3 => ?_)
      refine z_aload_n (pc := 31) dX9_forget_31 rfl ?_
      refine zgR_X9_47 (pc := 32) gm_0 rfl dX9_forget_32 ?_
      refine z_iload_n (pc := 35) dX9_forget_35 rfl ?_
      refine z_iconst (pc := 36) dX9_forget_36 zci_0 ?_
      refine z_iast (pc := 37) gm_11 dX9_forget_37 ?_
      refine z_letMO (fun m4 => ?_)
      refine z_iinc (pc := 38) (v := (l2 + 1)) (L' := [(0, .ref (b + 0)), (1, .int x2), (2, .int (l2 + 1))]) dX9_forget_38 rfl (by decide) rfl rfl ?_
      refine z_goto (pc := 41) (tgt := 4) dX9_forget_41 (by decide) ?_
      exact ih x2 (l2 + 1) m4
    · refine z_aload_n (pc := 44) dX9_forget_44 rfl ?_
      refine zgR_X9_56 (pc := 45) gm_0 rfl dX9_forget_45 ?_
      refine z_iconst (pc := 48) dX9_forget_48 zci_0 ?_
      refine z_iconst (pc := 49) dX9_forget_49 zci_0 ?_
      refine z_iast (pc := 50) gm_14 dX9_forget_50 ?_
      refine z_letMO (fun m5 => ?_)
      refine z_iload_n (pc := 51) dX9_forget_51 rfl ?_
      exact z_iret (pc := 52) rfl dX9_forget_52

set_option maxRecDepth 20000 in
theorem w_X9_forget_0 {D : va_G} {cI cL : ClassId} {b : Nat} {Z : State → Heap → Prop}  (n : Nat)  (μ : z_M) : z_w (zEm D cI cL b Z) (RX9, cX9_forget, 3, (some .int), 1) z_ei 0 [(0, .ref (b + 0))] [] μ ((f_X9_forget n μ)) := by
  unfold f_X9_forget
  refine z_iconst (pc := 0) dX9_forget_0 zci_0 ?_
  refine z_istore_n (pc := 1) (L' := [(0, .ref (b + 0)), (1, .int 0)]) dX9_forget_1 (by decide) rfl ?_
  refine z_iconst (pc := 2) dX9_forget_2 zci_0 ?_
  refine z_istore_n (pc := 3) (L' := [(0, .ref (b + 0)), (1, .int 0), (2, .int 0)]) dX9_forget_3 (by decide) rfl ?_
  exact w_X9_forget_4 n 0 0 μ

set_option maxRecDepth 20000 in
theorem c_X9_forget {D : va_G} {cI cL : ClassId} {b : Nat} {Z : State → Heap → Prop}  (n : Nat)  (μ : z_M) : z_S (zEm D cI cL b Z) 1 yX9_forget cX9_forget 3 (some .int) z_ei [.ref (b + 0)] μ ((f_X9_forget n μ)) :=
  z_entry (yn := yX9_forget) (by decide) (Nat.le_of_ble_eq_true rfl) rfl (w_X9_forget_0 n  μ)

def f_X9_seed (a1 : Int32) (μ : z_M) : Int32 × z_M :=
  z_let ((μ.1 0 13) : Int32) (fun x1 => z_let (z_sI μ 0 13 a1) (fun m2 => (x1, m2)))
set_option maxRecDepth 20000 in
theorem w_X9_seed_0 {D : va_G} {cI cL : ClassId} {b : Nat} {Z : State → Heap → Prop}  (a1 : Int32) (μ : z_M) : z_w (zEm D cI cL b Z) (RX9, cX9_seed, 3, (some .int), 0) z_ei 0 [(0, .ref (b + 0)), (1, .int a1)] [] μ (z_oT (f_X9_seed a1 μ)) := by
  unfold f_X9_seed
  refine z_aload_n (pc := 0) dX9_seed_0 rfl ?_
  refine zgI_X9_38 (pc := 1) gm_0 rfl dX9_seed_1 ?_
  refine z_letI (fun x1 => ?_)
  refine z_istore_n (pc := 4) (L' := [(0, .ref (b + 0)), (1, .int a1), (2, .int x1)]) dX9_seed_4 (by decide) rfl ?_
  refine z_aload_n (pc := 5) dX9_seed_5 rfl ?_
  refine z_iload_n (pc := 6) dX9_seed_6 rfl ?_
  refine zpI_X9_38 (pc := 7) gm_0 rfl dX9_seed_7 ?_
  refine z_letM (fun m2 => ?_)
  refine z_iload_n (pc := 10) dX9_seed_10 rfl ?_
  exact z_iret (pc := 11) rfl dX9_seed_11

set_option maxRecDepth 20000 in
theorem c_X9_seed {D : va_G} {cI cL : ClassId} {b : Nat} {Z : State → Heap → Prop}  (a1 : Int32) (μ : z_M) : z_S (zEm D cI cL b Z) 0 yX9_seed cX9_seed 3 (some .int) z_ei [.ref (b + 0), .int a1] μ (z_oT (f_X9_seed a1 μ)) :=
  z_entry (yn := yX9_seed) (by decide) (Nat.le_of_ble_eq_true rfl) rfl (w_X9_seed_0 a1 μ)

def f_X9_notRoute_b53  (μ : z_M) : Option (Int32 × z_M) :=
  some ((-6), μ)
def f_X9_notRoute (a1 : Int32) (a2 : Int32) (a3 : Int32) (μ : z_M) : Option (Int32 × z_M) :=
  z_bind (f_X9_notRow a1 μ) (fun p1 => if p1.1 = 0 then (if a2 < 0 then (some ((-4), p1.2)) else (z_chk a1 8 (if (p1.2.1 20 (z_ix a1)) < a2 then (some ((-5), p1.2)) else (if a3 < a2 then (f_X9_notRoute_b53 p1.2) else (if (p1.2.1 9 (z_ix 0)) < 0 then (f_X9_notRoute_b53 p1.2) else (some (0, p1.2))))))) else (some (p1.1, p1.2)))
set_option maxRecDepth 20000 in
theorem w_X9_notRoute_53 {D : va_G} {cI cL : ClassId} {b : Nat} {Z : State → Heap → Prop}   (μ : z_M) : z_w (zEm D cI cL b Z) (RX9, cX9_notRoute, 5, (some .int), 2) z_ei 53 [] [] μ ((f_X9_notRoute_b53 μ)) := by
  unfold f_X9_notRoute_b53
  refine z_bipush (pc := 53) dX9_notRoute_53 zcb_m6 ?_
  refine z_goto (pc := 55) (tgt := 59) dX9_notRoute_55 (by decide) ?_
  exact z_iret (pc := 59) rfl dX9_notRoute_59

set_option maxRecDepth 20000 in
theorem w_X9_notRoute_0 {D : va_G} {cI cL : ClassId} {b : Nat} {Z : State → Heap → Prop}  (a1 : Int32) (a2 : Int32) (a3 : Int32) (μ : z_M) : z_w (zEm D cI cL b Z) (RX9, cX9_notRoute, 5, (some .int), 2) z_ei 0 [(0, .ref (b + 0)), (1, .int a1), (2, .int a2), (3, .int a3)] [] μ ((f_X9_notRoute a1 a2 a3 μ)) := by
  unfold f_X9_notRoute
  refine z_aload_n (pc := 0) dX9_notRoute_0 rfl ?_
  refine z_iload_n (pc := 1) dX9_notRoute_1 rfl ?_
  refine z_bindP (fun p1 hp1 => ?_)
  refine z_callVi (pc := 2) (As := [.int a1]) (S := []) (c_X9_notRow a1 μ) hp1 zw_X9_notRow zv_X9_notRow zm_X9_174 (n := 1) (by decide) rfl (z_recv gm_0 (T := TX9) (N := 52) rfl) rfl (Nat.le_of_ble_eq_true rfl) (by decide) (by decide) dX9_notRoute_2 ?_
  refine z_istore (pc := 5) (L' := [(0, .ref (b + 0)), (1, .int a1), (2, .int a2), (3, .int a3), (4, .int p1.1)]) dX9_notRoute_5 (by decide) rfl ?_
  refine z_iload (pc := 7) dX9_notRoute_7 rfl ?_
  refine z_if_eq (pc := 9) (tgt := 15) dX9_notRoute_9 (by decide) (fun _ => ?_) (fun _ => ?_)
  · refine z_iload_n (pc := 15) dX9_notRoute_15 rfl ?_
    refine z_if_ge (pc := 16) (tgt := 24) dX9_notRoute_16 (by decide) (fun _ => ?_) (fun _ => ?_)
    · refine z_bipush (pc := 19) dX9_notRoute_19 zcb_m4 ?_
      refine z_goto (pc := 21) (tgt := 59) dX9_notRoute_21 (by decide) ?_
      exact z_iret (pc := 59) rfl dX9_notRoute_59
    · refine z_iload_n (pc := 24) dX9_notRoute_24 rfl ?_
      refine z_aload_n (pc := 25) dX9_notRoute_25 rfl ?_
      refine zgR_X9_78 (pc := 26) gm_0 rfl dX9_notRoute_26 ?_
      refine z_iload_n (pc := 29) dX9_notRoute_29 rfl ?_
      refine z_iald (pc := 30) gm_20 dX9_notRoute_30 ?_
      refine z_icmp_le (pc := 31) (tgt := 39) dX9_notRoute_31 (by decide) (fun _ => ?_) (fun _ => ?_)
      · refine z_bipush (pc := 34) dX9_notRoute_34 zcb_m5 ?_
        refine z_goto (pc := 36) (tgt := 59) dX9_notRoute_36 (by decide) ?_
        exact z_iret (pc := 59) rfl dX9_notRoute_59
      · refine z_iload_n (pc := 39) dX9_notRoute_39 rfl ?_
        refine z_iload_n (pc := 40) dX9_notRoute_40 rfl ?_
        refine z_icmp_gt (pc := 41) (tgt := 53) dX9_notRoute_41 (by decide) (fun _ => ?_) (fun _ => ?_)
        · refine z_drop (L' := []) [] rfl ?_
          exact w_X9_notRoute_53 p1.2
        · refine z_aload_n (pc := 44) dX9_notRoute_44 rfl ?_
          refine zgR_X9_41 (pc := 45) gm_0 rfl dX9_notRoute_45 ?_
          refine z_iconst (pc := 48) dX9_notRoute_48 zci_0 ?_
          refine z_ialdK (pc := 49) gm_9 (by decide) dX9_notRoute_49 ?_
          refine z_if_ge (pc := 50) (tgt := 58) dX9_notRoute_50 (by decide) (fun _ => ?_) (fun _ => ?_)
          · refine z_drop (L' := []) [] rfl ?_
            exact w_X9_notRoute_53 p1.2
          · refine z_iconst (pc := 58) dX9_notRoute_58 zci_0 ?_
            exact z_iret (pc := 59) rfl dX9_notRoute_59
  · refine z_iload (pc := 12) dX9_notRoute_12 rfl ?_
    exact z_iret (pc := 14) rfl dX9_notRoute_14

set_option maxRecDepth 20000 in
theorem c_X9_notRoute {D : va_G} {cI cL : ClassId} {b : Nat} {Z : State → Heap → Prop}  (a1 : Int32) (a2 : Int32) (a3 : Int32) (μ : z_M) : z_S (zEm D cI cL b Z) 2 yX9_notRoute cX9_notRoute 5 (some .int) z_ei [.ref (b + 0), .int a1, .int a2, .int a3] μ ((f_X9_notRoute a1 a2 a3 μ)) :=
  z_entry (yn := yX9_notRoute) (by decide) (Nat.le_of_ble_eq_true rfl) rfl (w_X9_notRoute_0 a1 a2 a3 μ)

def f_X9_goesRoute_b62 (r23 : Int32 → Int32 → Int32 → z_M → Option (Int32 × z_M)) (n : Nat) (l1 : Int32) (l2 : Int32) (l3 : Int32) (l4 : Int32) (s0 : Int32) (μ : z_M) : Option (Int32 × z_M) :=
  if s0 < 0 then (some (l3, μ)) else (z_chk s0 12 (z_chk 7 9 (z_let (z_sI μ 15 (z_ix 7) ((μ.1 15 (z_ix 7)) + (μ.1 7 (z_ix s0)))) (fun m5 => z_bind (f_X9_visits 7 l4 m5) (fun p6 => r23 l1 l2 (l3 + 1) p6.2)))))
def f_X9_goesRoute_h23 : Nat → Int32 → Int32 → Int32 → z_M → Option (Int32 × z_M)
  | 0, _, _, _, _ => none
  | n + 1, l1, l2, l3, μ =>
    if l3 < l2 then (z_bind (f_X9_intAt l1 l3 μ) (fun p4 => if (f_X9_isHouse p4.1 p4.2) = 0 then (f_X9_goesRoute_b62 (f_X9_goesRoute_h23 n) n l1 l2 l3 p4.1 (-1) p4.2) else (z_bind (f_X9_betweenOf n (p4.2.1 9 (z_ix 7)) p4.1 p4.2) (fun p7 => f_X9_goesRoute_b62 (f_X9_goesRoute_h23 n) n l1 l2 l3 p4.1 p7.1 p7.2)))) else (some ((-1), μ))
def f_X9_goesRoute (n : Nat) (a1 : Int32) (a2 : Int32) (μ : z_M) : Option (Int32 × z_M) :=
  z_bind (f_X9_copies n 0 7 μ) (fun p1 => z_bind (f_X9_begins n 7 p1.2) (fun p2 => z_chk 7 9 (z_let (z_sI p2.2 16 (z_ix 7) 0) (fun m3 => f_X9_goesRoute_h23 n a1 a2 0 m3))))
set_option maxRecDepth 20000 in
theorem w_X9_goesRoute_62 {D : va_G} {cI cL : ClassId} {b : Nat} {Z : State → Heap → Prop}  (r23 : Int32 → Int32 → Int32 → z_M → Option (Int32 × z_M)) (hr23 : ∀ (l1 : Int32) (l2 : Int32) (l3 : Int32) (μ : z_M), z_w (zEm D cI cL b Z) (RX9, cX9_goesRoute, 6, (some .int), 2) z_ei 23 [(0, .ref (b + 0)), (1, .int l1), (2, .int l2), (3, .int l3)] [] μ ((r23 l1 l2 l3 μ))) (n : Nat) (l1 : Int32) (l2 : Int32) (l3 : Int32) (l4 : Int32) (s0 : Int32) (μ : z_M) : z_w (zEm D cI cL b Z) (RX9, cX9_goesRoute, 6, (some .int), 2) z_ei 62 [(0, .ref (b + 0)), (1, .int l1), (2, .int l2), (3, .int l3), (4, .int l4)] [.int s0] μ ((f_X9_goesRoute_b62 r23 n l1 l2 l3 l4 s0 μ)) := by
  unfold f_X9_goesRoute_b62
  refine z_istore (pc := 62) (L' := [(0, .ref (b + 0)), (1, .int l1), (2, .int l2), (3, .int l3), (4, .int l4), (5, .int s0)]) dX9_goesRoute_62 (by decide) rfl ?_
  refine z_iload (pc := 64) dX9_goesRoute_64 rfl ?_
  refine z_if_ge (pc := 66) (tgt := 71) dX9_goesRoute_66 (by decide) (fun _ => ?_) (fun _ => ?_)
  · refine z_iload_n (pc := 69) dX9_goesRoute_69 rfl ?_
    exact z_iret (pc := 70) rfl dX9_goesRoute_70
  · refine z_aload_n (pc := 71) dX9_goesRoute_71 rfl ?_
    refine zgR_X9_59 (pc := 72) gm_0 rfl dX9_goesRoute_72 ?_
    refine z_bipush (pc := 75) dX9_goesRoute_75 zcb_7 ?_
    refine z_dup2 (pc := 77) dX9_goesRoute_77 rfl rfl ?_
    refine z_ialdK (pc := 78) gm_15 (by decide) dX9_goesRoute_78 ?_
    refine z_aload_n (pc := 79) dX9_goesRoute_79 rfl ?_
    refine zgR_X9_28 (pc := 80) gm_0 rfl dX9_goesRoute_80 ?_
    refine z_iload (pc := 83) dX9_goesRoute_83 rfl ?_
    refine z_iald (pc := 85) gm_7 dX9_goesRoute_85 ?_
    refine z_iadd (pc := 86) dX9_goesRoute_86 ?_
    refine z_iast (pc := 87) gm_15 dX9_goesRoute_87 ?_
    refine z_letMO (fun m5 => ?_)
    refine z_aload_n (pc := 88) dX9_goesRoute_88 rfl ?_
    refine z_bipush (pc := 89) dX9_goesRoute_89 zcb_7 ?_
    refine z_iload (pc := 91) dX9_goesRoute_91 rfl ?_
    refine z_bindP (fun p6 hp6 => ?_)
    refine z_callVv (pc := 93) (As := [.int 7, .int l4]) (S := []) (c_X9_visits 7 l4 m5) hp6 zw_X9_visits zv_X9_visits zm_X9_154 (n := 2) (by decide) rfl (z_recv gm_0 (T := TX9) (N := 52) rfl) rfl (Nat.le_of_ble_eq_true rfl) (by decide) (by decide) dX9_goesRoute_93 ?_
    refine z_iinc (pc := 96) (v := (l3 + 1)) (L' := [(0, .ref (b + 0)), (1, .int l1), (2, .int l2), (3, .int (l3 + 1)), (4, .int l4), (5, .int s0)]) dX9_goesRoute_96 rfl (by decide) rfl rfl ?_
    refine z_goto (pc := 99) (tgt := 23) dX9_goesRoute_99 (by decide) ?_
    refine z_drop (L' := [(0, .ref (b + 0)), (1, .int l1), (2, .int l2), (3, .int (l3 + 1))]) [0, 1, 2, 3] rfl ?_
    exact hr23 l1 l2 (l3 + 1) p6.2

set_option maxRecDepth 20000 in
theorem w_X9_goesRoute_23 {D : va_G} {cI cL : ClassId} {b : Nat} {Z : State → Heap → Prop}  : ∀ (n : Nat) (l1 : Int32) (l2 : Int32) (l3 : Int32) (μ : z_M), z_w (zEm D cI cL b Z) (RX9, cX9_goesRoute, 6, (some .int), 2) z_ei 23 [(0, .ref (b + 0)), (1, .int l1), (2, .int l2), (3, .int l3)] [] μ (f_X9_goesRoute_h23 n l1 l2 l3 μ) := by
  intro n
  induction n with
  | zero =>
    intro l1 l2 l3 μ
    exact z_none
  | succ n ih =>
    intro l1 l2 l3 μ
    unfold f_X9_goesRoute_h23
    refine z_iload_n (pc := 23) dX9_goesRoute_23 rfl ?_
    refine z_iload_n (pc := 24) dX9_goesRoute_24 rfl ?_
    refine z_icmp_ge (pc := 25) (tgt := 102) dX9_goesRoute_25 (by decide) (fun _ => ?_) (fun _ => ?_)
    · refine z_aload_n (pc := 28) dX9_goesRoute_28 rfl ?_
      refine z_iload_n (pc := 29) dX9_goesRoute_29 rfl ?_
      refine z_iload_n (pc := 30) dX9_goesRoute_30 rfl ?_
      refine z_bindP (fun p4 hp4 => ?_)
      refine z_callVi (pc := 31) (As := [.int l1, .int l3]) (S := []) (c_X9_intAt l1 l3 μ) hp4 zw_X9_intAt zv_X9_intAt zm_X9_208 (n := 2) (by decide) rfl (z_recv gm_0 (T := TX9) (N := 52) rfl) rfl (Nat.le_of_ble_eq_true rfl) (by decide) (by decide) dX9_goesRoute_31 ?_
      refine z_istore (pc := 34) (L' := [(0, .ref (b + 0)), (1, .int l1), (2, .int l2), (3, .int l3), (4, .int p4.1)]) dX9_goesRoute_34 (by decide) rfl ?_
      refine z_aload_n (pc := 36) dX9_goesRoute_36 rfl ?_
      refine z_iload (pc := 37) dX9_goesRoute_37 rfl ?_
      refine z_callVi (pc := 39) (As := [.int p4.1]) (S := []) (c_X9_isHouse p4.1 p4.2) rfl zw_X9_isHouse zv_X9_isHouse zm_X9_188 (n := 1) (by decide) rfl (z_recv gm_0 (T := TX9) (N := 52) rfl) rfl (Nat.le_of_ble_eq_true rfl) (by decide) (by decide) dX9_goesRoute_39 ?_
      refine z_if_eq (pc := 42) (tgt := 61) dX9_goesRoute_42 (by decide) (fun _ => ?_) (fun _ => ?_)
      · refine z_iconst (pc := 61) dX9_goesRoute_61 zci_m1 ?_
        exact w_X9_goesRoute_62 _ ih n l1 l2 l3 p4.1 (-1) p4.2
      · refine z_aload_n (pc := 45) dX9_goesRoute_45 rfl ?_
        refine z_aload_n (pc := 46) dX9_goesRoute_46 rfl ?_
        refine zgR_X9_41 (pc := 47) gm_0 rfl dX9_goesRoute_47 ?_
        refine z_bipush (pc := 50) dX9_goesRoute_50 zcb_7 ?_
        refine z_ialdK (pc := 52) gm_9 (by decide) dX9_goesRoute_52 ?_
        refine z_iload (pc := 53) dX9_goesRoute_53 rfl ?_
        refine z_bindP (fun p7 hp7 => ?_)
        refine z_callVi (pc := 55) (As := [.int (p4.2.1 9 (z_ix 7)), .int p4.1]) (S := []) (c_X9_betweenOf n (p4.2.1 9 (z_ix 7)) p4.1 p4.2) hp7 zw_X9_betweenOf zv_X9_betweenOf zm_X9_143 (n := 2) (by decide) rfl (z_recv gm_0 (T := TX9) (N := 52) rfl) rfl (Nat.le_of_ble_eq_true rfl) (by decide) (by decide) dX9_goesRoute_55 ?_
        refine z_goto (pc := 58) (tgt := 62) dX9_goesRoute_58 (by decide) ?_
        exact w_X9_goesRoute_62 _ ih n l1 l2 l3 p4.1 p7.1 p7.2
    · refine z_iconst (pc := 102) dX9_goesRoute_102 zci_m1 ?_
      exact z_iret (pc := 103) rfl dX9_goesRoute_103

set_option maxRecDepth 20000 in
theorem w_X9_goesRoute_0 {D : va_G} {cI cL : ClassId} {b : Nat} {Z : State → Heap → Prop}  (n : Nat) (a1 : Int32) (a2 : Int32) (μ : z_M) : z_w (zEm D cI cL b Z) (RX9, cX9_goesRoute, 6, (some .int), 2) z_ei 0 [(0, .ref (b + 0)), (1, .int a1), (2, .int a2)] [] μ ((f_X9_goesRoute n a1 a2 μ)) := by
  unfold f_X9_goesRoute
  refine z_aload_n (pc := 0) dX9_goesRoute_0 rfl ?_
  refine z_iconst (pc := 1) dX9_goesRoute_1 zci_0 ?_
  refine z_bipush (pc := 2) dX9_goesRoute_2 zcb_7 ?_
  refine z_bindP (fun p1 hp1 => ?_)
  refine z_callVv (pc := 4) (As := [.int 0, .int 7]) (S := []) (c_X9_copies n 0 7 μ) hp1 zw_X9_copies zv_X9_copies zm_X9_150 (n := 2) (by decide) rfl (z_recv gm_0 (T := TX9) (N := 52) rfl) rfl (Nat.le_of_ble_eq_true rfl) (by decide) (by decide) dX9_goesRoute_4 ?_
  refine z_aload_n (pc := 7) dX9_goesRoute_7 rfl ?_
  refine z_bipush (pc := 8) dX9_goesRoute_8 zcb_7 ?_
  refine z_bindP (fun p2 hp2 => ?_)
  refine z_callVv (pc := 10) (As := [.int 7]) (S := []) (c_X9_begins n 7 p1.2) hp2 zw_X9_begins zv_X9_begins zm_X9_139 (n := 1) (by decide) rfl (z_recv gm_0 (T := TX9) (N := 52) rfl) rfl (Nat.le_of_ble_eq_true rfl) (by decide) (by decide) dX9_goesRoute_10 ?_
  refine z_aload_n (pc := 13) dX9_goesRoute_13 rfl ?_
  refine zgR_X9_62 (pc := 14) gm_0 rfl dX9_goesRoute_14 ?_
  refine z_bipush (pc := 17) dX9_goesRoute_17 zcb_7 ?_
  refine z_iconst (pc := 19) dX9_goesRoute_19 zci_0 ?_
  refine z_iast (pc := 20) gm_16 dX9_goesRoute_20 ?_
  refine z_letMO (fun m3 => ?_)
  refine z_iconst (pc := 21) dX9_goesRoute_21 zci_0 ?_
  refine z_istore_n (pc := 22) (L' := [(0, .ref (b + 0)), (1, .int a1), (2, .int a2), (3, .int 0)]) dX9_goesRoute_22 (by decide) rfl ?_
  exact w_X9_goesRoute_23 n a1 a2 0 m3

set_option maxRecDepth 20000 in
theorem c_X9_goesRoute {D : va_G} {cI cL : ClassId} {b : Nat} {Z : State → Heap → Prop}  (n : Nat) (a1 : Int32) (a2 : Int32) (μ : z_M) : z_S (zEm D cI cL b Z) 2 yX9_goesRoute cX9_goesRoute 6 (some .int) z_ei [.ref (b + 0), .int a1, .int a2] μ ((f_X9_goesRoute n a1 a2 μ)) :=
  z_entry (yn := yX9_goesRoute) (by decide) (Nat.le_of_ble_eq_true rfl) rfl (w_X9_goesRoute_0 n a1 a2 μ)

def f_X9_judge (n : Nat) (a1 : Int32) (a2 : Int32) (μ : z_M) : Option (Int32 × z_M) :=
  z_bind (f_X9_notRoute a1 a2 40 μ) (fun p1 => if p1.1 = 0 then (z_bind (f_X9_goesRoute n a1 a2 p1.2) (fun p2 => some (p2.1, p2.2))) else (z_bind (f_X9_no p1.1 p1.2) (fun p3 => some (p3.1, p3.2))))
set_option maxRecDepth 20000 in
theorem w_X9_judge_0 {D : va_G} {cI cL : ClassId} {b : Nat} {Z : State → Heap → Prop}  (n : Nat) (a1 : Int32) (a2 : Int32) (μ : z_M) : z_w (zEm D cI cL b Z) (RX9, cX9_judge, 4, (some .int), 3) z_ei 0 [(0, .ref (b + 0)), (1, .int a1), (2, .int a2)] [] μ ((f_X9_judge n a1 a2 μ)) := by
  unfold f_X9_judge
  refine z_aload_n (pc := 0) dX9_judge_0 rfl ?_
  refine z_iload_n (pc := 1) dX9_judge_1 rfl ?_
  refine z_iload_n (pc := 2) dX9_judge_2 rfl ?_
  refine z_bipush (pc := 3) dX9_judge_3 zcb_40 ?_
  refine z_bindP (fun p1 hp1 => ?_)
  refine z_callVi (pc := 5) (As := [.int a1, .int a2, .int 40]) (S := []) (c_X9_notRoute a1 a2 40 μ) hp1 zw_X9_notRoute zv_X9_notRoute zm_X9_310 (n := 3) (by decide) rfl (z_recv gm_0 (T := TX9) (N := 52) rfl) rfl (Nat.le_of_ble_eq_true rfl) (by decide) (by decide) dX9_judge_5 ?_
  refine z_istore_n (pc := 8) (L' := [(0, .ref (b + 0)), (1, .int a1), (2, .int a2), (3, .int p1.1)]) dX9_judge_8 (by decide) rfl ?_
  refine z_iload_n (pc := 9) dX9_judge_9 rfl ?_
  refine z_if_eq (pc := 10) (tgt := 21) dX9_judge_10 (by decide) (fun _ => ?_) (fun _ => ?_)
  · refine z_aload_n (pc := 21) dX9_judge_21 rfl ?_
    refine z_iload_n (pc := 22) dX9_judge_22 rfl ?_
    refine z_iload_n (pc := 23) dX9_judge_23 rfl ?_
    refine z_bindP (fun p2 hp2 => ?_)
    refine z_callVi (pc := 24) (As := [.int a1, .int a2]) (S := []) (c_X9_goesRoute n a1 a2 p1.2) hp2 zw_X9_goesRoute zv_X9_goesRoute zm_X9_313 (n := 2) (by decide) rfl (z_recv gm_0 (T := TX9) (N := 52) rfl) rfl (Nat.le_of_ble_eq_true rfl) (by decide) (by decide) dX9_judge_24 ?_
    exact z_iret (pc := 27) rfl dX9_judge_27
  · refine z_aload_n (pc := 13) dX9_judge_13 rfl ?_
    refine z_iload_n (pc := 14) dX9_judge_14 rfl ?_
    refine z_bindP (fun p3 hp3 => ?_)
    refine z_callVi (pc := 15) (As := [.int p1.1]) (S := []) (c_X9_no p1.1 p1.2) hp3 zw_X9_no zv_X9_no zm_X9_171 (n := 1) (by decide) rfl (z_recv gm_0 (T := TX9) (N := 52) rfl) rfl (Nat.le_of_ble_eq_true rfl) (by decide) (by decide) dX9_judge_15 ?_
    refine z_goto (pc := 18) (tgt := 27) dX9_judge_18 (by decide) ?_
    exact z_iret (pc := 27) rfl dX9_judge_27

set_option maxRecDepth 20000 in
theorem c_X9_judge {D : va_G} {cI cL : ClassId} {b : Nat} {Z : State → Heap → Prop}  (n : Nat) (a1 : Int32) (a2 : Int32) (μ : z_M) : z_S (zEm D cI cL b Z) 3 yX9_judge cX9_judge 4 (some .int) z_ei [.ref (b + 0), .int a1, .int a2] μ ((f_X9_judge n a1 a2 μ)) :=
  z_entry (yn := yX9_judge) (by decide) (Nat.le_of_ble_eq_true rfl) rfl (w_X9_judge_0 n a1 a2 μ)

def f_X9_minutes_b25 (n : Nat) (l3 : Int32) (μ : z_M) : Option (Int32 × z_M) :=
  if l3 = 0 then (some ((μ.1 15 (z_ix 7)), μ)) else (z_bind (f_X9_no l3 μ) (fun p3 => some (p3.1, p3.2)))
def f_X9_minutes (n : Nat) (a1 : Int32) (a2 : Int32) (μ : z_M) : Option (Int32 × z_M) :=
  z_bind (f_X9_notRoute a1 a2 40 μ) (fun p1 => if p1.1 = 0 then (z_bind (f_X9_goesRoute n a1 a2 p1.2) (fun p2 => if p2.1 < 0 then (f_X9_minutes_b25 n p1.1 p2.2) else (f_X9_minutes_b25 n (-6) p2.2))) else (f_X9_minutes_b25 n p1.1 p1.2))
set_option maxRecDepth 20000 in
theorem w_X9_minutes_25 {D : va_G} {cI cL : ClassId} {b : Nat} {Z : State → Heap → Prop}  (n : Nat) (l3 : Int32) (μ : z_M) : z_w (zEm D cI cL b Z) (RX9, cX9_minutes, 4, (some .int), 3) z_ei 25 [(0, .ref (b + 0)), (3, .int l3)] [] μ ((f_X9_minutes_b25 n l3 μ)) := by
  unfold f_X9_minutes_b25
  refine z_iload_n (pc := 25) dX9_minutes_25 rfl ?_
  refine z_if_eq (pc := 26) (tgt := 37) dX9_minutes_26 (by decide) (fun _ => ?_) (fun _ => ?_)
  · refine z_aload_n (pc := 37) dX9_minutes_37 rfl ?_
    refine zgR_X9_59 (pc := 38) gm_0 rfl dX9_minutes_38 ?_
    refine z_bipush (pc := 41) dX9_minutes_41 zcb_7 ?_
    refine z_ialdK (pc := 43) gm_15 (by decide) dX9_minutes_43 ?_
    exact z_iret (pc := 44) rfl dX9_minutes_44
  · refine z_aload_n (pc := 29) dX9_minutes_29 rfl ?_
    refine z_iload_n (pc := 30) dX9_minutes_30 rfl ?_
    refine z_bindP (fun p3 hp3 => ?_)
    refine z_callVi (pc := 31) (As := [.int l3]) (S := []) (c_X9_no l3 μ) hp3 zw_X9_no zv_X9_no zm_X9_171 (n := 1) (by decide) rfl (z_recv gm_0 (T := TX9) (N := 52) rfl) rfl (Nat.le_of_ble_eq_true rfl) (by decide) (by decide) dX9_minutes_31 ?_
    refine z_goto (pc := 34) (tgt := 44) dX9_minutes_34 (by decide) ?_
    exact z_iret (pc := 44) rfl dX9_minutes_44

set_option maxRecDepth 20000 in
theorem w_X9_minutes_0 {D : va_G} {cI cL : ClassId} {b : Nat} {Z : State → Heap → Prop}  (n : Nat) (a1 : Int32) (a2 : Int32) (μ : z_M) : z_w (zEm D cI cL b Z) (RX9, cX9_minutes, 4, (some .int), 3) z_ei 0 [(0, .ref (b + 0)), (1, .int a1), (2, .int a2)] [] μ ((f_X9_minutes n a1 a2 μ)) := by
  unfold f_X9_minutes
  refine z_aload_n (pc := 0) dX9_minutes_0 rfl ?_
  refine z_iload_n (pc := 1) dX9_minutes_1 rfl ?_
  refine z_iload_n (pc := 2) dX9_minutes_2 rfl ?_
  refine z_bipush (pc := 3) dX9_minutes_3 zcb_40 ?_
  refine z_bindP (fun p1 hp1 => ?_)
  refine z_callVi (pc := 5) (As := [.int a1, .int a2, .int 40]) (S := []) (c_X9_notRoute a1 a2 40 μ) hp1 zw_X9_notRoute zv_X9_notRoute zm_X9_310 (n := 3) (by decide) rfl (z_recv gm_0 (T := TX9) (N := 52) rfl) rfl (Nat.le_of_ble_eq_true rfl) (by decide) (by decide) dX9_minutes_5 ?_
  refine z_istore_n (pc := 8) (L' := [(0, .ref (b + 0)), (1, .int a1), (2, .int a2), (3, .int p1.1)]) dX9_minutes_8 (by decide) rfl ?_
  refine z_iload_n (pc := 9) dX9_minutes_9 rfl ?_
  refine z_if_ne (pc := 10) (tgt := 25) dX9_minutes_10 (by decide) (fun _ => ?_) (fun _ => ?_)
  · refine z_aload_n (pc := 13) dX9_minutes_13 rfl ?_
    refine z_iload_n (pc := 14) dX9_minutes_14 rfl ?_
    refine z_iload_n (pc := 15) dX9_minutes_15 rfl ?_
    refine z_bindP (fun p2 hp2 => ?_)
    refine z_callVi (pc := 16) (As := [.int a1, .int a2]) (S := []) (c_X9_goesRoute n a1 a2 p1.2) hp2 zw_X9_goesRoute zv_X9_goesRoute zm_X9_313 (n := 2) (by decide) rfl (z_recv gm_0 (T := TX9) (N := 52) rfl) rfl (Nat.le_of_ble_eq_true rfl) (by decide) (by decide) dX9_minutes_16 ?_
    refine z_if_lt (pc := 19) (tgt := 25) dX9_minutes_19 (by decide) (fun _ => ?_) (fun _ => ?_)
    · refine z_drop (L' := [(0, .ref (b + 0)), (3, .int p1.1)]) [0, 3] rfl ?_
      exact w_X9_minutes_25 n p1.1 p2.2
    · refine z_bipush (pc := 22) dX9_minutes_22 zcb_m6 ?_
      refine z_istore_n (pc := 24) (L' := [(0, .ref (b + 0)), (1, .int a1), (2, .int a2), (3, .int (-6))]) dX9_minutes_24 (by decide) rfl ?_
      refine z_drop (L' := [(0, .ref (b + 0)), (3, .int (-6))]) [0, 3] rfl ?_
      exact w_X9_minutes_25 n (-6) p2.2
  · refine z_drop (L' := [(0, .ref (b + 0)), (3, .int p1.1)]) [0, 3] rfl ?_
    exact w_X9_minutes_25 n p1.1 p1.2

set_option maxRecDepth 20000 in
theorem c_X9_minutes {D : va_G} {cI cL : ClassId} {b : Nat} {Z : State → Heap → Prop}  (n : Nat) (a1 : Int32) (a2 : Int32) (μ : z_M) : z_S (zEm D cI cL b Z) 3 yX9_minutes cX9_minutes 4 (some .int) z_ei [.ref (b + 0), .int a1, .int a2] μ ((f_X9_minutes n a1 a2 μ)) :=
  z_entry (yn := yX9_minutes) (by decide) (Nat.le_of_ble_eq_true rfl) rfl (w_X9_minutes_0 n a1 a2 μ)

def f_X9_hears_b40 (n : Nat) (l3 : Int32) (l4 : Int32) (μ : z_M) : Option (Int32 × z_M) :=
  if l4 = 0 then (z_chk (56 + l3) 72 (some ((μ.1 12 (z_ix (56 + l3))), μ))) else (z_bind (f_X9_no l4 μ) (fun p2 => some (p2.1, p2.2)))
def f_X9_hears_b20 (n : Nat) (l1 : Int32) (l2 : Int32) (l3 : Int32) (s0 : Int32) (μ : z_M) : Option (Int32 × z_M) :=
  if s0 = 0 then (z_bind (f_X9_goesRoute n l1 l2 μ) (fun p1 => if p1.1 < 0 then (f_X9_hears_b40 n l3 s0 p1.2) else (f_X9_hears_b40 n l3 (-6) p1.2))) else (f_X9_hears_b40 n l3 s0 μ)
def f_X9_hears (n : Nat) (a1 : Int32) (a2 : Int32) (a3 : Int32) (μ : z_M) : Option (Int32 × z_M) :=
  if (f_X9_isHouse a3 μ) = 0 then (f_X9_hears_b20 n a1 a2 a3 (-1) μ) else (z_bind (f_X9_notRoute a1 a2 40 μ) (fun p3 => f_X9_hears_b20 n a1 a2 a3 p3.1 p3.2))
set_option maxRecDepth 20000 in
theorem w_X9_hears_40 {D : va_G} {cI cL : ClassId} {b : Nat} {Z : State → Heap → Prop}  (n : Nat) (l3 : Int32) (l4 : Int32) (μ : z_M) : z_w (zEm D cI cL b Z) (RX9, cX9_hears, 5, (some .int), 3) z_ei 40 [(0, .ref (b + 0)), (3, .int l3), (4, .int l4)] [] μ ((f_X9_hears_b40 n l3 l4 μ)) := by
  unfold f_X9_hears_b40
  refine z_iload (pc := 40) dX9_hears_40 rfl ?_
  refine z_if_eq (pc := 42) (tgt := 54) dX9_hears_42 (by decide) (fun _ => ?_) (fun _ => ?_)
  · refine z_aload_n (pc := 54) dX9_hears_54 rfl ?_
    refine zgR_X9_50 (pc := 55) gm_0 rfl dX9_hears_55 ?_
    refine z_bipush (pc := 58) dX9_hears_58 zcb_56 ?_
    refine z_iload_n (pc := 60) dX9_hears_60 rfl ?_
    refine z_iadd (pc := 61) dX9_hears_61 ?_
    refine z_iald (pc := 62) gm_12 dX9_hears_62 ?_
    exact z_iret (pc := 63) rfl dX9_hears_63
  · refine z_aload_n (pc := 45) dX9_hears_45 rfl ?_
    refine z_iload (pc := 46) dX9_hears_46 rfl ?_
    refine z_bindP (fun p2 hp2 => ?_)
    refine z_callVi (pc := 48) (As := [.int l4]) (S := []) (c_X9_no l4 μ) hp2 zw_X9_no zv_X9_no zm_X9_171 (n := 1) (by decide) rfl (z_recv gm_0 (T := TX9) (N := 52) rfl) rfl (Nat.le_of_ble_eq_true rfl) (by decide) (by decide) dX9_hears_48 ?_
    refine z_goto (pc := 51) (tgt := 63) dX9_hears_51 (by decide) ?_
    exact z_iret (pc := 63) rfl dX9_hears_63

set_option maxRecDepth 20000 in
theorem w_X9_hears_20 {D : va_G} {cI cL : ClassId} {b : Nat} {Z : State → Heap → Prop}  (n : Nat) (l1 : Int32) (l2 : Int32) (l3 : Int32) (s0 : Int32) (μ : z_M) : z_w (zEm D cI cL b Z) (RX9, cX9_hears, 5, (some .int), 3) z_ei 20 [(0, .ref (b + 0)), (1, .int l1), (2, .int l2), (3, .int l3)] [.int s0] μ ((f_X9_hears_b20 n l1 l2 l3 s0 μ)) := by
  unfold f_X9_hears_b20
  refine z_istore (pc := 20) (L' := [(0, .ref (b + 0)), (1, .int l1), (2, .int l2), (3, .int l3), (4, .int s0)]) dX9_hears_20 (by decide) rfl ?_
  refine z_iload (pc := 22) dX9_hears_22 rfl ?_
  refine z_if_ne (pc := 24) (tgt := 40) dX9_hears_24 (by decide) (fun _ => ?_) (fun _ => ?_)
  · refine z_aload_n (pc := 27) dX9_hears_27 rfl ?_
    refine z_iload_n (pc := 28) dX9_hears_28 rfl ?_
    refine z_iload_n (pc := 29) dX9_hears_29 rfl ?_
    refine z_bindP (fun p1 hp1 => ?_)
    refine z_callVi (pc := 30) (As := [.int l1, .int l2]) (S := []) (c_X9_goesRoute n l1 l2 μ) hp1 zw_X9_goesRoute zv_X9_goesRoute zm_X9_313 (n := 2) (by decide) rfl (z_recv gm_0 (T := TX9) (N := 52) rfl) rfl (Nat.le_of_ble_eq_true rfl) (by decide) (by decide) dX9_hears_30 ?_
    refine z_if_lt (pc := 33) (tgt := 40) dX9_hears_33 (by decide) (fun _ => ?_) (fun _ => ?_)
    · refine z_drop (L' := [(0, .ref (b + 0)), (3, .int l3), (4, .int s0)]) [0, 3, 4] rfl ?_
      exact w_X9_hears_40 n l3 s0 p1.2
    · refine z_bipush (pc := 36) dX9_hears_36 zcb_m6 ?_
      refine z_istore (pc := 38) (L' := [(0, .ref (b + 0)), (1, .int l1), (2, .int l2), (3, .int l3), (4, .int (-6))]) dX9_hears_38 (by decide) rfl ?_
      refine z_drop (L' := [(0, .ref (b + 0)), (3, .int l3), (4, .int (-6))]) [0, 3, 4] rfl ?_
      exact w_X9_hears_40 n l3 (-6) p1.2
  · refine z_drop (L' := [(0, .ref (b + 0)), (3, .int l3), (4, .int s0)]) [0, 3, 4] rfl ?_
    exact w_X9_hears_40 n l3 s0 μ

set_option maxRecDepth 20000 in
theorem w_X9_hears_0 {D : va_G} {cI cL : ClassId} {b : Nat} {Z : State → Heap → Prop}  (n : Nat) (a1 : Int32) (a2 : Int32) (a3 : Int32) (μ : z_M) : z_w (zEm D cI cL b Z) (RX9, cX9_hears, 5, (some .int), 3) z_ei 0 [(0, .ref (b + 0)), (1, .int a1), (2, .int a2), (3, .int a3)] [] μ ((f_X9_hears n a1 a2 a3 μ)) := by
  unfold f_X9_hears
  refine z_aload_n (pc := 0) dX9_hears_0 rfl ?_
  refine z_iload_n (pc := 1) dX9_hears_1 rfl ?_
  refine z_callVi (pc := 2) (As := [.int a3]) (S := []) (c_X9_isHouse a3 μ) rfl zw_X9_isHouse zv_X9_isHouse zm_X9_188 (n := 1) (by decide) rfl (z_recv gm_0 (T := TX9) (N := 52) rfl) rfl (Nat.le_of_ble_eq_true rfl) (by decide) (by decide) dX9_hears_2 ?_
  refine z_if_ne (pc := 5) (tgt := 12) dX9_hears_5 (by decide) (fun _ => ?_) (fun _ => ?_)
  · refine z_iconst (pc := 8) dX9_hears_8 zci_m1 ?_
    refine z_goto (pc := 9) (tgt := 20) dX9_hears_9 (by decide) ?_
    exact w_X9_hears_20 n a1 a2 a3 (-1) μ
  · refine z_aload_n (pc := 12) dX9_hears_12 rfl ?_
    refine z_iload_n (pc := 13) dX9_hears_13 rfl ?_
    refine z_iload_n (pc := 14) dX9_hears_14 rfl ?_
    refine z_bipush (pc := 15) dX9_hears_15 zcb_40 ?_
    refine z_bindP (fun p3 hp3 => ?_)
    refine z_callVi (pc := 17) (As := [.int a1, .int a2, .int 40]) (S := []) (c_X9_notRoute a1 a2 40 μ) hp3 zw_X9_notRoute zv_X9_notRoute zm_X9_310 (n := 3) (by decide) rfl (z_recv gm_0 (T := TX9) (N := 52) rfl) rfl (Nat.le_of_ble_eq_true rfl) (by decide) (by decide) dX9_hears_17 ?_
    exact w_X9_hears_20 n a1 a2 a3 p3.1 p3.2

set_option maxRecDepth 20000 in
theorem c_X9_hears {D : va_G} {cI cL : ClassId} {b : Nat} {Z : State → Heap → Prop}  (n : Nat) (a1 : Int32) (a2 : Int32) (a3 : Int32) (μ : z_M) : z_S (zEm D cI cL b Z) 3 yX9_hears cX9_hears 5 (some .int) z_ei [.ref (b + 0), .int a1, .int a2, .int a3] μ ((f_X9_hears n a1 a2 a3 μ)) :=
  z_entry (yn := yX9_hears) (by decide) (Nat.le_of_ble_eq_true rfl) rfl (w_X9_hears_0 n a1 a2 a3 μ)

def f_X9_other_b37 (n : Nat) (l1 : Int32) (l2 : Int32) (l3 : Int32) (l4 : Int32) (μ : z_M) : Option (Int32 × z_M) :=
  if l4 = 0 then (z_let ((μ.1 14 (z_ix 0)) : Int32) (fun x2 => z_chk 0 9 (z_let (z_sI μ 14 (z_ix 0) 0) (fun m3 => z_let (z_sI m3 0 23 l3) (fun m4 => z_bind (f_X9_goesRoute n l1 l2 m4) (fun p5 => z_chk 0 9 (z_let (z_sI p5.2 14 (z_ix 0) x2) (fun m6 => z_let (z_sI m6 0 23 (m6.1 0 10)) (fun m7 => some ((m7.1 16 (z_ix 7)), m7)))))))))) else (z_bind (f_X9_no l4 μ) (fun p8 => some (p8.1, p8.2)))
def f_X9_other_b33 (n : Nat) (l1 : Int32) (l2 : Int32) (l3 : Int32) (μ : z_M) : Option (Int32 × z_M) :=
  f_X9_other_b37 n l1 l2 l3 (-6) μ
def f_X9_other (n : Nat) (a1 : Int32) (a2 : Int32) (a3 : Int32) (μ : z_M) : Option (Int32 × z_M) :=
  z_bind (f_X9_notRoute a1 a2 40 μ) (fun p1 => if p1.1 = 0 then (if (f_X9_isIn a3 1 3 p1.2) = 0 then (f_X9_other_b33 n a1 a2 a3 p1.2) else (z_bind (f_X9_goesRoute n a1 a2 p1.2) (fun p9 => if p9.1 < 0 then (f_X9_other_b37 n a1 a2 a3 p1.1 p9.2) else (f_X9_other_b33 n a1 a2 a3 p9.2)))) else (f_X9_other_b37 n a1 a2 a3 p1.1 p1.2))
set_option maxRecDepth 20000 in
theorem w_X9_other_37 {D : va_G} {cI cL : ClassId} {b : Nat} {Z : State → Heap → Prop}  (n : Nat) (l1 : Int32) (l2 : Int32) (l3 : Int32) (l4 : Int32) (μ : z_M) : z_w (zEm D cI cL b Z) (RX9, cX9_other, 6, (some .int), 3) z_ei 37 [(0, .ref (b + 0)), (1, .int l1), (2, .int l2), (3, .int l3), (4, .int l4)] [] μ ((f_X9_other_b37 n l1 l2 l3 l4 μ)) := by
  unfold f_X9_other_b37
  refine z_iload (pc := 37) dX9_other_37 rfl ?_
  refine z_if_eq (pc := 39) (tgt := 49) dX9_other_39 (by decide) (fun _ => ?_) (fun _ => ?_)
  · refine z_aload_n (pc := 49) dX9_other_49 rfl ?_
    refine zgR_X9_56 (pc := 50) gm_0 rfl dX9_other_50 ?_
    refine z_iconst (pc := 53) dX9_other_53 zci_0 ?_
    refine z_ialdK (pc := 54) gm_14 (by decide) dX9_other_54 ?_
    refine z_letIO (fun x2 => ?_)
    refine z_istore (pc := 55) (L' := [(0, .ref (b + 0)), (1, .int l1), (2, .int l2), (3, .int l3), (4, .int l4), (5, .int x2)]) dX9_other_55 (by decide) rfl ?_
    refine z_aload_n (pc := 57) dX9_other_57 rfl ?_
    refine zgR_X9_56 (pc := 58) gm_0 rfl dX9_other_58 ?_
    refine z_iconst (pc := 61) dX9_other_61 zci_0 ?_
    refine z_iconst (pc := 62) dX9_other_62 zci_0 ?_
    refine z_iast (pc := 63) gm_14 dX9_other_63 ?_
    refine z_letMO (fun m3 => ?_)
    refine z_aload_n (pc := 64) dX9_other_64 rfl ?_
    refine z_iload_n (pc := 65) dX9_other_65 rfl ?_
    refine zpI_X9_69 (pc := 66) gm_0 rfl dX9_other_66 ?_
    refine z_letMO (fun m4 => ?_)
    refine z_aload_n (pc := 69) dX9_other_69 rfl ?_
    refine z_iload_n (pc := 70) dX9_other_70 rfl ?_
    refine z_iload_n (pc := 71) dX9_other_71 rfl ?_
    refine z_bindP (fun p5 hp5 => ?_)
    refine z_callVi (pc := 72) (As := [.int l1, .int l2]) (S := []) (c_X9_goesRoute n l1 l2 m4) hp5 zw_X9_goesRoute zv_X9_goesRoute zm_X9_313 (n := 2) (by decide) rfl (z_recv gm_0 (T := TX9) (N := 52) rfl) rfl (Nat.le_of_ble_eq_true rfl) (by decide) (by decide) dX9_other_72 ?_
    refine z_pop (pc := 75) dX9_other_75 rfl ?_
    refine z_aload_n (pc := 76) dX9_other_76 rfl ?_
    refine zgR_X9_56 (pc := 77) gm_0 rfl dX9_other_77 ?_
    refine z_iconst (pc := 80) dX9_other_80 zci_0 ?_
    refine z_iload (pc := 81) dX9_other_81 rfl ?_
    refine z_iast (pc := 83) gm_14 dX9_other_83 ?_
    refine z_letMO (fun m6 => ?_)
    refine z_aload_n (pc := 84) dX9_other_84 rfl ?_
    refine z_aload_n (pc := 85) dX9_other_85 rfl ?_
    refine zgI_X9_34 (pc := 86) gm_0 rfl dX9_other_86 ?_
    refine zpI_X9_69 (pc := 89) gm_0 rfl dX9_other_89 ?_
    refine z_letMO (fun m7 => ?_)
    refine z_aload_n (pc := 92) dX9_other_92 rfl ?_
    refine zgR_X9_62 (pc := 93) gm_0 rfl dX9_other_93 ?_
    refine z_bipush (pc := 96) dX9_other_96 zcb_7 ?_
    refine z_ialdK (pc := 98) gm_16 (by decide) dX9_other_98 ?_
    exact z_iret (pc := 99) rfl dX9_other_99
  · refine z_aload_n (pc := 42) dX9_other_42 rfl ?_
    refine z_iload (pc := 43) dX9_other_43 rfl ?_
    refine z_bindP (fun p8 hp8 => ?_)
    refine z_callVi (pc := 45) (As := [.int l4]) (S := []) (c_X9_no l4 μ) hp8 zw_X9_no zv_X9_no zm_X9_171 (n := 1) (by decide) rfl (z_recv gm_0 (T := TX9) (N := 52) rfl) rfl (Nat.le_of_ble_eq_true rfl) (by decide) (by decide) dX9_other_45 ?_
    exact z_iret (pc := 48) rfl dX9_other_48

set_option maxRecDepth 20000 in
theorem w_X9_other_33 {D : va_G} {cI cL : ClassId} {b : Nat} {Z : State → Heap → Prop}  (n : Nat) (l1 : Int32) (l2 : Int32) (l3 : Int32) (μ : z_M) : z_w (zEm D cI cL b Z) (RX9, cX9_other, 6, (some .int), 3) z_ei 33 [(0, .ref (b + 0)), (1, .int l1), (2, .int l2), (3, .int l3)] [] μ ((f_X9_other_b33 n l1 l2 l3 μ)) := by
  unfold f_X9_other_b33
  refine z_bipush (pc := 33) dX9_other_33 zcb_m6 ?_
  refine z_istore (pc := 35) (L' := [(0, .ref (b + 0)), (1, .int l1), (2, .int l2), (3, .int l3), (4, .int (-6))]) dX9_other_35 (by decide) rfl ?_
  exact w_X9_other_37 n l1 l2 l3 (-6) μ

set_option maxRecDepth 20000 in
theorem w_X9_other_0 {D : va_G} {cI cL : ClassId} {b : Nat} {Z : State → Heap → Prop}  (n : Nat) (a1 : Int32) (a2 : Int32) (a3 : Int32) (μ : z_M) : z_w (zEm D cI cL b Z) (RX9, cX9_other, 6, (some .int), 3) z_ei 0 [(0, .ref (b + 0)), (1, .int a1), (2, .int a2), (3, .int a3)] [] μ ((f_X9_other n a1 a2 a3 μ)) := by
  unfold f_X9_other
  refine z_aload_n (pc := 0) dX9_other_0 rfl ?_
  refine z_iload_n (pc := 1) dX9_other_1 rfl ?_
  refine z_iload_n (pc := 2) dX9_other_2 rfl ?_
  refine z_bipush (pc := 3) dX9_other_3 zcb_40 ?_
  refine z_bindP (fun p1 hp1 => ?_)
  refine z_callVi (pc := 5) (As := [.int a1, .int a2, .int 40]) (S := []) (c_X9_notRoute a1 a2 40 μ) hp1 zw_X9_notRoute zv_X9_notRoute zm_X9_310 (n := 3) (by decide) rfl (z_recv gm_0 (T := TX9) (N := 52) rfl) rfl (Nat.le_of_ble_eq_true rfl) (by decide) (by decide) dX9_other_5 ?_
  refine z_istore (pc := 8) (L' := [(0, .ref (b + 0)), (1, .int a1), (2, .int a2), (3, .int a3), (4, .int p1.1)]) dX9_other_8 (by decide) rfl ?_
  refine z_iload (pc := 10) dX9_other_10 rfl ?_
  refine z_if_ne (pc := 12) (tgt := 37) dX9_other_12 (by decide) (fun _ => ?_) (fun _ => ?_)
  · refine z_iload_n (pc := 15) dX9_other_15 rfl ?_
    refine z_iconst (pc := 16) dX9_other_16 zci_1 ?_
    refine z_iconst (pc := 17) dX9_other_17 zci_3 ?_
    refine z_callSi (pc := 18) (As := [.int a3, .int 1, .int 3]) (S := []) (c_X9_isIn a3 1 3 p1.2) rfl zw_X9_isIn zs_X9_isIn zm_X9_167 (n := 3) (by decide) rfl rfl (Nat.le_of_ble_eq_true rfl) (by decide) (by decide) dX9_other_18 ?_
    refine z_if_eq (pc := 21) (tgt := 33) dX9_other_21 (by decide) (fun _ => ?_) (fun _ => ?_)
    · refine z_drop (L' := [(0, .ref (b + 0)), (1, .int a1), (2, .int a2), (3, .int a3)]) [0, 1, 2, 3] rfl ?_
      exact w_X9_other_33 n a1 a2 a3 p1.2
    · refine z_aload_n (pc := 24) dX9_other_24 rfl ?_
      refine z_iload_n (pc := 25) dX9_other_25 rfl ?_
      refine z_iload_n (pc := 26) dX9_other_26 rfl ?_
      refine z_bindP (fun p9 hp9 => ?_)
      refine z_callVi (pc := 27) (As := [.int a1, .int a2]) (S := []) (c_X9_goesRoute n a1 a2 p1.2) hp9 zw_X9_goesRoute zv_X9_goesRoute zm_X9_313 (n := 2) (by decide) rfl (z_recv gm_0 (T := TX9) (N := 52) rfl) rfl (Nat.le_of_ble_eq_true rfl) (by decide) (by decide) dX9_other_27 ?_
      refine z_if_lt (pc := 30) (tgt := 37) dX9_other_30 (by decide) (fun _ => ?_) (fun _ => ?_)
      · exact w_X9_other_37 n a1 a2 a3 p1.1 p9.2
      · refine z_drop (L' := [(0, .ref (b + 0)), (1, .int a1), (2, .int a2), (3, .int a3)]) [0, 1, 2, 3] rfl ?_
        exact w_X9_other_33 n a1 a2 a3 p9.2
  · exact w_X9_other_37 n a1 a2 a3 p1.1 p1.2

set_option maxRecDepth 20000 in
theorem c_X9_other {D : va_G} {cI cL : ClassId} {b : Nat} {Z : State → Heap → Prop}  (n : Nat) (a1 : Int32) (a2 : Int32) (a3 : Int32) (μ : z_M) : z_S (zEm D cI cL b Z) 3 yX9_other cX9_other 6 (some .int) z_ei [.ref (b + 0), .int a1, .int a2, .int a3] μ ((f_X9_other n a1 a2 a3 μ)) :=
  z_entry (yn := yX9_other) (by decide) (Nat.le_of_ble_eq_true rfl) rfl (w_X9_other_0 n a1 a2 a3 μ)

def f_X9_takesBest_h23 : Nat → Int32 → z_M → Option (Unit × z_M)
  | 0, _, _ => none
  | n + 1, l1, μ =>
    if l1 < (μ.1 0 26) then (z_chk (l1 + 1) 9 (z_chk l1 6 (z_let (z_sI μ 25 (z_ix l1) (μ.1 9 (z_ix (l1 + 1)))) (fun m3 => f_X9_takesBest_h23 n (l1 + 1) m3)))) else (some ((), μ))
def f_X9_takesBest (n : Nat)  (μ : z_M) : Option (Unit × z_M) :=
  z_chk (μ.1 0 26) 9 (z_let (z_sI μ 0 46 (μ.1 15 (z_ix (μ.1 0 26)))) (fun m1 => z_let (z_sI m1 0 47 (m1.1 0 26)) (fun m2 => f_X9_takesBest_h23 n 0 m2)))
set_option maxRecDepth 20000 in
theorem w_X9_takesBest_23 {D : va_G} {cI cL : ClassId} {b : Nat} {Z : State → Heap → Prop}  : ∀ (n : Nat) (l1 : Int32) (μ : z_M), z_w (zEm D cI cL b Z) (RX9, cX9_takesBest, 2, none, 0) z_ev 23 [(0, .ref (b + 0)), (1, .int l1)] [] μ (f_X9_takesBest_h23 n l1 μ) := by
  intro n
  induction n with
  | zero =>
    intro l1 μ
    exact z_none
  | succ n ih =>
    intro l1 μ
    unfold f_X9_takesBest_h23
    refine z_iload_n (pc := 23) dX9_takesBest_23 rfl ?_
    refine z_aload_n (pc := 24) dX9_takesBest_24 rfl ?_
    refine zgI_X9_123 (pc := 25) gm_0 rfl dX9_takesBest_25 ?_
    refine z_icmp_ge (pc := 28) (tgt := 51) dX9_takesBest_28 (by decide) (fun _ => ?_) (fun _ => ?_)
    · refine z_aload_n (pc := 31) dX9_takesBest_31 rfl ?_
      refine zgR_X9_96 (pc := 32) gm_0 rfl dX9_takesBest_32 ?_
      refine z_iload_n (pc := 35) dX9_takesBest_35 rfl ?_
      refine z_aload_n (pc := 36) dX9_takesBest_36 rfl ?_
      refine zgR_X9_41 (pc := 37) gm_0 rfl dX9_takesBest_37 ?_
      refine z_iload_n (pc := 40) dX9_takesBest_40 rfl ?_
      refine z_iconst (pc := 41) dX9_takesBest_41 zci_1 ?_
      refine z_iadd (pc := 42) dX9_takesBest_42 ?_
      refine z_iald (pc := 43) gm_9 dX9_takesBest_43 ?_
      refine z_iast (pc := 44) gm_25 dX9_takesBest_44 ?_
      refine z_letMO (fun m3 => ?_)
      refine z_iinc (pc := 45) (v := (l1 + 1)) (L' := [(0, .ref (b + 0)), (1, .int (l1 + 1))]) dX9_takesBest_45 rfl (by decide) rfl rfl ?_
      refine z_goto (pc := 48) (tgt := 23) dX9_takesBest_48 (by decide) ?_
      exact ih (l1 + 1) m3
    · exact z_vret (pc := 51) rfl dX9_takesBest_51

set_option maxRecDepth 20000 in
theorem w_X9_takesBest_0 {D : va_G} {cI cL : ClassId} {b : Nat} {Z : State → Heap → Prop}  (n : Nat)  (μ : z_M) : z_w (zEm D cI cL b Z) (RX9, cX9_takesBest, 2, none, 0) z_ev 0 [(0, .ref (b + 0))] [] μ ((f_X9_takesBest n μ)) := by
  unfold f_X9_takesBest
  refine z_aload_n (pc := 0) dX9_takesBest_0 rfl ?_
  refine z_aload_n (pc := 1) dX9_takesBest_1 rfl ?_
  refine zgR_X9_59 (pc := 2) gm_0 rfl dX9_takesBest_2 ?_
  refine z_aload_n (pc := 5) dX9_takesBest_5 rfl ?_
  refine zgI_X9_123 (pc := 6) gm_0 rfl dX9_takesBest_6 ?_
  refine z_iald (pc := 9) gm_15 dX9_takesBest_9 ?_
  refine zpI_X9_316 (pc := 10) gm_0 rfl dX9_takesBest_10 ?_
  refine z_letMO (fun m1 => ?_)
  refine z_aload_n (pc := 13) dX9_takesBest_13 rfl ?_
  refine z_aload_n (pc := 14) dX9_takesBest_14 rfl ?_
  refine zgI_X9_123 (pc := 15) gm_0 rfl dX9_takesBest_15 ?_
  refine zpI_X9_319 (pc := 18) gm_0 rfl dX9_takesBest_18 ?_
  refine z_letMO (fun m2 => ?_)
  refine z_iconst (pc := 21) dX9_takesBest_21 zci_0 ?_
  refine z_istore_n (pc := 22) (L' := [(0, .ref (b + 0)), (1, .int 0)]) dX9_takesBest_22 (by decide) rfl ?_
  exact w_X9_takesBest_23 n 0 m2

set_option maxRecDepth 20000 in
theorem c_X9_takesBest {D : va_G} {cI cL : ClassId} {b : Nat} {Z : State → Heap → Prop}  (n : Nat)  (μ : z_M) : z_S (zEm D cI cL b Z) 0 yX9_takesBest cX9_takesBest 2 none z_ev [.ref (b + 0)] μ ((f_X9_takesBest n μ)) :=
  z_entry (yn := yX9_takesBest) (by decide) (Nat.le_of_ble_eq_true rfl) rfl (w_X9_takesBest_0 n  μ)

def f_X9_isBetter_b50  (μ : z_M) : Option (Int32 × z_M) :=
  some (1, μ)
def f_X9_isBetter  (μ : z_M) : Option (Int32 × z_M) :=
  if (μ.1 0 47) < 0 then (f_X9_isBetter_b50 μ) else (z_chk (μ.1 0 26) 9 (if (μ.1 15 (z_ix (μ.1 0 26))) < (μ.1 0 46) then (f_X9_isBetter_b50 μ) else (z_chk (μ.1 0 26) 9 (if (μ.1 15 (z_ix (μ.1 0 26))) = (μ.1 0 46) then (if (μ.1 0 26) < (μ.1 0 47) then (f_X9_isBetter_b50 μ) else (some (0, μ))) else (some (0, μ))))))
set_option maxRecDepth 20000 in
theorem w_X9_isBetter_50 {D : va_G} {cI cL : ClassId} {b : Nat} {Z : State → Heap → Prop}   (μ : z_M) : z_w (zEm D cI cL b Z) (RX9, cX9_isBetter, 1, (some .boolean), 0) z_ei 50 [] [] μ ((f_X9_isBetter_b50 μ)) := by
  unfold f_X9_isBetter_b50
  refine z_iconst (pc := 50) dX9_isBetter_50 zci_1 ?_
  refine z_goto (pc := 51) (tgt := 55) dX9_isBetter_51 (by decide) ?_
  exact z_zret (pc := 55) rfl dX9_isBetter_55 (by decide)

set_option maxRecDepth 20000 in
theorem w_X9_isBetter_0 {D : va_G} {cI cL : ClassId} {b : Nat} {Z : State → Heap → Prop}   (μ : z_M) : z_w (zEm D cI cL b Z) (RX9, cX9_isBetter, 1, (some .boolean), 0) z_ei 0 [(0, .ref (b + 0))] [] μ ((f_X9_isBetter μ)) := by
  unfold f_X9_isBetter
  refine z_aload_n (pc := 0) dX9_isBetter_0 rfl ?_
  refine zgI_X9_319 (pc := 1) gm_0 rfl dX9_isBetter_1 ?_
  refine z_if_lt (pc := 4) (tgt := 50) dX9_isBetter_4 (by decide) (fun _ => ?_) (fun _ => ?_)
  · refine z_drop (L' := []) [] rfl ?_
    exact w_X9_isBetter_50 μ
  · refine z_aload_n (pc := 7) dX9_isBetter_7 rfl ?_
    refine zgR_X9_59 (pc := 8) gm_0 rfl dX9_isBetter_8 ?_
    refine z_aload_n (pc := 11) dX9_isBetter_11 rfl ?_
    refine zgI_X9_123 (pc := 12) gm_0 rfl dX9_isBetter_12 ?_
    refine z_iald (pc := 15) gm_15 dX9_isBetter_15 ?_
    refine z_aload_n (pc := 16) dX9_isBetter_16 rfl ?_
    refine zgI_X9_316 (pc := 17) gm_0 rfl dX9_isBetter_17 ?_
    refine z_icmp_lt (pc := 20) (tgt := 50) dX9_isBetter_20 (by decide) (fun _ => ?_) (fun _ => ?_)
    · refine z_drop (L' := []) [] rfl ?_
      exact w_X9_isBetter_50 μ
    · refine z_aload_n (pc := 23) dX9_isBetter_23 rfl ?_
      refine zgR_X9_59 (pc := 24) gm_0 rfl dX9_isBetter_24 ?_
      refine z_aload_n (pc := 27) dX9_isBetter_27 rfl ?_
      refine zgI_X9_123 (pc := 28) gm_0 rfl dX9_isBetter_28 ?_
      refine z_iald (pc := 31) gm_15 dX9_isBetter_31 ?_
      refine z_aload_n (pc := 32) dX9_isBetter_32 rfl ?_
      refine zgI_X9_316 (pc := 33) gm_0 rfl dX9_isBetter_33 ?_
      refine z_icmp_ne (pc := 36) (tgt := 54) dX9_isBetter_36 (by decide) (fun _ => ?_) (fun _ => ?_)
      · refine z_aload_n (pc := 39) dX9_isBetter_39 rfl ?_
        refine zgI_X9_123 (pc := 40) gm_0 rfl dX9_isBetter_40 ?_
        refine z_aload_n (pc := 43) dX9_isBetter_43 rfl ?_
        refine zgI_X9_319 (pc := 44) gm_0 rfl dX9_isBetter_44 ?_
        refine z_icmp_ge (pc := 47) (tgt := 54) dX9_isBetter_47 (by decide) (fun _ => ?_) (fun _ => ?_)
        · refine z_drop (L' := []) [] rfl ?_
          exact w_X9_isBetter_50 μ
        · refine z_iconst (pc := 54) dX9_isBetter_54 zci_0 ?_
          exact z_zret (pc := 55) rfl dX9_isBetter_55 (by decide)
      · refine z_iconst (pc := 54) dX9_isBetter_54 zci_0 ?_
        exact z_zret (pc := 55) rfl dX9_isBetter_55 (by decide)

set_option maxRecDepth 20000 in
theorem c_X9_isBetter {D : va_G} {cI cL : ClassId} {b : Nat} {Z : State → Heap → Prop}   (μ : z_M) : z_S (zEm D cI cL b Z) 0 yX9_isBetter cX9_isBetter 1 (some .boolean) z_ei [.ref (b + 0)] μ ((f_X9_isBetter μ)) :=
  z_entry (yn := yX9_isBetter) (by decide) (Nat.le_of_ble_eq_true rfl) rfl (w_X9_isBetter_0  μ)

def f_X9_toldOf (a1 : Int32) (μ : z_M) : Option (Int32 × z_M) :=
  if (μ.1 0 47) < 0 then (some ((-1), μ)) else (if a1 = 0 then (some ((μ.1 0 46), μ)) else (if a1 = 1 then (some ((μ.1 0 47), μ)) else (if (a1 - 2) < (μ.1 0 47) then (z_chk (a1 - 2) 6 (some ((μ.1 25 (z_ix (a1 - 2))), μ))) else (some ((-1), μ)))))
set_option maxRecDepth 20000 in
theorem w_X9_toldOf_0 {D : va_G} {cI cL : ClassId} {b : Nat} {Z : State → Heap → Prop}  (a1 : Int32) (μ : z_M) : z_w (zEm D cI cL b Z) (RX9, cX9_toldOf, 2, (some .int), 0) z_ei 0 [(0, .ref (b + 0)), (1, .int a1)] [] μ ((f_X9_toldOf a1 μ)) := by
  unfold f_X9_toldOf
  refine z_aload_n (pc := 0) dX9_toldOf_0 rfl ?_
  refine zgI_X9_319 (pc := 1) gm_0 rfl dX9_toldOf_1 ?_
  refine z_if_ge (pc := 4) (tgt := 9) dX9_toldOf_4 (by decide) (fun _ => ?_) (fun _ => ?_)
  · refine z_iconst (pc := 7) dX9_toldOf_7 zci_m1 ?_
    exact z_iret (pc := 8) rfl dX9_toldOf_8
  · refine z_iload_n (pc := 9) dX9_toldOf_9 rfl ?_
    refine z_if_ne (pc := 10) (tgt := 20) dX9_toldOf_10 (by decide) (fun _ => ?_) (fun _ => ?_)
    · refine z_aload_n (pc := 13) dX9_toldOf_13 rfl ?_
      refine zgI_X9_316 (pc := 14) gm_0 rfl dX9_toldOf_14 ?_
      refine z_goto (pc := 17) (tgt := 54) dX9_toldOf_17 (by decide) ?_
      exact z_iret (pc := 54) rfl dX9_toldOf_54
    · refine z_iload_n (pc := 20) dX9_toldOf_20 rfl ?_
      refine z_iconst (pc := 21) dX9_toldOf_21 zci_1 ?_
      refine z_icmp_ne (pc := 22) (tgt := 32) dX9_toldOf_22 (by decide) (fun _ => ?_) (fun _ => ?_)
      · refine z_aload_n (pc := 25) dX9_toldOf_25 rfl ?_
        refine zgI_X9_319 (pc := 26) gm_0 rfl dX9_toldOf_26 ?_
        refine z_goto (pc := 29) (tgt := 54) dX9_toldOf_29 (by decide) ?_
        exact z_iret (pc := 54) rfl dX9_toldOf_54
      · refine z_iload_n (pc := 32) dX9_toldOf_32 rfl ?_
        refine z_iconst (pc := 33) dX9_toldOf_33 zci_2 ?_
        refine z_isub (pc := 34) dX9_toldOf_34 ?_
        refine z_aload_n (pc := 35) dX9_toldOf_35 rfl ?_
        refine zgI_X9_319 (pc := 36) gm_0 rfl dX9_toldOf_36 ?_
        refine z_icmp_ge (pc := 39) (tgt := 53) dX9_toldOf_39 (by decide) (fun _ => ?_) (fun _ => ?_)
        · refine z_aload_n (pc := 42) dX9_toldOf_42 rfl ?_
          refine zgR_X9_96 (pc := 43) gm_0 rfl dX9_toldOf_43 ?_
          refine z_iload_n (pc := 46) dX9_toldOf_46 rfl ?_
          refine z_iconst (pc := 47) dX9_toldOf_47 zci_2 ?_
          refine z_isub (pc := 48) dX9_toldOf_48 ?_
          refine z_iald (pc := 49) gm_25 dX9_toldOf_49 ?_
          refine z_goto (pc := 50) (tgt := 54) dX9_toldOf_50 (by decide) ?_
          exact z_iret (pc := 54) rfl dX9_toldOf_54
        · refine z_iconst (pc := 53) dX9_toldOf_53 zci_m1 ?_
          exact z_iret (pc := 54) rfl dX9_toldOf_54

set_option maxRecDepth 20000 in
theorem c_X9_toldOf {D : va_G} {cI cL : ClassId} {b : Nat} {Z : State → Heap → Prop}  (a1 : Int32) (μ : z_M) : z_S (zEm D cI cL b Z) 0 yX9_toldOf cX9_toldOf 2 (some .int) z_ei [.ref (b + 0), .int a1] μ ((f_X9_toldOf a1 μ)) :=
  z_entry (yn := yX9_toldOf) (by decide) (Nat.le_of_ble_eq_true rfl) rfl (w_X9_toldOf_0 a1 μ)

def f_X9_aim_b16 (n : Nat)  (μ : z_M) : Option (Int32 × z_M) :=
  z_bind (f_X9_noTen (-1) μ) (fun p1 => some (p1.1, p1.2))
def f_X9_aim_b61 (n : Nat)  (μ : z_M) : Option (Int32 × z_M) :=
  z_bind (f_X9_noTen (-6) μ) (fun p3 => some (p3.1, p3.2))
def f_X9_aim_b112 (r80 : Int32 → Int32 → Int32 → Int32 → z_M → Option (Int32 × z_M)) (n : Nat) (l1 : Int32) (l2 : Int32) (l3 : Int32) (l5 : Int32) (s0 : Int32) (μ : z_M) : Option (Int32 × z_M) :=
  z_bool s0 (z_let (z_sI μ 0 29 s0) (fun m8 => if (m8.1 0 29) = 0 then (z_chk ((8 * (m8.1 0 26)) + l1) 72 (if (l3 &&& ((m8.1 12 (z_ix ((8 * (m8.1 0 26)) + l1))) ^^^ (-1))) = 0 then (z_bind (f_X9_isBetter m8) (fun p9 => if p9.1 = 0 then (r80 l1 l2 l3 l5 p9.2) else (z_bind (f_X9_takesBest n p9.2) (fun p10 => r80 l1 l2 l3 l5 p10.2)))) else (r80 l1 l2 l3 l5 m8))) else (r80 l1 l2 l3 l5 m8)))
def f_X9_aim_h80 : Nat → Int32 → Int32 → Int32 → Int32 → z_M → Option (Int32 × z_M)
  | 0, _, _, _, _, _ => none
  | n + 1, l1, l2, l3, l5, μ =>
    z_bind (f_X9_hasNext n μ) (fun p6 => if p6.1 = 0 then (z_bind (f_X9_toldOf l5 p6.2) (fun p7 => some (p7.1, p7.2))) else (z_chk ((8 * (p6.2.1 0 26)) + l2) 72 (if ((p6.2.1 12 (z_ix ((8 * (p6.2.1 0 26)) + l2))) &&& l3) = 0 then (f_X9_aim_b112 (f_X9_aim_h80 n) n l1 l2 l3 l5 0 p6.2) else (f_X9_aim_b112 (f_X9_aim_h80 n) n l1 l2 l3 l5 1 p6.2))))
def f_X9_aim (n : Nat) (a1 : Int32) (a2 : Int32) (a3 : Int32) (a4 : Int32) (a5 : Int32) (μ : z_M) : Option (Int32 × z_M) :=
  if (f_X9_isHouse a1 μ) = 0 then (f_X9_aim_b16 n μ) else (if (f_X9_isHouse a2 μ) = 0 then (f_X9_aim_b16 n μ) else (if a5 < 0 then (z_bind (f_X9_noTen (-5) μ) (fun p2 => some (p2.1, p2.2))) else (if (f_X9_isSet a3 μ) = 0 then (f_X9_aim_b61 n μ) else (if (f_X9_isIn a4 1 6 μ) = 0 then (f_X9_aim_b61 n μ) else (if (μ.1 9 (z_ix 0)) < 0 then (f_X9_aim_b61 n μ) else (z_let (z_sI μ 0 47 (-1)) (fun m4 => z_bind (f_X9_beginsRoutes n a4 0 m4) (fun p5 => f_X9_aim_h80 n a1 a2 a3 a5 p5.2))))))))
set_option maxRecDepth 20000 in
theorem w_X9_aim_16 {D : va_G} {cI cL : ClassId} {b : Nat} {Z : State → Heap → Prop}  (n : Nat)  (μ : z_M) : z_w (zEm D cI cL b Z) (RX9, cX9_aim, 6, (some .int), 4) z_ei 16 [(0, .ref (b + 0))] [] μ ((f_X9_aim_b16 n μ)) := by
  unfold f_X9_aim_b16
  refine z_aload_n (pc := 16) dX9_aim_16 rfl ?_
  refine z_iconst (pc := 17) dX9_aim_17 zci_m1 ?_
  refine z_bindP (fun p1 hp1 => ?_)
  refine z_callVi (pc := 18) (As := [.int (-1)]) (S := []) (c_X9_noTen (-1) μ) hp1 zw_X9_noTen zv_X9_noTen zm_X9_300 (n := 1) (by decide) rfl (z_recv gm_0 (T := TX9) (N := 52) rfl) rfl (Nat.le_of_ble_eq_true rfl) (by decide) (by decide) dX9_aim_18 ?_
  exact z_iret (pc := 21) rfl dX9_aim_21

set_option maxRecDepth 20000 in
theorem w_X9_aim_61 {D : va_G} {cI cL : ClassId} {b : Nat} {Z : State → Heap → Prop}  (n : Nat)  (μ : z_M) : z_w (zEm D cI cL b Z) (RX9, cX9_aim, 6, (some .int), 4) z_ei 61 [(0, .ref (b + 0))] [] μ ((f_X9_aim_b61 n μ)) := by
  unfold f_X9_aim_b61
  refine z_aload_n (pc := 61) dX9_aim_61 rfl ?_
  refine z_bipush (pc := 62) dX9_aim_62 zcb_m6 ?_
  refine z_bindP (fun p3 hp3 => ?_)
  refine z_callVi (pc := 64) (As := [.int (-6)]) (S := []) (c_X9_noTen (-6) μ) hp3 zw_X9_noTen zv_X9_noTen zm_X9_300 (n := 1) (by decide) rfl (z_recv gm_0 (T := TX9) (N := 52) rfl) rfl (Nat.le_of_ble_eq_true rfl) (by decide) (by decide) dX9_aim_64 ?_
  exact z_iret (pc := 67) rfl dX9_aim_67

set_option maxRecDepth 20000 in
theorem w_X9_aim_112 {D : va_G} {cI cL : ClassId} {b : Nat} {Z : State → Heap → Prop}  (r80 : Int32 → Int32 → Int32 → Int32 → z_M → Option (Int32 × z_M)) (hr80 : ∀ (l1 : Int32) (l2 : Int32) (l3 : Int32) (l5 : Int32) (μ : z_M), z_w (zEm D cI cL b Z) (RX9, cX9_aim, 6, (some .int), 4) z_ei 80 [(0, .ref (b + 0)), (1, .int l1), (2, .int l2), (3, .int l3), (5, .int l5)] [] μ ((r80 l1 l2 l3 l5 μ))) (n : Nat) (l1 : Int32) (l2 : Int32) (l3 : Int32) (l5 : Int32) (s0 : Int32) (μ : z_M) : z_w (zEm D cI cL b Z) (RX9, cX9_aim, 6, (some .int), 4) z_ei 112 [(0, .ref (b + 0)), (1, .int l1), (2, .int l2), (3, .int l3), (5, .int l5)] [.int s0, .ref (b + 0)] μ ((f_X9_aim_b112 r80 n l1 l2 l3 l5 s0 μ)) := by
  unfold f_X9_aim_b112
  refine z_guardW (fun _ h => z_bool_some h) (fun hb112 => ?_)
  refine zpZ_X9_133 (pc := 112) gm_0 rfl hb112 dX9_aim_112 ?_
  refine z_letMO (fun m8 => ?_)
  refine z_aload_n (pc := 115) dX9_aim_115 rfl ?_
  refine zgI_X9_133 (pc := 116) gm_0 rfl dX9_aim_116 ?_
  refine z_if_ne (pc := 119) (tgt := 80) dX9_aim_119 (by decide) (fun _ => ?_) (fun _ => ?_)
  · refine z_iload_n (pc := 122) dX9_aim_122 rfl ?_
    refine z_aload_n (pc := 123) dX9_aim_123 rfl ?_
    refine zgR_X9_50 (pc := 124) gm_0 rfl dX9_aim_124 ?_
    refine z_bipush (pc := 127) dX9_aim_127 zcb_8 ?_
    refine z_aload_n (pc := 129) dX9_aim_129 rfl ?_
    refine zgI_X9_123 (pc := 130) gm_0 rfl dX9_aim_130 ?_
    refine z_imul (pc := 133) dX9_aim_133 ?_
    refine z_iload_n (pc := 134) dX9_aim_134 rfl ?_
    refine z_iadd (pc := 135) dX9_aim_135 ?_
    refine z_iald (pc := 136) gm_12 dX9_aim_136 ?_
    refine z_iconst (pc := 137) dX9_aim_137 zci_m1 ?_
    refine z_ixor (pc := 138) dX9_aim_138 ?_
    refine z_iand (pc := 139) dX9_aim_139 ?_
    refine z_if_ne (pc := 140) (tgt := 80) dX9_aim_140 (by decide) (fun _ => ?_) (fun _ => ?_)
    · refine z_aload_n (pc := 143) dX9_aim_143 rfl ?_
      refine z_bindP (fun p9 hp9 => ?_)
      refine z_callVi (pc := 144) (As := []) (S := []) (c_X9_isBetter m8) hp9 zw_X9_isBetter zv_X9_isBetter zm_X9_328 (n := 0) (by decide) rfl (z_recv gm_0 (T := TX9) (N := 52) rfl) rfl (Nat.le_of_ble_eq_true rfl) (by decide) (by decide) dX9_aim_144 ?_
      refine z_if_eq (pc := 147) (tgt := 80) dX9_aim_147 (by decide) (fun _ => ?_) (fun _ => ?_)
      · exact hr80 l1 l2 l3 l5 p9.2
      · refine z_aload_n (pc := 150) dX9_aim_150 rfl ?_
        refine z_bindP (fun p10 hp10 => ?_)
        refine z_callVv (pc := 151) (As := []) (S := []) (c_X9_takesBest n p9.2) hp10 zw_X9_takesBest zv_X9_takesBest zm_X9_331 (n := 0) (by decide) rfl (z_recv gm_0 (T := TX9) (N := 52) rfl) rfl (Nat.le_of_ble_eq_true rfl) (by decide) (by decide) dX9_aim_151 ?_
        refine z_goto (pc := 154) (tgt := 80) dX9_aim_154 (by decide) ?_
        exact hr80 l1 l2 l3 l5 p10.2
    · exact hr80 l1 l2 l3 l5 m8
  · exact hr80 l1 l2 l3 l5 m8

set_option maxRecDepth 20000 in
theorem w_X9_aim_80 {D : va_G} {cI cL : ClassId} {b : Nat} {Z : State → Heap → Prop}  : ∀ (n : Nat) (l1 : Int32) (l2 : Int32) (l3 : Int32) (l5 : Int32) (μ : z_M), z_w (zEm D cI cL b Z) (RX9, cX9_aim, 6, (some .int), 4) z_ei 80 [(0, .ref (b + 0)), (1, .int l1), (2, .int l2), (3, .int l3), (5, .int l5)] [] μ (f_X9_aim_h80 n l1 l2 l3 l5 μ) := by
  intro n
  induction n with
  | zero =>
    intro l1 l2 l3 l5 μ
    exact z_none
  | succ n ih =>
    intro l1 l2 l3 l5 μ
    unfold f_X9_aim_h80
    refine z_aload_n (pc := 80) dX9_aim_80 rfl ?_
    refine z_bindP (fun p6 hp6 => ?_)
    refine z_callVi (pc := 81) (As := []) (S := []) (c_X9_hasNext n μ) hp6 zw_X9_hasNext zv_X9_hasNext zm_X9_325 (n := 0) (by decide) rfl (z_recv gm_0 (T := TX9) (N := 52) rfl) rfl (Nat.le_of_ble_eq_true rfl) (by decide) (by decide) dX9_aim_81 ?_
    refine z_if_eq (pc := 84) (tgt := 157) dX9_aim_84 (by decide) (fun _ => ?_) (fun _ => ?_)
    · refine z_aload_n (pc := 157) dX9_aim_157 rfl ?_
      refine z_iload (pc := 158) dX9_aim_158 rfl ?_
      refine z_bindP (fun p7 hp7 => ?_)
      refine z_callVi (pc := 160) (As := [.int l5]) (S := []) (c_X9_toldOf l5 p6.2) hp7 zw_X9_toldOf zv_X9_toldOf zm_X9_334 (n := 1) (by decide) rfl (z_recv gm_0 (T := TX9) (N := 52) rfl) rfl (Nat.le_of_ble_eq_true rfl) (by decide) (by decide) dX9_aim_160 ?_
      exact z_iret (pc := 163) rfl dX9_aim_163
    · refine z_aload_n (pc := 87) dX9_aim_87 rfl ?_
      refine z_aload_n (pc := 88) dX9_aim_88 rfl ?_
      refine zgR_X9_50 (pc := 89) gm_0 rfl dX9_aim_89 ?_
      refine z_bipush (pc := 92) dX9_aim_92 zcb_8 ?_
      refine z_aload_n (pc := 94) dX9_aim_94 rfl ?_
      refine zgI_X9_123 (pc := 95) gm_0 rfl dX9_aim_95 ?_
      refine z_imul (pc := 98) dX9_aim_98 ?_
      refine z_iload_n (pc := 99) dX9_aim_99 rfl ?_
      refine z_iadd (pc := 100) dX9_aim_100 ?_
      refine z_iald (pc := 101) gm_12 dX9_aim_101 ?_
      refine z_iload_n (pc := 102) dX9_aim_102 rfl ?_
      refine z_iand (pc := 103) dX9_aim_103 ?_
      refine z_if_eq (pc := 104) (tgt := 111) dX9_aim_104 (by decide) (fun _ => ?_) (fun _ => ?_)
      · refine z_iconst (pc := 111) dX9_aim_111 zci_0 ?_
        exact w_X9_aim_112 _ ih n l1 l2 l3 l5 0 p6.2
      · refine z_iconst (pc := 107) dX9_aim_107 zci_1 ?_
        refine z_goto (pc := 108) (tgt := 112) dX9_aim_108 (by decide) ?_
        exact w_X9_aim_112 _ ih n l1 l2 l3 l5 1 p6.2

set_option maxRecDepth 20000 in
theorem w_X9_aim_0 {D : va_G} {cI cL : ClassId} {b : Nat} {Z : State → Heap → Prop}  (n : Nat) (a1 : Int32) (a2 : Int32) (a3 : Int32) (a4 : Int32) (a5 : Int32) (μ : z_M) : z_w (zEm D cI cL b Z) (RX9, cX9_aim, 6, (some .int), 4) z_ei 0 [(0, .ref (b + 0)), (1, .int a1), (2, .int a2), (3, .int a3), (4, .int a4), (5, .int a5)] [] μ ((f_X9_aim n a1 a2 a3 a4 a5 μ)) := by
  unfold f_X9_aim
  refine z_aload_n (pc := 0) dX9_aim_0 rfl ?_
  refine z_iload_n (pc := 1) dX9_aim_1 rfl ?_
  refine z_callVi (pc := 2) (As := [.int a1]) (S := []) (c_X9_isHouse a1 μ) rfl zw_X9_isHouse zv_X9_isHouse zm_X9_188 (n := 1) (by decide) rfl (z_recv gm_0 (T := TX9) (N := 52) rfl) rfl (Nat.le_of_ble_eq_true rfl) (by decide) (by decide) dX9_aim_2 ?_
  refine z_if_eq (pc := 5) (tgt := 16) dX9_aim_5 (by decide) (fun _ => ?_) (fun _ => ?_)
  · refine z_drop (L' := [(0, .ref (b + 0))]) [0] rfl ?_
    exact w_X9_aim_16 n μ
  · refine z_aload_n (pc := 8) dX9_aim_8 rfl ?_
    refine z_iload_n (pc := 9) dX9_aim_9 rfl ?_
    refine z_callVi (pc := 10) (As := [.int a2]) (S := []) (c_X9_isHouse a2 μ) rfl zw_X9_isHouse zv_X9_isHouse zm_X9_188 (n := 1) (by decide) rfl (z_recv gm_0 (T := TX9) (N := 52) rfl) rfl (Nat.le_of_ble_eq_true rfl) (by decide) (by decide) dX9_aim_10 ?_
    refine z_if_ne (pc := 13) (tgt := 22) dX9_aim_13 (by decide) (fun _ => ?_) (fun _ => ?_)
    · refine z_drop (L' := [(0, .ref (b + 0))]) [0] rfl ?_
      exact w_X9_aim_16 n μ
    · refine z_iload (pc := 22) dX9_aim_22 rfl ?_
      refine z_if_ge (pc := 24) (tgt := 34) dX9_aim_24 (by decide) (fun _ => ?_) (fun _ => ?_)
      · refine z_aload_n (pc := 27) dX9_aim_27 rfl ?_
        refine z_bipush (pc := 28) dX9_aim_28 zcb_m5 ?_
        refine z_bindP (fun p2 hp2 => ?_)
        refine z_callVi (pc := 30) (As := [.int (-5)]) (S := []) (c_X9_noTen (-5) μ) hp2 zw_X9_noTen zv_X9_noTen zm_X9_300 (n := 1) (by decide) rfl (z_recv gm_0 (T := TX9) (N := 52) rfl) rfl (Nat.le_of_ble_eq_true rfl) (by decide) (by decide) dX9_aim_30 ?_
        exact z_iret (pc := 33) rfl dX9_aim_33
      · refine z_iload_n (pc := 34) dX9_aim_34 rfl ?_
        refine z_callSi (pc := 35) (As := [.int a3]) (S := []) (c_X9_isSet a3 μ) rfl zw_X9_isSet zs_X9_isSet zm_X9_195 (n := 1) (by decide) rfl rfl (Nat.le_of_ble_eq_true rfl) (by decide) (by decide) dX9_aim_35 ?_
        refine z_if_eq (pc := 38) (tgt := 61) dX9_aim_38 (by decide) (fun _ => ?_) (fun _ => ?_)
        · refine z_drop (L' := [(0, .ref (b + 0))]) [0] rfl ?_
          exact w_X9_aim_61 n μ
        · refine z_iload (pc := 41) dX9_aim_41 rfl ?_
          refine z_iconst (pc := 43) dX9_aim_43 zci_1 ?_
          refine z_bipush (pc := 44) dX9_aim_44 zcb_6 ?_
          refine z_callSi (pc := 46) (As := [.int a4, .int 1, .int 6]) (S := []) (c_X9_isIn a4 1 6 μ) rfl zw_X9_isIn zs_X9_isIn zm_X9_167 (n := 3) (by decide) rfl rfl (Nat.le_of_ble_eq_true rfl) (by decide) (by decide) dX9_aim_46 ?_
          refine z_if_eq (pc := 49) (tgt := 61) dX9_aim_49 (by decide) (fun _ => ?_) (fun _ => ?_)
          · refine z_drop (L' := [(0, .ref (b + 0))]) [0] rfl ?_
            exact w_X9_aim_61 n μ
          · refine z_aload_n (pc := 52) dX9_aim_52 rfl ?_
            refine zgR_X9_41 (pc := 53) gm_0 rfl dX9_aim_53 ?_
            refine z_iconst (pc := 56) dX9_aim_56 zci_0 ?_
            refine z_ialdK (pc := 57) gm_9 (by decide) dX9_aim_57 ?_
            refine z_if_ge (pc := 58) (tgt := 68) dX9_aim_58 (by decide) (fun _ => ?_) (fun _ => ?_)
            · refine z_drop (L' := [(0, .ref (b + 0))]) [0] rfl ?_
              exact w_X9_aim_61 n μ
            · refine z_aload_n (pc := 68) dX9_aim_68 rfl ?_
              refine z_iconst (pc := 69) dX9_aim_69 zci_m1 ?_
              refine zpI_X9_319 (pc := 70) gm_0 rfl dX9_aim_70 ?_
              refine z_letMO (fun m4 => ?_)
              refine z_aload_n (pc := 73) dX9_aim_73 rfl ?_
              refine z_iload (pc := 74) dX9_aim_74 rfl ?_
              refine z_iconst (pc := 76) dX9_aim_76 zci_0 ?_
              refine z_bindP (fun p5 hp5 => ?_)
              refine z_callVv (pc := 77) (As := [.int a4, .int 0]) (S := []) (c_X9_beginsRoutes n a4 0 m4) hp5 zw_X9_beginsRoutes zv_X9_beginsRoutes zm_X9_322 (n := 2) (by decide) rfl (z_recv gm_0 (T := TX9) (N := 52) rfl) rfl (Nat.le_of_ble_eq_true rfl) (by decide) (by decide) dX9_aim_77 ?_
              refine z_drop (L' := [(0, .ref (b + 0)), (1, .int a1), (2, .int a2), (3, .int a3), (5, .int a5)]) [0, 1, 2, 3, 5] rfl ?_
              exact w_X9_aim_80 n a1 a2 a3 a5 p5.2

set_option maxRecDepth 20000 in
theorem c_X9_aim {D : va_G} {cI cL : ClassId} {b : Nat} {Z : State → Heap → Prop}  (n : Nat) (a1 : Int32) (a2 : Int32) (a3 : Int32) (a4 : Int32) (a5 : Int32) (μ : z_M) : z_S (zEm D cI cL b Z) 4 yX9_aim cX9_aim 6 (some .int) z_ei [.ref (b + 0), .int a1, .int a2, .int a3, .int a4, .int a5] μ ((f_X9_aim n a1 a2 a3 a4 a5 μ)) :=
  z_entry (yn := yX9_aim) (by decide) (Nat.le_of_ble_eq_true rfl) rfl (w_X9_aim_0 n a1 a2 a3 a4 a5 μ)

def f_X9_doAllHear_b42 (r2 : Int32 → Int32 → Int32 → z_M → Option (Int32 × z_M)) (n : Nat) (l1 : Int32) (l2 : Int32) (l3 : Int32) (μ : z_M) : Option (Int32 × z_M) :=
  r2 l1 l2 (l3 + 1) μ
def f_X9_doAllHear_h2 : Nat → Int32 → Int32 → Int32 → z_M → Option (Int32 × z_M)
  | 0, _, _, _, _ => none
  | n + 1, l1, l2, l3, μ =>
    if l3 < (μ.1 0 8) then (if ((l1 >>> (l3 &&& 31)) &&& 1) = 1 then (z_chk ((8 * (μ.1 0 26)) + l3) 72 (if (l2 &&& ((μ.1 12 (z_ix ((8 * (μ.1 0 26)) + l3))) ^^^ (-1))) = 0 then (f_X9_doAllHear_b42 (f_X9_doAllHear_h2 n) n l1 l2 l3 μ) else (some (0, μ)))) else (f_X9_doAllHear_b42 (f_X9_doAllHear_h2 n) n l1 l2 l3 μ)) else (some (1, μ))
def f_X9_doAllHear (n : Nat) (a1 : Int32) (a2 : Int32) (μ : z_M) : Option (Int32 × z_M) :=
  f_X9_doAllHear_h2 n a1 a2 0 μ
set_option maxRecDepth 20000 in
theorem w_X9_doAllHear_42 {D : va_G} {cI cL : ClassId} {b : Nat} {Z : State → Heap → Prop}  (r2 : Int32 → Int32 → Int32 → z_M → Option (Int32 × z_M)) (hr2 : ∀ (l1 : Int32) (l2 : Int32) (l3 : Int32) (μ : z_M), z_w (zEm D cI cL b Z) (RX9, cX9_doAllHear, 4, (some .boolean), 0) z_ei 2 [(0, .ref (b + 0)), (1, .int l1), (2, .int l2), (3, .int l3)] [] μ ((r2 l1 l2 l3 μ))) (n : Nat) (l1 : Int32) (l2 : Int32) (l3 : Int32) (μ : z_M) : z_w (zEm D cI cL b Z) (RX9, cX9_doAllHear, 4, (some .boolean), 0) z_ei 42 [(0, .ref (b + 0)), (1, .int l1), (2, .int l2), (3, .int l3)] [] μ ((f_X9_doAllHear_b42 r2 n l1 l2 l3 μ)) := by
  unfold f_X9_doAllHear_b42
  refine z_iinc (pc := 42) (v := (l3 + 1)) (L' := [(0, .ref (b + 0)), (1, .int l1), (2, .int l2), (3, .int (l3 + 1))]) dX9_doAllHear_42 rfl (by decide) rfl rfl ?_
  refine z_goto (pc := 45) (tgt := 2) dX9_doAllHear_45 (by decide) ?_
  exact hr2 l1 l2 (l3 + 1) μ

set_option maxRecDepth 20000 in
theorem w_X9_doAllHear_2 {D : va_G} {cI cL : ClassId} {b : Nat} {Z : State → Heap → Prop}  : ∀ (n : Nat) (l1 : Int32) (l2 : Int32) (l3 : Int32) (μ : z_M), z_w (zEm D cI cL b Z) (RX9, cX9_doAllHear, 4, (some .boolean), 0) z_ei 2 [(0, .ref (b + 0)), (1, .int l1), (2, .int l2), (3, .int l3)] [] μ (f_X9_doAllHear_h2 n l1 l2 l3 μ) := by
  intro n
  induction n with
  | zero =>
    intro l1 l2 l3 μ
    exact z_none
  | succ n ih =>
    intro l1 l2 l3 μ
    unfold f_X9_doAllHear_h2
    refine z_iload_n (pc := 2) dX9_doAllHear_2 rfl ?_
    refine z_aload_n (pc := 3) dX9_doAllHear_3 rfl ?_
    refine zgI_X9_102 (pc := 4) gm_0 rfl dX9_doAllHear_4 ?_
    refine z_icmp_ge (pc := 7) (tgt := 48) dX9_doAllHear_7 (by decide) (fun _ => ?_) (fun _ => ?_)
    · refine z_iload_n (pc := 10) dX9_doAllHear_10 rfl ?_
      refine z_iload_n (pc := 11) dX9_doAllHear_11 rfl ?_
      refine z_ishr (pc := 12) dX9_doAllHear_12 ?_
      refine z_iconst (pc := 13) dX9_doAllHear_13 zci_1 ?_
      refine z_iand (pc := 14) dX9_doAllHear_14 ?_
      refine z_iconst (pc := 15) dX9_doAllHear_15 zci_1 ?_
      refine z_icmp_ne (pc := 16) (tgt := 42) dX9_doAllHear_16 (by decide) (fun _ => ?_) (fun _ => ?_)
      · refine z_iload_n (pc := 19) dX9_doAllHear_19 rfl ?_
        refine z_aload_n (pc := 20) dX9_doAllHear_20 rfl ?_
        refine zgR_X9_50 (pc := 21) gm_0 rfl dX9_doAllHear_21 ?_
        refine z_bipush (pc := 24) dX9_doAllHear_24 zcb_8 ?_
        refine z_aload_n (pc := 26) dX9_doAllHear_26 rfl ?_
        refine zgI_X9_123 (pc := 27) gm_0 rfl dX9_doAllHear_27 ?_
        refine z_imul (pc := 30) dX9_doAllHear_30 ?_
        refine z_iload_n (pc := 31) dX9_doAllHear_31 rfl ?_
        refine z_iadd (pc := 32) dX9_doAllHear_32 ?_
        refine z_iald (pc := 33) gm_12 dX9_doAllHear_33 ?_
        refine z_iconst (pc := 34) dX9_doAllHear_34 zci_m1 ?_
        refine z_ixor (pc := 35) dX9_doAllHear_35 ?_
        refine z_iand (pc := 36) dX9_doAllHear_36 ?_
        refine z_if_eq (pc := 37) (tgt := 42) dX9_doAllHear_37 (by decide) (fun _ => ?_) (fun _ => ?_)
        · exact w_X9_doAllHear_42 _ ih n l1 l2 l3 μ
        · refine z_iconst (pc := 40) dX9_doAllHear_40 zci_0 ?_
          exact z_zret (pc := 41) rfl dX9_doAllHear_41 (by decide)
      · exact w_X9_doAllHear_42 _ ih n l1 l2 l3 μ
    · refine z_iconst (pc := 48) dX9_doAllHear_48 zci_1 ?_
      exact z_zret (pc := 49) rfl dX9_doAllHear_49 (by decide)

set_option maxRecDepth 20000 in
theorem w_X9_doAllHear_0 {D : va_G} {cI cL : ClassId} {b : Nat} {Z : State → Heap → Prop}  (n : Nat) (a1 : Int32) (a2 : Int32) (μ : z_M) : z_w (zEm D cI cL b Z) (RX9, cX9_doAllHear, 4, (some .boolean), 0) z_ei 0 [(0, .ref (b + 0)), (1, .int a1), (2, .int a2)] [] μ ((f_X9_doAllHear n a1 a2 μ)) := by
  unfold f_X9_doAllHear
  refine z_iconst (pc := 0) dX9_doAllHear_0 zci_0 ?_
  refine z_istore_n (pc := 1) (L' := [(0, .ref (b + 0)), (1, .int a1), (2, .int a2), (3, .int 0)]) dX9_doAllHear_1 (by decide) rfl ?_
  exact w_X9_doAllHear_2 n a1 a2 0 μ

set_option maxRecDepth 20000 in
theorem c_X9_doAllHear {D : va_G} {cI cL : ClassId} {b : Nat} {Z : State → Heap → Prop}  (n : Nat) (a1 : Int32) (a2 : Int32) (μ : z_M) : z_S (zEm D cI cL b Z) 0 yX9_doAllHear cX9_doAllHear 4 (some .boolean) z_ei [.ref (b + 0), .int a1, .int a2] μ ((f_X9_doAllHear n a1 a2 μ)) :=
  z_entry (yn := yX9_doAllHear) (by decide) (Nat.le_of_ble_eq_true rfl) rfl (w_X9_doAllHear_0 n a1 a2 μ)

def f_X9_round_b51 (n : Nat)  (μ : z_M) : Option (Int32 × z_M) :=
  z_bind (f_X9_noTen (-6) μ) (fun p2 => some (p2.1, p2.2))
def f_X9_round_h69 : Nat → Int32 → Int32 → Int32 → z_M → Option (Int32 × z_M)
  | 0, _, _, _, _ => none
  | n + 1, l1, l2, l4, μ =>
    z_bind (f_X9_hasNext n μ) (fun p5 => if p5.1 = 0 then (z_bind (f_X9_toldOf l4 p5.2) (fun p6 => some (p6.1, p6.2))) else (z_chk (p5.2.1 0 26) 9 (if (p5.2.1 9 (z_ix (p5.2.1 0 26))) = (p5.2.1 9 (z_ix 0)) then (z_bind (f_X9_doAllHear n l1 l2 p5.2) (fun p7 => if p7.1 = 0 then (f_X9_round_h69 n l1 l2 l4 p7.2) else (z_bind (f_X9_isBetter p7.2) (fun p8 => if p8.1 = 0 then (f_X9_round_h69 n l1 l2 l4 p8.2) else (z_bind (f_X9_takesBest n p8.2) (fun p9 => f_X9_round_h69 n l1 l2 l4 p9.2)))))) else (f_X9_round_h69 n l1 l2 l4 p5.2))))
def f_X9_round (n : Nat) (a1 : Int32) (a2 : Int32) (a3 : Int32) (a4 : Int32) (μ : z_M) : Option (Int32 × z_M) :=
  if a4 < 0 then (z_bind (f_X9_noTen (-5) μ) (fun p1 => some (p1.1, p1.2))) else (if a1 < 0 then (f_X9_round_b51 n μ) else (if (a1 >>> ((μ.1 0 8) &&& 31)) = 0 then (if (f_X9_isSet a2 μ) = 0 then (f_X9_round_b51 n μ) else (if (f_X9_isIn a3 1 6 μ) = 0 then (f_X9_round_b51 n μ) else (if (μ.1 9 (z_ix 0)) < 0 then (f_X9_round_b51 n μ) else (z_let (z_sI μ 0 47 (-1)) (fun m3 => z_bind (f_X9_beginsRoutes n a3 0 m3) (fun p4 => f_X9_round_h69 n a1 a2 a4 p4.2)))))) else (f_X9_round_b51 n μ)))
set_option maxRecDepth 20000 in
theorem w_X9_round_51 {D : va_G} {cI cL : ClassId} {b : Nat} {Z : State → Heap → Prop}  (n : Nat)  (μ : z_M) : z_w (zEm D cI cL b Z) (RX9, cX9_round, 5, (some .int), 4) z_ei 51 [(0, .ref (b + 0))] [] μ ((f_X9_round_b51 n μ)) := by
  unfold f_X9_round_b51
  refine z_aload_n (pc := 51) dX9_round_51 rfl ?_
  refine z_bipush (pc := 52) dX9_round_52 zcb_m6 ?_
  refine z_bindP (fun p2 hp2 => ?_)
  refine z_callVi (pc := 54) (As := [.int (-6)]) (S := []) (c_X9_noTen (-6) μ) hp2 zw_X9_noTen zv_X9_noTen zm_X9_300 (n := 1) (by decide) rfl (z_recv gm_0 (T := TX9) (N := 52) rfl) rfl (Nat.le_of_ble_eq_true rfl) (by decide) (by decide) dX9_round_54 ?_
  exact z_iret (pc := 57) rfl dX9_round_57

set_option maxRecDepth 20000 in
theorem w_X9_round_69 {D : va_G} {cI cL : ClassId} {b : Nat} {Z : State → Heap → Prop}  : ∀ (n : Nat) (l1 : Int32) (l2 : Int32) (l4 : Int32) (μ : z_M), z_w (zEm D cI cL b Z) (RX9, cX9_round, 5, (some .int), 4) z_ei 69 [(0, .ref (b + 0)), (1, .int l1), (2, .int l2), (4, .int l4)] [] μ (f_X9_round_h69 n l1 l2 l4 μ) := by
  intro n
  induction n with
  | zero =>
    intro l1 l2 l4 μ
    exact z_none
  | succ n ih =>
    intro l1 l2 l4 μ
    unfold f_X9_round_h69
    refine z_aload_n (pc := 69) dX9_round_69 rfl ?_
    refine z_bindP (fun p5 hp5 => ?_)
    refine z_callVi (pc := 70) (As := []) (S := []) (c_X9_hasNext n μ) hp5 zw_X9_hasNext zv_X9_hasNext zm_X9_325 (n := 0) (by decide) rfl (z_recv gm_0 (T := TX9) (N := 52) rfl) rfl (Nat.le_of_ble_eq_true rfl) (by decide) (by decide) dX9_round_70 ?_
    refine z_if_eq (pc := 73) (tgt := 117) dX9_round_73 (by decide) (fun _ => ?_) (fun _ => ?_)
    · refine z_aload_n (pc := 117) dX9_round_117 rfl ?_
      refine z_iload (pc := 118) dX9_round_118 rfl ?_
      refine z_bindP (fun p6 hp6 => ?_)
      refine z_callVi (pc := 120) (As := [.int l4]) (S := []) (c_X9_toldOf l4 p5.2) hp6 zw_X9_toldOf zv_X9_toldOf zm_X9_334 (n := 1) (by decide) rfl (z_recv gm_0 (T := TX9) (N := 52) rfl) rfl (Nat.le_of_ble_eq_true rfl) (by decide) (by decide) dX9_round_120 ?_
      exact z_iret (pc := 123) rfl dX9_round_123
    · refine z_aload_n (pc := 76) dX9_round_76 rfl ?_
      refine zgR_X9_41 (pc := 77) gm_0 rfl dX9_round_77 ?_
      refine z_aload_n (pc := 80) dX9_round_80 rfl ?_
      refine zgI_X9_123 (pc := 81) gm_0 rfl dX9_round_81 ?_
      refine z_iald (pc := 84) gm_9 dX9_round_84 ?_
      refine z_aload_n (pc := 85) dX9_round_85 rfl ?_
      refine zgR_X9_41 (pc := 86) gm_0 rfl dX9_round_86 ?_
      refine z_iconst (pc := 89) dX9_round_89 zci_0 ?_
      refine z_ialdK (pc := 90) gm_9 (by decide) dX9_round_90 ?_
      refine z_icmp_ne (pc := 91) (tgt := 69) dX9_round_91 (by decide) (fun _ => ?_) (fun _ => ?_)
      · refine z_aload_n (pc := 94) dX9_round_94 rfl ?_
        refine z_iload_n (pc := 95) dX9_round_95 rfl ?_
        refine z_iload_n (pc := 96) dX9_round_96 rfl ?_
        refine z_bindP (fun p7 hp7 => ?_)
        refine z_callVi (pc := 97) (As := [.int l1, .int l2]) (S := []) (c_X9_doAllHear n l1 l2 p5.2) hp7 zw_X9_doAllHear zv_X9_doAllHear zm_X9_337 (n := 2) (by decide) rfl (z_recv gm_0 (T := TX9) (N := 52) rfl) rfl (Nat.le_of_ble_eq_true rfl) (by decide) (by decide) dX9_round_97 ?_
        refine z_if_eq (pc := 100) (tgt := 69) dX9_round_100 (by decide) (fun _ => ?_) (fun _ => ?_)
        · exact ih l1 l2 l4 p7.2
        · refine z_aload_n (pc := 103) dX9_round_103 rfl ?_
          refine z_bindP (fun p8 hp8 => ?_)
          refine z_callVi (pc := 104) (As := []) (S := []) (c_X9_isBetter p7.2) hp8 zw_X9_isBetter zv_X9_isBetter zm_X9_328 (n := 0) (by decide) rfl (z_recv gm_0 (T := TX9) (N := 52) rfl) rfl (Nat.le_of_ble_eq_true rfl) (by decide) (by decide) dX9_round_104 ?_
          refine z_if_eq (pc := 107) (tgt := 69) dX9_round_107 (by decide) (fun _ => ?_) (fun _ => ?_)
          · exact ih l1 l2 l4 p8.2
          · refine z_aload_n (pc := 110) dX9_round_110 rfl ?_
            refine z_bindP (fun p9 hp9 => ?_)
            refine z_callVv (pc := 111) (As := []) (S := []) (c_X9_takesBest n p8.2) hp9 zw_X9_takesBest zv_X9_takesBest zm_X9_331 (n := 0) (by decide) rfl (z_recv gm_0 (T := TX9) (N := 52) rfl) rfl (Nat.le_of_ble_eq_true rfl) (by decide) (by decide) dX9_round_111 ?_
            refine z_goto (pc := 114) (tgt := 69) dX9_round_114 (by decide) ?_
            exact ih l1 l2 l4 p9.2
      · exact ih l1 l2 l4 p5.2

set_option maxRecDepth 20000 in
theorem w_X9_round_0 {D : va_G} {cI cL : ClassId} {b : Nat} {Z : State → Heap → Prop}  (n : Nat) (a1 : Int32) (a2 : Int32) (a3 : Int32) (a4 : Int32) (μ : z_M) : z_w (zEm D cI cL b Z) (RX9, cX9_round, 5, (some .int), 4) z_ei 0 [(0, .ref (b + 0)), (1, .int a1), (2, .int a2), (3, .int a3), (4, .int a4)] [] μ ((f_X9_round n a1 a2 a3 a4 μ)) := by
  unfold f_X9_round
  refine z_iload (pc := 0) dX9_round_0 rfl ?_
  refine z_if_ge (pc := 2) (tgt := 12) dX9_round_2 (by decide) (fun _ => ?_) (fun _ => ?_)
  · refine z_aload_n (pc := 5) dX9_round_5 rfl ?_
    refine z_bipush (pc := 6) dX9_round_6 zcb_m5 ?_
    refine z_bindP (fun p1 hp1 => ?_)
    refine z_callVi (pc := 8) (As := [.int (-5)]) (S := []) (c_X9_noTen (-5) μ) hp1 zw_X9_noTen zv_X9_noTen zm_X9_300 (n := 1) (by decide) rfl (z_recv gm_0 (T := TX9) (N := 52) rfl) rfl (Nat.le_of_ble_eq_true rfl) (by decide) (by decide) dX9_round_8 ?_
    exact z_iret (pc := 11) rfl dX9_round_11
  · refine z_iload_n (pc := 12) dX9_round_12 rfl ?_
    refine z_if_lt (pc := 13) (tgt := 51) dX9_round_13 (by decide) (fun _ => ?_) (fun _ => ?_)
    · refine z_drop (L' := [(0, .ref (b + 0))]) [0] rfl ?_
      exact w_X9_round_51 n μ
    · refine z_iload_n (pc := 16) dX9_round_16 rfl ?_
      refine z_aload_n (pc := 17) dX9_round_17 rfl ?_
      refine zgI_X9_102 (pc := 18) gm_0 rfl dX9_round_18 ?_
      refine z_ishr (pc := 21) dX9_round_21 ?_
      refine z_if_ne (pc := 22) (tgt := 51) dX9_round_22 (by decide) (fun _ => ?_) (fun _ => ?_)
      · refine z_iload_n (pc := 25) dX9_round_25 rfl ?_
        refine z_callSi (pc := 26) (As := [.int a2]) (S := []) (c_X9_isSet a2 μ) rfl zw_X9_isSet zs_X9_isSet zm_X9_195 (n := 1) (by decide) rfl rfl (Nat.le_of_ble_eq_true rfl) (by decide) (by decide) dX9_round_26 ?_
        refine z_if_eq (pc := 29) (tgt := 51) dX9_round_29 (by decide) (fun _ => ?_) (fun _ => ?_)
        · refine z_drop (L' := [(0, .ref (b + 0))]) [0] rfl ?_
          exact w_X9_round_51 n μ
        · refine z_iload_n (pc := 32) dX9_round_32 rfl ?_
          refine z_iconst (pc := 33) dX9_round_33 zci_1 ?_
          refine z_bipush (pc := 34) dX9_round_34 zcb_6 ?_
          refine z_callSi (pc := 36) (As := [.int a3, .int 1, .int 6]) (S := []) (c_X9_isIn a3 1 6 μ) rfl zw_X9_isIn zs_X9_isIn zm_X9_167 (n := 3) (by decide) rfl rfl (Nat.le_of_ble_eq_true rfl) (by decide) (by decide) dX9_round_36 ?_
          refine z_if_eq (pc := 39) (tgt := 51) dX9_round_39 (by decide) (fun _ => ?_) (fun _ => ?_)
          · refine z_drop (L' := [(0, .ref (b + 0))]) [0] rfl ?_
            exact w_X9_round_51 n μ
          · refine z_aload_n (pc := 42) dX9_round_42 rfl ?_
            refine zgR_X9_41 (pc := 43) gm_0 rfl dX9_round_43 ?_
            refine z_iconst (pc := 46) dX9_round_46 zci_0 ?_
            refine z_ialdK (pc := 47) gm_9 (by decide) dX9_round_47 ?_
            refine z_if_ge (pc := 48) (tgt := 58) dX9_round_48 (by decide) (fun _ => ?_) (fun _ => ?_)
            · refine z_drop (L' := [(0, .ref (b + 0))]) [0] rfl ?_
              exact w_X9_round_51 n μ
            · refine z_aload_n (pc := 58) dX9_round_58 rfl ?_
              refine z_iconst (pc := 59) dX9_round_59 zci_m1 ?_
              refine zpI_X9_319 (pc := 60) gm_0 rfl dX9_round_60 ?_
              refine z_letMO (fun m3 => ?_)
              refine z_aload_n (pc := 63) dX9_round_63 rfl ?_
              refine z_iload_n (pc := 64) dX9_round_64 rfl ?_
              refine z_iconst (pc := 65) dX9_round_65 zci_0 ?_
              refine z_bindP (fun p4 hp4 => ?_)
              refine z_callVv (pc := 66) (As := [.int a3, .int 0]) (S := []) (c_X9_beginsRoutes n a3 0 m3) hp4 zw_X9_beginsRoutes zv_X9_beginsRoutes zm_X9_322 (n := 2) (by decide) rfl (z_recv gm_0 (T := TX9) (N := 52) rfl) rfl (Nat.le_of_ble_eq_true rfl) (by decide) (by decide) dX9_round_66 ?_
              refine z_drop (L' := [(0, .ref (b + 0)), (1, .int a1), (2, .int a2), (4, .int a4)]) [0, 1, 2, 4] rfl ?_
              exact w_X9_round_69 n a1 a2 a4 p4.2
      · refine z_drop (L' := [(0, .ref (b + 0))]) [0] rfl ?_
        exact w_X9_round_51 n μ

set_option maxRecDepth 20000 in
theorem c_X9_round {D : va_G} {cI cL : ClassId} {b : Nat} {Z : State → Heap → Prop}  (n : Nat) (a1 : Int32) (a2 : Int32) (a3 : Int32) (a4 : Int32) (μ : z_M) : z_S (zEm D cI cL b Z) 4 yX9_round cX9_round 5 (some .int) z_ei [.ref (b + 0), .int a1, .int a2, .int a3, .int a4] μ ((f_X9_round n a1 a2 a3 a4 μ)) :=
  z_entry (yn := yX9_round) (by decide) (Nat.le_of_ble_eq_true rfl) rfl (w_X9_round_0 n a1 a2 a3 a4 μ)

def f_X9_findFits_b64 (r21 : Int32 → Int32 → z_M → Option (Unit × z_M)) (n : Nat) (l1 : Int32) (l2 : Int32) (s0 : Int32) (μ : z_M) : Option (Unit × z_M) :=
  z_bool s0 (z_let (z_sI μ 0 29 s0) (fun m7 => if (m7.1 0 29) = 0 then (if (m7.1 0 26) < l2 then (r21 l1 l2 m7) else (z_let (z_sI m7 0 48 ((m7.1 0 48) + 1)) (fun m8 => z_chk (m8.1 0 26) 9 (z_let (z_sI m8 0 49 ((m8.1 0 49) ||| (1 <<< ((m8.1 9 (z_ix (m8.1 0 26))) &&& 31)))) (fun m9 => if (m9.1 0 47) < 0 then (z_bind (f_X9_takesBest n m9) (fun p10 => r21 l1 l2 p10.2)) else (r21 l1 l2 m9)))))) else (r21 l1 l2 m7)))
def f_X9_findFits_b63 (r21 : Int32 → Int32 → z_M → Option (Unit × z_M)) (n : Nat) (l1 : Int32) (l2 : Int32) (μ : z_M) : Option (Unit × z_M) :=
  f_X9_findFits_b64 r21 n l1 l2 0 μ
def f_X9_findFits_h21 : Nat → Int32 → Int32 → z_M → Option (Unit × z_M)
  | 0, _, _, _ => none
  | n + 1, l1, l2, μ =>
    z_bind (f_X9_hasNext n μ) (fun p5 => if p5.1 = 0 then (some ((), p5.2)) else (if (0 : Int32) < (p5.2.1 0 26) then (z_chk (p5.2.1 0 26) 9 (z_bind (f_X9_intAt l1 ((p5.2.1 0 26) - 1) p5.2) (fun p6 => if (p5.2.1 16 (z_ix (p5.2.1 0 26))) = p6.1 then (f_X9_findFits_b63 (f_X9_findFits_h21 n) n l1 l2 p6.2) else (f_X9_findFits_b64 (f_X9_findFits_h21 n) n l1 l2 1 p6.2)))) else (f_X9_findFits_b63 (f_X9_findFits_h21 n) n l1 l2 p5.2)))
def f_X9_findFits (n : Nat) (a1 : Int32) (a2 : Int32) (μ : z_M) : Option (Unit × z_M) :=
  z_let (z_sI μ 0 48 0) (fun m1 => z_let (z_sI m1 0 49 0) (fun m2 => z_let (z_sI m2 0 47 (-1)) (fun m3 => z_bind (f_X9_beginsRoutes n a2 0 m3) (fun p4 => f_X9_findFits_h21 n a1 a2 p4.2))))
set_option maxRecDepth 20000 in
theorem w_X9_findFits_64 {D : va_G} {cI cL : ClassId} {b : Nat} {Z : State → Heap → Prop}  (r21 : Int32 → Int32 → z_M → Option (Unit × z_M)) (hr21 : ∀ (l1 : Int32) (l2 : Int32) (μ : z_M), z_w (zEm D cI cL b Z) (RX9, cX9_findFits, 3, none, 4) z_ev 21 [(0, .ref (b + 0)), (1, .int l1), (2, .int l2)] [] μ ((r21 l1 l2 μ))) (n : Nat) (l1 : Int32) (l2 : Int32) (s0 : Int32) (μ : z_M) : z_w (zEm D cI cL b Z) (RX9, cX9_findFits, 3, none, 4) z_ev 64 [(0, .ref (b + 0)), (1, .int l1), (2, .int l2)] [.int s0, .ref (b + 0)] μ ((f_X9_findFits_b64 r21 n l1 l2 s0 μ)) := by
  unfold f_X9_findFits_b64
  refine z_guardW (fun _ h => z_bool_some h) (fun hb64 => ?_)
  refine zpZ_X9_133 (pc := 64) gm_0 rfl hb64 dX9_findFits_64 ?_
  refine z_letMO (fun m7 => ?_)
  refine z_aload_n (pc := 67) dX9_findFits_67 rfl ?_
  refine zgI_X9_133 (pc := 68) gm_0 rfl dX9_findFits_68 ?_
  refine z_if_ne (pc := 71) (tgt := 21) dX9_findFits_71 (by decide) (fun _ => ?_) (fun _ => ?_)
  · refine z_aload_n (pc := 74) dX9_findFits_74 rfl ?_
    refine zgI_X9_123 (pc := 75) gm_0 rfl dX9_findFits_75 ?_
    refine z_iload_n (pc := 78) dX9_findFits_78 rfl ?_
    refine z_icmp_ge (pc := 79) (tgt := 85) dX9_findFits_79 (by decide) (fun _ => ?_) (fun _ => ?_)
    · refine z_goto (pc := 82) (tgt := 21) dX9_findFits_82 (by decide) ?_
      exact hr21 l1 l2 m7
    · refine z_aload_n (pc := 85) dX9_findFits_85 rfl ?_
      refine z_dup (pc := 86) dX9_findFits_86 rfl ?_
      refine zgI_X9_340 (pc := 87) gm_0 rfl dX9_findFits_87 ?_
      refine z_iconst (pc := 90) dX9_findFits_90 zci_1 ?_
      refine z_iadd (pc := 91) dX9_findFits_91 ?_
      refine zpI_X9_340 (pc := 92) gm_0 rfl dX9_findFits_92 ?_
      refine z_letMO (fun m8 => ?_)
      refine z_aload_n (pc := 95) dX9_findFits_95 rfl ?_
      refine z_dup (pc := 96) dX9_findFits_96 rfl ?_
      refine zgI_X9_343 (pc := 97) gm_0 rfl dX9_findFits_97 ?_
      refine z_iconst (pc := 100) dX9_findFits_100 zci_1 ?_
      refine z_aload_n (pc := 101) dX9_findFits_101 rfl ?_
      refine zgR_X9_41 (pc := 102) gm_0 rfl dX9_findFits_102 ?_
      refine z_aload_n (pc := 105) dX9_findFits_105 rfl ?_
      refine zgI_X9_123 (pc := 106) gm_0 rfl dX9_findFits_106 ?_
      refine z_iald (pc := 109) gm_9 dX9_findFits_109 ?_
      refine z_ishl (pc := 110) dX9_findFits_110 ?_
      refine z_ior (pc := 111) dX9_findFits_111 ?_
      refine zpI_X9_343 (pc := 112) gm_0 rfl dX9_findFits_112 ?_
      refine z_letMO (fun m9 => ?_)
      refine z_aload_n (pc := 115) dX9_findFits_115 rfl ?_
      refine zgI_X9_319 (pc := 116) gm_0 rfl dX9_findFits_116 ?_
      refine z_if_ge (pc := 119) (tgt := 21) dX9_findFits_119 (by decide) (fun _ => ?_) (fun _ => ?_)
      · refine z_aload_n (pc := 122) dX9_findFits_122 rfl ?_
        refine z_bindP (fun p10 hp10 => ?_)
        refine z_callVv (pc := 123) (As := []) (S := []) (c_X9_takesBest n m9) hp10 zw_X9_takesBest zv_X9_takesBest zm_X9_331 (n := 0) (by decide) rfl (z_recv gm_0 (T := TX9) (N := 52) rfl) rfl (Nat.le_of_ble_eq_true rfl) (by decide) (by decide) dX9_findFits_123 ?_
        refine z_goto (pc := 126) (tgt := 21) dX9_findFits_126 (by decide) ?_
        exact hr21 l1 l2 p10.2
      · exact hr21 l1 l2 m9
  · exact hr21 l1 l2 m7

set_option maxRecDepth 20000 in
theorem w_X9_findFits_63 {D : va_G} {cI cL : ClassId} {b : Nat} {Z : State → Heap → Prop}  (r21 : Int32 → Int32 → z_M → Option (Unit × z_M)) (hr21 : ∀ (l1 : Int32) (l2 : Int32) (μ : z_M), z_w (zEm D cI cL b Z) (RX9, cX9_findFits, 3, none, 4) z_ev 21 [(0, .ref (b + 0)), (1, .int l1), (2, .int l2)] [] μ ((r21 l1 l2 μ))) (n : Nat) (l1 : Int32) (l2 : Int32) (μ : z_M) : z_w (zEm D cI cL b Z) (RX9, cX9_findFits, 3, none, 4) z_ev 63 [(0, .ref (b + 0)), (1, .int l1), (2, .int l2)] [.ref (b + 0)] μ ((f_X9_findFits_b63 r21 n l1 l2 μ)) := by
  unfold f_X9_findFits_b63
  refine z_iconst (pc := 63) dX9_findFits_63 zci_0 ?_
  exact w_X9_findFits_64 _ hr21 n l1 l2 0 μ

set_option maxRecDepth 20000 in
theorem w_X9_findFits_21 {D : va_G} {cI cL : ClassId} {b : Nat} {Z : State → Heap → Prop}  : ∀ (n : Nat) (l1 : Int32) (l2 : Int32) (μ : z_M), z_w (zEm D cI cL b Z) (RX9, cX9_findFits, 3, none, 4) z_ev 21 [(0, .ref (b + 0)), (1, .int l1), (2, .int l2)] [] μ (f_X9_findFits_h21 n l1 l2 μ) := by
  intro n
  induction n with
  | zero =>
    intro l1 l2 μ
    exact z_none
  | succ n ih =>
    intro l1 l2 μ
    unfold f_X9_findFits_h21
    refine z_aload_n (pc := 21) dX9_findFits_21 rfl ?_
    refine z_bindP (fun p5 hp5 => ?_)
    refine z_callVi (pc := 22) (As := []) (S := []) (c_X9_hasNext n μ) hp5 zw_X9_hasNext zv_X9_hasNext zm_X9_325 (n := 0) (by decide) rfl (z_recv gm_0 (T := TX9) (N := 52) rfl) rfl (Nat.le_of_ble_eq_true rfl) (by decide) (by decide) dX9_findFits_22 ?_
    refine z_if_eq (pc := 25) (tgt := 129) dX9_findFits_25 (by decide) (fun _ => ?_) (fun _ => ?_)
    · exact z_vret (pc := 129) rfl dX9_findFits_129
    · refine z_aload_n (pc := 28) dX9_findFits_28 rfl ?_
      refine z_aload_n (pc := 29) dX9_findFits_29 rfl ?_
      refine zgI_X9_123 (pc := 30) gm_0 rfl dX9_findFits_30 ?_
      refine z_if_le (pc := 33) (tgt := 63) dX9_findFits_33 (by decide) (fun _ => ?_) (fun _ => ?_)
      · refine z_aload_n (pc := 36) dX9_findFits_36 rfl ?_
        refine zgR_X9_62 (pc := 37) gm_0 rfl dX9_findFits_37 ?_
        refine z_aload_n (pc := 40) dX9_findFits_40 rfl ?_
        refine zgI_X9_123 (pc := 41) gm_0 rfl dX9_findFits_41 ?_
        refine z_iald (pc := 44) gm_16 dX9_findFits_44 ?_
        refine z_aload_n (pc := 45) dX9_findFits_45 rfl ?_
        refine z_iload_n (pc := 46) dX9_findFits_46 rfl ?_
        refine z_aload_n (pc := 47) dX9_findFits_47 rfl ?_
        refine zgI_X9_123 (pc := 48) gm_0 rfl dX9_findFits_48 ?_
        refine z_iconst (pc := 51) dX9_findFits_51 zci_1 ?_
        refine z_isub (pc := 52) dX9_findFits_52 ?_
        refine z_bindP (fun p6 hp6 => ?_)
        refine z_callVi (pc := 53) (As := [.int l1, .int ((p5.2.1 0 26) - 1)]) (S := [.int (p5.2.1 16 (z_ix (p5.2.1 0 26))), .ref (b + 0)]) (c_X9_intAt l1 ((p5.2.1 0 26) - 1) p5.2) hp6 zw_X9_intAt zv_X9_intAt zm_X9_208 (n := 2) (by decide) rfl (z_recv gm_0 (T := TX9) (N := 52) rfl) rfl (Nat.le_of_ble_eq_true rfl) (by decide) (by decide) dX9_findFits_53 ?_
        refine z_icmp_eq (pc := 56) (tgt := 63) dX9_findFits_56 (by decide) (fun _ => ?_) (fun _ => ?_)
        · exact w_X9_findFits_63 _ ih n l1 l2 p6.2
        · refine z_iconst (pc := 59) dX9_findFits_59 zci_1 ?_
          refine z_goto (pc := 60) (tgt := 64) dX9_findFits_60 (by decide) ?_
          exact w_X9_findFits_64 _ ih n l1 l2 1 p6.2
      · exact w_X9_findFits_63 _ ih n l1 l2 p5.2

set_option maxRecDepth 20000 in
theorem w_X9_findFits_0 {D : va_G} {cI cL : ClassId} {b : Nat} {Z : State → Heap → Prop}  (n : Nat) (a1 : Int32) (a2 : Int32) (μ : z_M) : z_w (zEm D cI cL b Z) (RX9, cX9_findFits, 3, none, 4) z_ev 0 [(0, .ref (b + 0)), (1, .int a1), (2, .int a2)] [] μ ((f_X9_findFits n a1 a2 μ)) := by
  unfold f_X9_findFits
  refine z_aload_n (pc := 0) dX9_findFits_0 rfl ?_
  refine z_iconst (pc := 1) dX9_findFits_1 zci_0 ?_
  refine zpI_X9_340 (pc := 2) gm_0 rfl dX9_findFits_2 ?_
  refine z_letMO (fun m1 => ?_)
  refine z_aload_n (pc := 5) dX9_findFits_5 rfl ?_
  refine z_iconst (pc := 6) dX9_findFits_6 zci_0 ?_
  refine zpI_X9_343 (pc := 7) gm_0 rfl dX9_findFits_7 ?_
  refine z_letMO (fun m2 => ?_)
  refine z_aload_n (pc := 10) dX9_findFits_10 rfl ?_
  refine z_iconst (pc := 11) dX9_findFits_11 zci_m1 ?_
  refine zpI_X9_319 (pc := 12) gm_0 rfl dX9_findFits_12 ?_
  refine z_letMO (fun m3 => ?_)
  refine z_aload_n (pc := 15) dX9_findFits_15 rfl ?_
  refine z_iload_n (pc := 16) dX9_findFits_16 rfl ?_
  refine z_iconst (pc := 17) dX9_findFits_17 zci_0 ?_
  refine z_bindP (fun p4 hp4 => ?_)
  refine z_callVv (pc := 18) (As := [.int a2, .int 0]) (S := []) (c_X9_beginsRoutes n a2 0 m3) hp4 zw_X9_beginsRoutes zv_X9_beginsRoutes zm_X9_322 (n := 2) (by decide) rfl (z_recv gm_0 (T := TX9) (N := 52) rfl) rfl (Nat.le_of_ble_eq_true rfl) (by decide) (by decide) dX9_findFits_18 ?_
  exact w_X9_findFits_21 n a1 a2 p4.2

set_option maxRecDepth 20000 in
theorem c_X9_findFits {D : va_G} {cI cL : ClassId} {b : Nat} {Z : State → Heap → Prop}  (n : Nat) (a1 : Int32) (a2 : Int32) (μ : z_M) : z_S (zEm D cI cL b Z) 4 yX9_findFits cX9_findFits 3 none z_ev [.ref (b + 0), .int a1, .int a2] μ ((f_X9_findFits n a1 a2 μ)) :=
  z_entry (yn := yX9_findFits) (by decide) (Nat.le_of_ble_eq_true rfl) rfl (w_X9_findFits_0 n a1 a2 μ)

def f_X9_fits (n : Nat) (a1 : Int32) (a2 : Int32) (μ : z_M) : Option (Int32 × z_M) :=
  z_bind (f_X9_notRoute a1 a2 6 μ) (fun p1 => if p1.1 = 0 then (z_bind (f_X9_findFits n a1 a2 p1.2) (fun p2 => some ((p2.2.1 0 48), p2.2))) else (z_bind (f_X9_no p1.1 p1.2) (fun p3 => some (p3.1, p3.2))))
set_option maxRecDepth 20000 in
theorem w_X9_fits_0 {D : va_G} {cI cL : ClassId} {b : Nat} {Z : State → Heap → Prop}  (n : Nat) (a1 : Int32) (a2 : Int32) (μ : z_M) : z_w (zEm D cI cL b Z) (RX9, cX9_fits, 4, (some .int), 5) z_ei 0 [(0, .ref (b + 0)), (1, .int a1), (2, .int a2)] [] μ ((f_X9_fits n a1 a2 μ)) := by
  unfold f_X9_fits
  refine z_aload_n (pc := 0) dX9_fits_0 rfl ?_
  refine z_iload_n (pc := 1) dX9_fits_1 rfl ?_
  refine z_iload_n (pc := 2) dX9_fits_2 rfl ?_
  refine z_bipush (pc := 3) dX9_fits_3 zcb_6 ?_
  refine z_bindP (fun p1 hp1 => ?_)
  refine z_callVi (pc := 5) (As := [.int a1, .int a2, .int 6]) (S := []) (c_X9_notRoute a1 a2 6 μ) hp1 zw_X9_notRoute zv_X9_notRoute zm_X9_310 (n := 3) (by decide) rfl (z_recv gm_0 (T := TX9) (N := 52) rfl) rfl (Nat.le_of_ble_eq_true rfl) (by decide) (by decide) dX9_fits_5 ?_
  refine z_istore_n (pc := 8) (L' := [(0, .ref (b + 0)), (1, .int a1), (2, .int a2), (3, .int p1.1)]) dX9_fits_8 (by decide) rfl ?_
  refine z_iload_n (pc := 9) dX9_fits_9 rfl ?_
  refine z_if_eq (pc := 10) (tgt := 19) dX9_fits_10 (by decide) (fun _ => ?_) (fun _ => ?_)
  · refine z_aload_n (pc := 19) dX9_fits_19 rfl ?_
    refine z_iload_n (pc := 20) dX9_fits_20 rfl ?_
    refine z_iload_n (pc := 21) dX9_fits_21 rfl ?_
    refine z_bindP (fun p2 hp2 => ?_)
    refine z_callVv (pc := 22) (As := [.int a1, .int a2]) (S := []) (c_X9_findFits n a1 a2 p1.2) hp2 zw_X9_findFits zv_X9_findFits zm_X9_346 (n := 2) (by decide) rfl (z_recv gm_0 (T := TX9) (N := 52) rfl) rfl (Nat.le_of_ble_eq_true rfl) (by decide) (by decide) dX9_fits_22 ?_
    refine z_aload_n (pc := 25) dX9_fits_25 rfl ?_
    refine zgI_X9_340 (pc := 26) gm_0 rfl dX9_fits_26 ?_
    exact z_iret (pc := 29) rfl dX9_fits_29
  · refine z_aload_n (pc := 13) dX9_fits_13 rfl ?_
    refine z_iload_n (pc := 14) dX9_fits_14 rfl ?_
    refine z_bindP (fun p3 hp3 => ?_)
    refine z_callVi (pc := 15) (As := [.int p1.1]) (S := []) (c_X9_no p1.1 p1.2) hp3 zw_X9_no zv_X9_no zm_X9_171 (n := 1) (by decide) rfl (z_recv gm_0 (T := TX9) (N := 52) rfl) rfl (Nat.le_of_ble_eq_true rfl) (by decide) (by decide) dX9_fits_15 ?_
    exact z_iret (pc := 18) rfl dX9_fits_18

set_option maxRecDepth 20000 in
theorem c_X9_fits {D : va_G} {cI cL : ClassId} {b : Nat} {Z : State → Heap → Prop}  (n : Nat) (a1 : Int32) (a2 : Int32) (μ : z_M) : z_S (zEm D cI cL b Z) 5 yX9_fits cX9_fits 4 (some .int) z_ei [.ref (b + 0), .int a1, .int a2] μ ((f_X9_fits n a1 a2 μ)) :=
  z_entry (yn := yX9_fits) (by decide) (Nat.le_of_ble_eq_true rfl) rfl (w_X9_fits_0 n a1 a2 μ)

def f_X9_from_b69 (n : Nat) (l1 : Int32) (l2 : Int32) (l3 : Int32) (l4 : Int32) (μ : z_M) : Option (Int32 × z_M) :=
  if l4 = 0 then (z_bind (f_X9_findFits n l1 l2 μ) (fun p2 => if l3 = (-1) then (some ((p2.2.1 0 49), p2.2)) else (if (p2.2.1 0 47) < 0 then (z_bind (f_X9_no (-5) p2.2) (fun p3 => some (p3.1, p3.2))) else (z_chk l3 6 (some ((p2.2.1 25 (z_ix l3)), p2.2)))))) else (z_bind (f_X9_no l4 μ) (fun p4 => some (p4.1, p4.2)))
def f_X9_from_b67 (n : Nat) (l1 : Int32) (l2 : Int32) (l3 : Int32) (s0 : Int32) (μ : z_M) : Option (Int32 × z_M) :=
  f_X9_from_b69 n l1 l2 l3 s0 μ
def f_X9_from_b41 (n : Nat) (l1 : Int32) (l2 : Int32) (l3 : Int32) (μ : z_M) : Option (Int32 × z_M) :=
  f_X9_from_b67 n l1 l2 l3 (-5) μ
def f_X9_from_b61 (n : Nat) (l1 : Int32) (l2 : Int32) (l3 : Int32) (μ : z_M) : Option (Int32 × z_M) :=
  f_X9_from_b67 n l1 l2 l3 (-6) μ
def f_X9_from (n : Nat) (a1 : Int32) (a2 : Int32) (a3 : Int32) (μ : z_M) : Option (Int32 × z_M) :=
  z_bind (f_X9_notRow a1 μ) (fun p1 => if p1.1 = 0 then (if a2 < 0 then (f_X9_from_b67 n a1 a2 a3 (-4) p1.2) else (z_chk a1 8 (if (p1.2.1 20 (z_ix a1)) < a2 then (f_X9_from_b41 n a1 a2 a3 p1.2) else (if a3 < (-1) then (f_X9_from_b41 n a1 a2 a3 p1.2) else (if a3 < a2 then (if (6 : Int32) < a2 then (f_X9_from_b61 n a1 a2 a3 p1.2) else (if (p1.2.1 9 (z_ix 0)) < 0 then (f_X9_from_b61 n a1 a2 a3 p1.2) else (f_X9_from_b67 n a1 a2 a3 0 p1.2))) else (f_X9_from_b41 n a1 a2 a3 p1.2)))))) else (f_X9_from_b69 n a1 a2 a3 p1.1 p1.2))
set_option maxRecDepth 20000 in
theorem w_X9_from_69 {D : va_G} {cI cL : ClassId} {b : Nat} {Z : State → Heap → Prop}  (n : Nat) (l1 : Int32) (l2 : Int32) (l3 : Int32) (l4 : Int32) (μ : z_M) : z_w (zEm D cI cL b Z) (RX9, cX9_from, 5, (some .int), 5) z_ei 69 [(0, .ref (b + 0)), (1, .int l1), (2, .int l2), (3, .int l3), (4, .int l4)] [] μ ((f_X9_from_b69 n l1 l2 l3 l4 μ)) := by
  unfold f_X9_from_b69
  refine z_iload (pc := 69) dX9_from_69 rfl ?_
  refine z_if_eq (pc := 71) (tgt := 81) dX9_from_71 (by decide) (fun _ => ?_) (fun _ => ?_)
  · refine z_aload_n (pc := 81) dX9_from_81 rfl ?_
    refine z_iload_n (pc := 82) dX9_from_82 rfl ?_
    refine z_iload_n (pc := 83) dX9_from_83 rfl ?_
    refine z_bindP (fun p2 hp2 => ?_)
    refine z_callVv (pc := 84) (As := [.int l1, .int l2]) (S := []) (c_X9_findFits n l1 l2 μ) hp2 zw_X9_findFits zv_X9_findFits zm_X9_346 (n := 2) (by decide) rfl (z_recv gm_0 (T := TX9) (N := 52) rfl) rfl (Nat.le_of_ble_eq_true rfl) (by decide) (by decide) dX9_from_84 ?_
    refine z_iload_n (pc := 87) dX9_from_87 rfl ?_
    refine z_iconst (pc := 88) dX9_from_88 zci_m1 ?_
    refine z_icmp_ne (pc := 89) (tgt := 97) dX9_from_89 (by decide) (fun _ => ?_) (fun _ => ?_)
    · refine z_aload_n (pc := 92) dX9_from_92 rfl ?_
      refine zgI_X9_343 (pc := 93) gm_0 rfl dX9_from_93 ?_
      exact z_iret (pc := 96) rfl dX9_from_96
    · refine z_aload_n (pc := 97) dX9_from_97 rfl ?_
      refine zgI_X9_319 (pc := 98) gm_0 rfl dX9_from_98 ?_
      refine z_if_ge (pc := 101) (tgt := 113) dX9_from_101 (by decide) (fun _ => ?_) (fun _ => ?_)
      · refine z_aload_n (pc := 104) dX9_from_104 rfl ?_
        refine z_bipush (pc := 105) dX9_from_105 zcb_m5 ?_
        refine z_bindP (fun p3 hp3 => ?_)
        refine z_callVi (pc := 107) (As := [.int (-5)]) (S := []) (c_X9_no (-5) p2.2) hp3 zw_X9_no zv_X9_no zm_X9_171 (n := 1) (by decide) rfl (z_recv gm_0 (T := TX9) (N := 52) rfl) rfl (Nat.le_of_ble_eq_true rfl) (by decide) (by decide) dX9_from_107 ?_
        refine z_goto (pc := 110) (tgt := 119) dX9_from_110 (by decide) ?_
        exact z_iret (pc := 119) rfl dX9_from_119
      · refine z_aload_n (pc := 113) dX9_from_113 rfl ?_
        refine zgR_X9_96 (pc := 114) gm_0 rfl dX9_from_114 ?_
        refine z_iload_n (pc := 117) dX9_from_117 rfl ?_
        refine z_iald (pc := 118) gm_25 dX9_from_118 ?_
        exact z_iret (pc := 119) rfl dX9_from_119
  · refine z_aload_n (pc := 74) dX9_from_74 rfl ?_
    refine z_iload (pc := 75) dX9_from_75 rfl ?_
    refine z_bindP (fun p4 hp4 => ?_)
    refine z_callVi (pc := 77) (As := [.int l4]) (S := []) (c_X9_no l4 μ) hp4 zw_X9_no zv_X9_no zm_X9_171 (n := 1) (by decide) rfl (z_recv gm_0 (T := TX9) (N := 52) rfl) rfl (Nat.le_of_ble_eq_true rfl) (by decide) (by decide) dX9_from_77 ?_
    exact z_iret (pc := 80) rfl dX9_from_80

set_option maxRecDepth 20000 in
theorem w_X9_from_67 {D : va_G} {cI cL : ClassId} {b : Nat} {Z : State → Heap → Prop}  (n : Nat) (l1 : Int32) (l2 : Int32) (l3 : Int32) (s0 : Int32) (μ : z_M) : z_w (zEm D cI cL b Z) (RX9, cX9_from, 5, (some .int), 5) z_ei 67 [(0, .ref (b + 0)), (1, .int l1), (2, .int l2), (3, .int l3)] [.int s0] μ ((f_X9_from_b67 n l1 l2 l3 s0 μ)) := by
  unfold f_X9_from_b67
  refine z_istore (pc := 67) (L' := [(0, .ref (b + 0)), (1, .int l1), (2, .int l2), (3, .int l3), (4, .int s0)]) dX9_from_67 (by decide) rfl ?_
  exact w_X9_from_69 n l1 l2 l3 s0 μ

set_option maxRecDepth 20000 in
theorem w_X9_from_41 {D : va_G} {cI cL : ClassId} {b : Nat} {Z : State → Heap → Prop}  (n : Nat) (l1 : Int32) (l2 : Int32) (l3 : Int32) (μ : z_M) : z_w (zEm D cI cL b Z) (RX9, cX9_from, 5, (some .int), 5) z_ei 41 [(0, .ref (b + 0)), (1, .int l1), (2, .int l2), (3, .int l3)] [] μ ((f_X9_from_b41 n l1 l2 l3 μ)) := by
  unfold f_X9_from_b41
  refine z_bipush (pc := 41) dX9_from_41 zcb_m5 ?_
  refine z_goto (pc := 43) (tgt := 67) dX9_from_43 (by decide) ?_
  exact w_X9_from_67 n l1 l2 l3 (-5) μ

set_option maxRecDepth 20000 in
theorem w_X9_from_61 {D : va_G} {cI cL : ClassId} {b : Nat} {Z : State → Heap → Prop}  (n : Nat) (l1 : Int32) (l2 : Int32) (l3 : Int32) (μ : z_M) : z_w (zEm D cI cL b Z) (RX9, cX9_from, 5, (some .int), 5) z_ei 61 [(0, .ref (b + 0)), (1, .int l1), (2, .int l2), (3, .int l3)] [] μ ((f_X9_from_b61 n l1 l2 l3 μ)) := by
  unfold f_X9_from_b61
  refine z_bipush (pc := 61) dX9_from_61 zcb_m6 ?_
  refine z_goto (pc := 63) (tgt := 67) dX9_from_63 (by decide) ?_
  exact w_X9_from_67 n l1 l2 l3 (-6) μ

set_option maxRecDepth 20000 in
theorem w_X9_from_0 {D : va_G} {cI cL : ClassId} {b : Nat} {Z : State → Heap → Prop}  (n : Nat) (a1 : Int32) (a2 : Int32) (a3 : Int32) (μ : z_M) : z_w (zEm D cI cL b Z) (RX9, cX9_from, 5, (some .int), 5) z_ei 0 [(0, .ref (b + 0)), (1, .int a1), (2, .int a2), (3, .int a3)] [] μ ((f_X9_from n a1 a2 a3 μ)) := by
  unfold f_X9_from
  refine z_aload_n (pc := 0) dX9_from_0 rfl ?_
  refine z_iload_n (pc := 1) dX9_from_1 rfl ?_
  refine z_bindP (fun p1 hp1 => ?_)
  refine z_callVi (pc := 2) (As := [.int a1]) (S := []) (c_X9_notRow a1 μ) hp1 zw_X9_notRow zv_X9_notRow zm_X9_174 (n := 1) (by decide) rfl (z_recv gm_0 (T := TX9) (N := 52) rfl) rfl (Nat.le_of_ble_eq_true rfl) (by decide) (by decide) dX9_from_2 ?_
  refine z_istore (pc := 5) (L' := [(0, .ref (b + 0)), (1, .int a1), (2, .int a2), (3, .int a3), (4, .int p1.1)]) dX9_from_5 (by decide) rfl ?_
  refine z_iload (pc := 7) dX9_from_7 rfl ?_
  refine z_if_ne (pc := 9) (tgt := 69) dX9_from_9 (by decide) (fun _ => ?_) (fun _ => ?_)
  · refine z_iload_n (pc := 12) dX9_from_12 rfl ?_
    refine z_if_ge (pc := 13) (tgt := 21) dX9_from_13 (by decide) (fun _ => ?_) (fun _ => ?_)
    · refine z_bipush (pc := 16) dX9_from_16 zcb_m4 ?_
      refine z_goto (pc := 18) (tgt := 67) dX9_from_18 (by decide) ?_
      refine z_drop (L' := [(0, .ref (b + 0)), (1, .int a1), (2, .int a2), (3, .int a3)]) [0, 1, 2, 3] rfl ?_
      exact w_X9_from_67 n a1 a2 a3 (-4) p1.2
    · refine z_iload_n (pc := 21) dX9_from_21 rfl ?_
      refine z_aload_n (pc := 22) dX9_from_22 rfl ?_
      refine zgR_X9_78 (pc := 23) gm_0 rfl dX9_from_23 ?_
      refine z_iload_n (pc := 26) dX9_from_26 rfl ?_
      refine z_iald (pc := 27) gm_20 dX9_from_27 ?_
      refine z_icmp_gt (pc := 28) (tgt := 41) dX9_from_28 (by decide) (fun _ => ?_) (fun _ => ?_)
      · refine z_drop (L' := [(0, .ref (b + 0)), (1, .int a1), (2, .int a2), (3, .int a3)]) [0, 1, 2, 3] rfl ?_
        exact w_X9_from_41 n a1 a2 a3 p1.2
      · refine z_iload_n (pc := 31) dX9_from_31 rfl ?_
        refine z_iconst (pc := 32) dX9_from_32 zci_m1 ?_
        refine z_icmp_lt (pc := 33) (tgt := 41) dX9_from_33 (by decide) (fun _ => ?_) (fun _ => ?_)
        · refine z_drop (L' := [(0, .ref (b + 0)), (1, .int a1), (2, .int a2), (3, .int a3)]) [0, 1, 2, 3] rfl ?_
          exact w_X9_from_41 n a1 a2 a3 p1.2
        · refine z_iload_n (pc := 36) dX9_from_36 rfl ?_
          refine z_iload_n (pc := 37) dX9_from_37 rfl ?_
          refine z_icmp_lt (pc := 38) (tgt := 46) dX9_from_38 (by decide) (fun _ => ?_) (fun _ => ?_)
          · refine z_iload_n (pc := 46) dX9_from_46 rfl ?_
            refine z_bipush (pc := 47) dX9_from_47 zcb_6 ?_
            refine z_icmp_gt (pc := 49) (tgt := 61) dX9_from_49 (by decide) (fun _ => ?_) (fun _ => ?_)
            · refine z_drop (L' := [(0, .ref (b + 0)), (1, .int a1), (2, .int a2), (3, .int a3)]) [0, 1, 2, 3] rfl ?_
              exact w_X9_from_61 n a1 a2 a3 p1.2
            · refine z_aload_n (pc := 52) dX9_from_52 rfl ?_
              refine zgR_X9_41 (pc := 53) gm_0 rfl dX9_from_53 ?_
              refine z_iconst (pc := 56) dX9_from_56 zci_0 ?_
              refine z_ialdK (pc := 57) gm_9 (by decide) dX9_from_57 ?_
              refine z_if_ge (pc := 58) (tgt := 66) dX9_from_58 (by decide) (fun _ => ?_) (fun _ => ?_)
              · refine z_drop (L' := [(0, .ref (b + 0)), (1, .int a1), (2, .int a2), (3, .int a3)]) [0, 1, 2, 3] rfl ?_
                exact w_X9_from_61 n a1 a2 a3 p1.2
              · refine z_iconst (pc := 66) dX9_from_66 zci_0 ?_
                refine z_drop (L' := [(0, .ref (b + 0)), (1, .int a1), (2, .int a2), (3, .int a3)]) [0, 1, 2, 3] rfl ?_
                exact w_X9_from_67 n a1 a2 a3 0 p1.2
          · refine z_drop (L' := [(0, .ref (b + 0)), (1, .int a1), (2, .int a2), (3, .int a3)]) [0, 1, 2, 3] rfl ?_
            exact w_X9_from_41 n a1 a2 a3 p1.2
  · exact w_X9_from_69 n a1 a2 a3 p1.1 p1.2

set_option maxRecDepth 20000 in
theorem c_X9_from {D : va_G} {cI cL : ClassId} {b : Nat} {Z : State → Heap → Prop}  (n : Nat) (a1 : Int32) (a2 : Int32) (a3 : Int32) (μ : z_M) : z_S (zEm D cI cL b Z) 5 yX9_from cX9_from 5 (some .int) z_ei [.ref (b + 0), .int a1, .int a2, .int a3] μ ((f_X9_from n a1 a2 a3 μ)) :=
  z_entry (yn := yX9_from) (by decide) (Nat.le_of_ble_eq_true rfl) rfl (w_X9_from_0 n a1 a2 a3 μ)

def f_X9_odds_b40 (n : Nat)  (μ : z_M) : Option (Int64 × z_M) :=
  z_bind (f_X9_no (-6) μ) (fun p2 => some ((Int32.toInt64 p2.1), p2.2))
def f_X9_odds_h129 (r57 : Int32 → Int32 → Int32 → Int64 → z_M → Option (Int64 × z_M)) : Nat → Int32 → Int32 → Int32 → Int64 → Int64 → Int32 → z_M → Option (Int64 × z_M)
  | 0, _, _, _, _, _, _, _ => none
  | n + 1, l1, l2, l3, l4, l6, l8, μ =>
    if l8 < l3 then (z_let ((l6 * 27720) : Int64) (fun x8 => f_X9_odds_h129 r57 n l1 l2 l3 l4 x8 (l8 + 1) μ)) else (z_let ((l4 + l6) : Int64) (fun x9 => r57 l1 l2 l3 x9 μ))
def f_X9_odds_b88 (r57 : Int32 → Int32 → Int32 → Int64 → z_M → Option (Int64 × z_M)) (n : Nat) (l1 : Int32) (l2 : Int32) (l3 : Int32) (l4 : Int64) (μ : z_M) : Option (Int64 × z_M) :=
  z_chk ((8 * (μ.1 0 26)) + l1) 72 (if (l2 &&& ((μ.1 12 (z_ix ((8 * (μ.1 0 26)) + l1))) ^^^ (-1))) = 0 then (z_chk (μ.1 0 26) 9 (z_let ((μ.2 17 (z_ix (μ.1 0 26))) : Int64) (fun x6 => z_let ((μ.1 0 26) : Int32) (fun x7 => f_X9_odds_h129 r57 n l1 l2 l3 l4 x6 x7 μ)))) else (r57 l1 l2 l3 l4 μ))
def f_X9_odds_h57 : Nat → Int32 → Int32 → Int32 → Int64 → z_M → Option (Int64 × z_M)
  | 0, _, _, _, _, _ => none
  | n + 1, l1, l2, l3, l4, μ =>
    z_bind (f_X9_hasNext n μ) (fun p4 => if p4.1 = 0 then (some (l4, p4.2)) else (if (p4.2.1 0 26) < l3 then (z_chk (p4.2.1 0 26) 9 (z_bind (f_X9_openAt n (p4.2.1 9 (z_ix (p4.2.1 0 26))) p4.2) (fun p5 => if (0 : Int32) < p5.1 then (f_X9_odds_h57 n l1 l2 l3 l4 p5.2) else (f_X9_odds_b88 (f_X9_odds_h57 n) n l1 l2 l3 l4 p5.2)))) else (f_X9_odds_b88 (f_X9_odds_h57 n) n l1 l2 l3 l4 p4.2)))
def f_X9_odds (n : Nat) (a1 : Int32) (a2 : Int32) (a3 : Int32) (μ : z_M) : Option (Int64 × z_M) :=
  if (f_X9_isHouse a1 μ) = 0 then (z_bind (f_X9_no (-1) μ) (fun p1 => some ((Int32.toInt64 p1.1), p1.2))) else (if (f_X9_isSet a2 μ) = 0 then (f_X9_odds_b40 n μ) else (if (f_X9_isIn a3 1 4 μ) = 0 then (f_X9_odds_b40 n μ) else (if (μ.1 9 (z_ix 0)) < 0 then (f_X9_odds_b40 n μ) else (z_bind (f_X9_beginsRoutes n a3 1 μ) (fun p3 => f_X9_odds_h57 n a1 a2 a3 0 p3.2)))))
set_option maxRecDepth 20000 in
theorem w_X9_odds_40 {D : va_G} {cI cL : ClassId} {b : Nat} {Z : State → Heap → Prop}  (n : Nat)  (μ : z_M) : z_w (zEm D cI cL b Z) (RX9, cX9_odds, 9, (some .long), 4) z_el 40 [(0, .ref (b + 0))] [] μ ((f_X9_odds_b40 n μ)) := by
  unfold f_X9_odds_b40
  refine z_aload_n (pc := 40) dX9_odds_40 rfl ?_
  refine z_bipush (pc := 41) dX9_odds_41 zcb_m6 ?_
  refine z_bindP (fun p2 hp2 => ?_)
  refine z_callVi (pc := 43) (As := [.int (-6)]) (S := []) (c_X9_no (-6) μ) hp2 zw_X9_no zv_X9_no zm_X9_171 (n := 1) (by decide) rfl (z_recv gm_0 (T := TX9) (N := 52) rfl) rfl (Nat.le_of_ble_eq_true rfl) (by decide) (by decide) dX9_odds_43 ?_
  refine z_i2l (pc := 46) dX9_odds_46 ?_
  exact z_lret (pc := 47) rfl dX9_odds_47

set_option maxRecDepth 20000 in
theorem w_X9_odds_129 {D : va_G} {cI cL : ClassId} {b : Nat} {Z : State → Heap → Prop}  (r57 : Int32 → Int32 → Int32 → Int64 → z_M → Option (Int64 × z_M)) (hr57 : ∀ (l1 : Int32) (l2 : Int32) (l3 : Int32) (l4 : Int64) (μ : z_M), z_w (zEm D cI cL b Z) (RX9, cX9_odds, 9, (some .long), 4) z_el 57 [(0, .ref (b + 0)), (1, .int l1), (2, .int l2), (3, .int l3), (4, .long l4)] [] μ ((r57 l1 l2 l3 l4 μ))) : ∀ (n : Nat) (l1 : Int32) (l2 : Int32) (l3 : Int32) (l4 : Int64) (l6 : Int64) (l8 : Int32) (μ : z_M), z_w (zEm D cI cL b Z) (RX9, cX9_odds, 9, (some .long), 4) z_el 129 [(0, .ref (b + 0)), (1, .int l1), (2, .int l2), (3, .int l3), (4, .long l4), (6, .long l6), (8, .int l8)] [] μ (f_X9_odds_h129 r57 n l1 l2 l3 l4 l6 l8 μ) := by
  intro n
  induction n with
  | zero =>
    intro l1 l2 l3 l4 l6 l8 μ
    exact z_none
  | succ n ih =>
    intro l1 l2 l3 l4 l6 l8 μ
    unfold f_X9_odds_h129
    refine z_iload (pc := 129) dX9_odds_129 rfl ?_
    refine z_iload_n (pc := 131) dX9_odds_131 rfl ?_
    refine z_icmp_ge (pc := 132) (tgt := 149) dX9_odds_132 (by decide) (fun _ => ?_) (fun _ => ?_)
    · refine z_lload (pc := 135) dX9_odds_135 rfl ?_
      refine z_ldc2 (pc := 137) dX9_odds_137 zc_X9_156 ?_
      refine z_lmul (pc := 140) dX9_odds_140 ?_
      refine z_letJO (fun x8 => ?_)
      refine z_lstore (pc := 141) (L' := [(0, .ref (b + 0)), (1, .int l1), (2, .int l2), (3, .int l3), (4, .long l4), (6, .long x8), (8, .int l8)]) dX9_odds_141 (by decide) rfl ?_
      refine z_iinc (pc := 143) (v := (l8 + 1)) (L' := [(0, .ref (b + 0)), (1, .int l1), (2, .int l2), (3, .int l3), (4, .long l4), (6, .long x8), (8, .int (l8 + 1))]) dX9_odds_143 rfl (by decide) rfl rfl ?_
      refine z_goto (pc := 146) (tgt := 129) dX9_odds_146 (by decide) ?_
      exact ih l1 l2 l3 l4 x8 (l8 + 1) μ
    · refine z_lload (pc := 149) dX9_odds_149 rfl ?_
      refine z_lload (pc := 151) dX9_odds_151 rfl ?_
      refine z_ladd (pc := 153) dX9_odds_153 ?_
      refine z_letJO (fun x9 => ?_)
      refine z_lstore (pc := 154) (L' := [(0, .ref (b + 0)), (1, .int l1), (2, .int l2), (3, .int l3), (4, .long x9), (6, .long l6), (8, .int l8)]) dX9_odds_154 (by decide) rfl ?_
      refine z_goto (pc := 156) (tgt := 57) dX9_odds_156 (by decide) ?_
      refine z_drop (L' := [(0, .ref (b + 0)), (1, .int l1), (2, .int l2), (3, .int l3), (4, .long x9)]) [0, 1, 2, 3, 4] rfl ?_
      exact hr57 l1 l2 l3 x9 μ

set_option maxRecDepth 20000 in
theorem w_X9_odds_88 {D : va_G} {cI cL : ClassId} {b : Nat} {Z : State → Heap → Prop}  (r57 : Int32 → Int32 → Int32 → Int64 → z_M → Option (Int64 × z_M)) (hr57 : ∀ (l1 : Int32) (l2 : Int32) (l3 : Int32) (l4 : Int64) (μ : z_M), z_w (zEm D cI cL b Z) (RX9, cX9_odds, 9, (some .long), 4) z_el 57 [(0, .ref (b + 0)), (1, .int l1), (2, .int l2), (3, .int l3), (4, .long l4)] [] μ ((r57 l1 l2 l3 l4 μ))) (n : Nat) (l1 : Int32) (l2 : Int32) (l3 : Int32) (l4 : Int64) (μ : z_M) : z_w (zEm D cI cL b Z) (RX9, cX9_odds, 9, (some .long), 4) z_el 88 [(0, .ref (b + 0)), (1, .int l1), (2, .int l2), (3, .int l3), (4, .long l4)] [] μ ((f_X9_odds_b88 r57 n l1 l2 l3 l4 μ)) := by
  unfold f_X9_odds_b88
  refine z_iload_n (pc := 88) dX9_odds_88 rfl ?_
  refine z_aload_n (pc := 89) dX9_odds_89 rfl ?_
  refine zgR_X9_50 (pc := 90) gm_0 rfl dX9_odds_90 ?_
  refine z_bipush (pc := 93) dX9_odds_93 zcb_8 ?_
  refine z_aload_n (pc := 95) dX9_odds_95 rfl ?_
  refine zgI_X9_123 (pc := 96) gm_0 rfl dX9_odds_96 ?_
  refine z_imul (pc := 99) dX9_odds_99 ?_
  refine z_iload_n (pc := 100) dX9_odds_100 rfl ?_
  refine z_iadd (pc := 101) dX9_odds_101 ?_
  refine z_iald (pc := 102) gm_12 dX9_odds_102 ?_
  refine z_iconst (pc := 103) dX9_odds_103 zci_m1 ?_
  refine z_ixor (pc := 104) dX9_odds_104 ?_
  refine z_iand (pc := 105) dX9_odds_105 ?_
  refine z_if_eq (pc := 106) (tgt := 112) dX9_odds_106 (by decide) (fun _ => ?_) (fun _ => ?_)
  · refine z_aload_n (pc := 112) dX9_odds_112 rfl ?_
    refine zgR_X9_65 (pc := 113) gm_0 rfl dX9_odds_113 ?_
    refine z_aload_n (pc := 116) dX9_odds_116 rfl ?_
    refine zgI_X9_123 (pc := 117) gm_0 rfl dX9_odds_117 ?_
    refine z_lald (pc := 120) gm_17 dX9_odds_120 ?_
    refine z_letJO (fun x6 => ?_)
    refine z_lstore (pc := 121) (L' := [(0, .ref (b + 0)), (1, .int l1), (2, .int l2), (3, .int l3), (4, .long l4), (6, .long x6)]) dX9_odds_121 (by decide) rfl ?_
    refine z_aload_n (pc := 123) dX9_odds_123 rfl ?_
    refine zgI_X9_123 (pc := 124) gm_0 rfl dX9_odds_124 ?_
    refine z_letIO (fun x7 => ?_)
    refine z_istore (pc := 127) (L' := [(0, .ref (b + 0)), (1, .int l1), (2, .int l2), (3, .int l3), (4, .long l4), (6, .long x6), (8, .int x7)]) dX9_odds_127 (by decide) rfl ?_
    exact w_X9_odds_129 _ hr57 n l1 l2 l3 l4 x6 x7 μ
  · refine z_goto (pc := 109) (tgt := 57) dX9_odds_109 (by decide) ?_
    exact hr57 l1 l2 l3 l4 μ

set_option maxRecDepth 20000 in
theorem w_X9_odds_57 {D : va_G} {cI cL : ClassId} {b : Nat} {Z : State → Heap → Prop}  : ∀ (n : Nat) (l1 : Int32) (l2 : Int32) (l3 : Int32) (l4 : Int64) (μ : z_M), z_w (zEm D cI cL b Z) (RX9, cX9_odds, 9, (some .long), 4) z_el 57 [(0, .ref (b + 0)), (1, .int l1), (2, .int l2), (3, .int l3), (4, .long l4)] [] μ (f_X9_odds_h57 n l1 l2 l3 l4 μ) := by
  intro n
  induction n with
  | zero =>
    intro l1 l2 l3 l4 μ
    exact z_none
  | succ n ih =>
    intro l1 l2 l3 l4 μ
    unfold f_X9_odds_h57
    refine z_aload_n (pc := 57) dX9_odds_57 rfl ?_
    refine z_bindP (fun p4 hp4 => ?_)
    refine z_callVi (pc := 58) (As := []) (S := []) (c_X9_hasNext n μ) hp4 zw_X9_hasNext zv_X9_hasNext zm_X9_325 (n := 0) (by decide) rfl (z_recv gm_0 (T := TX9) (N := 52) rfl) rfl (Nat.le_of_ble_eq_true rfl) (by decide) (by decide) dX9_odds_58 ?_
    refine z_if_eq (pc := 61) (tgt := 159) dX9_odds_61 (by decide) (fun _ => ?_) (fun _ => ?_)
    · refine z_lload (pc := 159) dX9_odds_159 rfl ?_
      exact z_lret (pc := 161) rfl dX9_odds_161
    · refine z_aload_n (pc := 64) dX9_odds_64 rfl ?_
      refine zgI_X9_123 (pc := 65) gm_0 rfl dX9_odds_65 ?_
      refine z_iload_n (pc := 68) dX9_odds_68 rfl ?_
      refine z_icmp_ge (pc := 69) (tgt := 88) dX9_odds_69 (by decide) (fun _ => ?_) (fun _ => ?_)
      · refine z_aload_n (pc := 72) dX9_odds_72 rfl ?_
        refine z_aload_n (pc := 73) dX9_odds_73 rfl ?_
        refine zgR_X9_41 (pc := 74) gm_0 rfl dX9_odds_74 ?_
        refine z_aload_n (pc := 77) dX9_odds_77 rfl ?_
        refine zgI_X9_123 (pc := 78) gm_0 rfl dX9_odds_78 ?_
        refine z_iald (pc := 81) gm_9 dX9_odds_81 ?_
        refine z_bindP (fun p5 hp5 => ?_)
        refine z_callVi (pc := 82) (As := [.int (p4.2.1 9 (z_ix (p4.2.1 0 26)))]) (S := []) (c_X9_openAt n (p4.2.1 9 (z_ix (p4.2.1 0 26))) p4.2) hp5 zw_X9_openAt zv_X9_openAt zm_X9_147 (n := 1) (by decide) rfl (z_recv gm_0 (T := TX9) (N := 52) rfl) rfl (Nat.le_of_ble_eq_true rfl) (by decide) (by decide) dX9_odds_82 ?_
        refine z_if_gt (pc := 85) (tgt := 57) dX9_odds_85 (by decide) (fun _ => ?_) (fun _ => ?_)
        · exact ih l1 l2 l3 l4 p5.2
        · exact w_X9_odds_88 _ ih n l1 l2 l3 l4 p5.2
      · exact w_X9_odds_88 _ ih n l1 l2 l3 l4 p4.2

set_option maxRecDepth 20000 in
theorem w_X9_odds_0 {D : va_G} {cI cL : ClassId} {b : Nat} {Z : State → Heap → Prop}  (n : Nat) (a1 : Int32) (a2 : Int32) (a3 : Int32) (μ : z_M) : z_w (zEm D cI cL b Z) (RX9, cX9_odds, 9, (some .long), 4) z_el 0 [(0, .ref (b + 0)), (1, .int a1), (2, .int a2), (3, .int a3)] [] μ ((f_X9_odds n a1 a2 a3 μ)) := by
  unfold f_X9_odds
  refine z_aload_n (pc := 0) dX9_odds_0 rfl ?_
  refine z_iload_n (pc := 1) dX9_odds_1 rfl ?_
  refine z_callVi (pc := 2) (As := [.int a1]) (S := []) (c_X9_isHouse a1 μ) rfl zw_X9_isHouse zv_X9_isHouse zm_X9_188 (n := 1) (by decide) rfl (z_recv gm_0 (T := TX9) (N := 52) rfl) rfl (Nat.le_of_ble_eq_true rfl) (by decide) (by decide) dX9_odds_2 ?_
  refine z_if_ne (pc := 5) (tgt := 15) dX9_odds_5 (by decide) (fun _ => ?_) (fun _ => ?_)
  · refine z_aload_n (pc := 8) dX9_odds_8 rfl ?_
    refine z_iconst (pc := 9) dX9_odds_9 zci_m1 ?_
    refine z_bindP (fun p1 hp1 => ?_)
    refine z_callVi (pc := 10) (As := [.int (-1)]) (S := []) (c_X9_no (-1) μ) hp1 zw_X9_no zv_X9_no zm_X9_171 (n := 1) (by decide) rfl (z_recv gm_0 (T := TX9) (N := 52) rfl) rfl (Nat.le_of_ble_eq_true rfl) (by decide) (by decide) dX9_odds_10 ?_
    refine z_i2l (pc := 13) dX9_odds_13 ?_
    exact z_lret (pc := 14) rfl dX9_odds_14
  · refine z_iload_n (pc := 15) dX9_odds_15 rfl ?_
    refine z_callSi (pc := 16) (As := [.int a2]) (S := []) (c_X9_isSet a2 μ) rfl zw_X9_isSet zs_X9_isSet zm_X9_195 (n := 1) (by decide) rfl rfl (Nat.le_of_ble_eq_true rfl) (by decide) (by decide) dX9_odds_16 ?_
    refine z_if_eq (pc := 19) (tgt := 40) dX9_odds_19 (by decide) (fun _ => ?_) (fun _ => ?_)
    · refine z_drop (L' := [(0, .ref (b + 0))]) [0] rfl ?_
      exact w_X9_odds_40 n μ
    · refine z_iload_n (pc := 22) dX9_odds_22 rfl ?_
      refine z_iconst (pc := 23) dX9_odds_23 zci_1 ?_
      refine z_iconst (pc := 24) dX9_odds_24 zci_4 ?_
      refine z_callSi (pc := 25) (As := [.int a3, .int 1, .int 4]) (S := []) (c_X9_isIn a3 1 4 μ) rfl zw_X9_isIn zs_X9_isIn zm_X9_167 (n := 3) (by decide) rfl rfl (Nat.le_of_ble_eq_true rfl) (by decide) (by decide) dX9_odds_25 ?_
      refine z_if_eq (pc := 28) (tgt := 40) dX9_odds_28 (by decide) (fun _ => ?_) (fun _ => ?_)
      · refine z_drop (L' := [(0, .ref (b + 0))]) [0] rfl ?_
        exact w_X9_odds_40 n μ
      · refine z_aload_n (pc := 31) dX9_odds_31 rfl ?_
        refine zgR_X9_41 (pc := 32) gm_0 rfl dX9_odds_32 ?_
        refine z_iconst (pc := 35) dX9_odds_35 zci_0 ?_
        refine z_ialdK (pc := 36) gm_9 (by decide) dX9_odds_36 ?_
        refine z_if_ge (pc := 37) (tgt := 48) dX9_odds_37 (by decide) (fun _ => ?_) (fun _ => ?_)
        · refine z_drop (L' := [(0, .ref (b + 0))]) [0] rfl ?_
          exact w_X9_odds_40 n μ
        · refine z_lconst (pc := 48) dX9_odds_48 zcl_0 ?_
          refine z_lstore (pc := 49) (L' := [(0, .ref (b + 0)), (1, .int a1), (2, .int a2), (3, .int a3), (4, .long 0)]) dX9_odds_49 (by decide) rfl ?_
          refine z_aload_n (pc := 51) dX9_odds_51 rfl ?_
          refine z_iload_n (pc := 52) dX9_odds_52 rfl ?_
          refine z_iconst (pc := 53) dX9_odds_53 zci_1 ?_
          refine z_bindP (fun p3 hp3 => ?_)
          refine z_callVv (pc := 54) (As := [.int a3, .int 1]) (S := []) (c_X9_beginsRoutes n a3 1 μ) hp3 zw_X9_beginsRoutes zv_X9_beginsRoutes zm_X9_322 (n := 2) (by decide) rfl (z_recv gm_0 (T := TX9) (N := 52) rfl) rfl (Nat.le_of_ble_eq_true rfl) (by decide) (by decide) dX9_odds_54 ?_
          exact w_X9_odds_57 n a1 a2 a3 0 p3.2

set_option maxRecDepth 20000 in
theorem c_X9_odds {D : va_G} {cI cL : ClassId} {b : Nat} {Z : State → Heap → Prop}  (n : Nat) (a1 : Int32) (a2 : Int32) (a3 : Int32) (μ : z_M) : z_S (zEm D cI cL b Z) 4 yX9_odds cX9_odds 9 (some .long) z_el [.ref (b + 0), .int a1, .int a2, .int a3] μ ((f_X9_odds n a1 a2 a3 μ)) :=
  z_entry (yn := yX9_odds) (by decide) (Nat.le_of_ble_eq_true rfl) rfl (w_X9_odds_0 n a1 a2 a3 μ)

def f_X9_canHear_h6 : Nat → Int32 → Int32 → z_M → Option (Int32 × z_M)
  | 0, _, _, _ => none
  | n + 1, l1, l2, μ =>
    z_bind (f_X9_hasNext n μ) (fun p2 => if p2.1 = 0 then (some (0, p2.2)) else (z_chk ((8 * (p2.2.1 0 26)) + l1) 72 (if ((p2.2.1 12 (z_ix ((8 * (p2.2.1 0 26)) + l1))) &&& l2) = 0 then (f_X9_canHear_h6 n l1 l2 p2.2) else (some (1, p2.2)))))
def f_X9_canHear (n : Nat) (a1 : Int32) (a2 : Int32) (a3 : Int32) (μ : z_M) : Option (Int32 × z_M) :=
  z_bind (f_X9_beginsRoutes n a3 0 μ) (fun p1 => f_X9_canHear_h6 n a1 a2 p1.2)
set_option maxRecDepth 20000 in
theorem w_X9_canHear_6 {D : va_G} {cI cL : ClassId} {b : Nat} {Z : State → Heap → Prop}  : ∀ (n : Nat) (l1 : Int32) (l2 : Int32) (μ : z_M), z_w (zEm D cI cL b Z) (RX9, cX9_canHear, 4, (some .boolean), 4) z_ei 6 [(0, .ref (b + 0)), (1, .int l1), (2, .int l2)] [] μ (f_X9_canHear_h6 n l1 l2 μ) := by
  intro n
  induction n with
  | zero =>
    intro l1 l2 μ
    exact z_none
  | succ n ih =>
    intro l1 l2 μ
    unfold f_X9_canHear_h6
    refine z_aload_n (pc := 6) dX9_canHear_6 rfl ?_
    refine z_bindP (fun p2 hp2 => ?_)
    refine z_callVi (pc := 7) (As := []) (S := []) (c_X9_hasNext n μ) hp2 zw_X9_hasNext zv_X9_hasNext zm_X9_325 (n := 0) (by decide) rfl (z_recv gm_0 (T := TX9) (N := 52) rfl) rfl (Nat.le_of_ble_eq_true rfl) (by decide) (by decide) dX9_canHear_7 ?_
    refine z_if_eq (pc := 10) (tgt := 34) dX9_canHear_10 (by decide) (fun _ => ?_) (fun _ => ?_)
    · refine z_iconst (pc := 34) dX9_canHear_34 zci_0 ?_
      exact z_zret (pc := 35) rfl dX9_canHear_35 (by decide)
    · refine z_aload_n (pc := 13) dX9_canHear_13 rfl ?_
      refine zgR_X9_50 (pc := 14) gm_0 rfl dX9_canHear_14 ?_
      refine z_bipush (pc := 17) dX9_canHear_17 zcb_8 ?_
      refine z_aload_n (pc := 19) dX9_canHear_19 rfl ?_
      refine zgI_X9_123 (pc := 20) gm_0 rfl dX9_canHear_20 ?_
      refine z_imul (pc := 23) dX9_canHear_23 ?_
      refine z_iload_n (pc := 24) dX9_canHear_24 rfl ?_
      refine z_iadd (pc := 25) dX9_canHear_25 ?_
      refine z_iald (pc := 26) gm_12 dX9_canHear_26 ?_
      refine z_iload_n (pc := 27) dX9_canHear_27 rfl ?_
      refine z_iand (pc := 28) dX9_canHear_28 ?_
      refine z_if_eq (pc := 29) (tgt := 6) dX9_canHear_29 (by decide) (fun _ => ?_) (fun _ => ?_)
      · exact ih l1 l2 p2.2
      · refine z_iconst (pc := 32) dX9_canHear_32 zci_1 ?_
        exact z_zret (pc := 33) rfl dX9_canHear_33 (by decide)

set_option maxRecDepth 20000 in
theorem w_X9_canHear_0 {D : va_G} {cI cL : ClassId} {b : Nat} {Z : State → Heap → Prop}  (n : Nat) (a1 : Int32) (a2 : Int32) (a3 : Int32) (μ : z_M) : z_w (zEm D cI cL b Z) (RX9, cX9_canHear, 4, (some .boolean), 4) z_ei 0 [(0, .ref (b + 0)), (1, .int a1), (2, .int a2), (3, .int a3)] [] μ ((f_X9_canHear n a1 a2 a3 μ)) := by
  unfold f_X9_canHear
  refine z_aload_n (pc := 0) dX9_canHear_0 rfl ?_
  refine z_iload_n (pc := 1) dX9_canHear_1 rfl ?_
  refine z_iconst (pc := 2) dX9_canHear_2 zci_0 ?_
  refine z_bindP (fun p1 hp1 => ?_)
  refine z_callVv (pc := 3) (As := [.int a3, .int 0]) (S := []) (c_X9_beginsRoutes n a3 0 μ) hp1 zw_X9_beginsRoutes zv_X9_beginsRoutes zm_X9_322 (n := 2) (by decide) rfl (z_recv gm_0 (T := TX9) (N := 52) rfl) rfl (Nat.le_of_ble_eq_true rfl) (by decide) (by decide) dX9_canHear_3 ?_
  refine z_drop (L' := [(0, .ref (b + 0)), (1, .int a1), (2, .int a2)]) [0, 1, 2] rfl ?_
  exact w_X9_canHear_6 n a1 a2 p1.2

set_option maxRecDepth 20000 in
theorem c_X9_canHear {D : va_G} {cI cL : ClassId} {b : Nat} {Z : State → Heap → Prop}  (n : Nat) (a1 : Int32) (a2 : Int32) (a3 : Int32) (μ : z_M) : z_S (zEm D cI cL b Z) 4 yX9_canHear cX9_canHear 4 (some .boolean) z_ei [.ref (b + 0), .int a1, .int a2, .int a3] μ ((f_X9_canHear n a1 a2 a3 μ)) :=
  z_entry (yn := yX9_canHear) (by decide) (Nat.le_of_ble_eq_true rfl) rfl (w_X9_canHear_0 n a1 a2 a3 μ)

def f_X9_doesShutTwice_b31 (r2 : Int32 → Int32 → z_M → Option (Int32 × z_M)) (n : Nat) (l1 : Int32) (l2 : Int32) (μ : z_M) : Option (Int32 × z_M) :=
  r2 l1 (l2 + 1) μ
def f_X9_doesShutTwice_h2 : Nat → Int32 → Int32 → z_M → Option (Int32 × z_M)
  | 0, _, _, _ => none
  | n + 1, l1, l2, μ =>
    if l2 < (μ.1 0 9) then (if ((l1 >>> (l2 &&& 31)) &&& 1) = 1 then (z_chk l2 12 (if (μ.1 8 (z_ix l2)) = 1 then (some (1, μ)) else (f_X9_doesShutTwice_b31 (f_X9_doesShutTwice_h2 n) n l1 l2 μ))) else (f_X9_doesShutTwice_b31 (f_X9_doesShutTwice_h2 n) n l1 l2 μ)) else (some (0, μ))
def f_X9_doesShutTwice (n : Nat) (a1 : Int32) (μ : z_M) : Option (Int32 × z_M) :=
  f_X9_doesShutTwice_h2 n a1 0 μ
set_option maxRecDepth 20000 in
theorem w_X9_doesShutTwice_31 {D : va_G} {cI cL : ClassId} {b : Nat} {Z : State → Heap → Prop}  (r2 : Int32 → Int32 → z_M → Option (Int32 × z_M)) (hr2 : ∀ (l1 : Int32) (l2 : Int32) (μ : z_M), z_w (zEm D cI cL b Z) (RX9, cX9_doesShutTwice, 3, (some .boolean), 0) z_ei 2 [(0, .ref (b + 0)), (1, .int l1), (2, .int l2)] [] μ ((r2 l1 l2 μ))) (n : Nat) (l1 : Int32) (l2 : Int32) (μ : z_M) : z_w (zEm D cI cL b Z) (RX9, cX9_doesShutTwice, 3, (some .boolean), 0) z_ei 31 [(0, .ref (b + 0)), (1, .int l1), (2, .int l2)] [] μ ((f_X9_doesShutTwice_b31 r2 n l1 l2 μ)) := by
  unfold f_X9_doesShutTwice_b31
  refine z_iinc (pc := 31) (v := (l2 + 1)) (L' := [(0, .ref (b + 0)), (1, .int l1), (2, .int (l2 + 1))]) dX9_doesShutTwice_31 rfl (by decide) rfl rfl ?_
  refine z_goto (pc := 34) (tgt := 2) dX9_doesShutTwice_34 (by decide) ?_
  exact hr2 l1 (l2 + 1) μ

set_option maxRecDepth 20000 in
theorem w_X9_doesShutTwice_2 {D : va_G} {cI cL : ClassId} {b : Nat} {Z : State → Heap → Prop}  : ∀ (n : Nat) (l1 : Int32) (l2 : Int32) (μ : z_M), z_w (zEm D cI cL b Z) (RX9, cX9_doesShutTwice, 3, (some .boolean), 0) z_ei 2 [(0, .ref (b + 0)), (1, .int l1), (2, .int l2)] [] μ (f_X9_doesShutTwice_h2 n l1 l2 μ) := by
  intro n
  induction n with
  | zero =>
    intro l1 l2 μ
    exact z_none
  | succ n ih =>
    intro l1 l2 μ
    unfold f_X9_doesShutTwice_h2
    refine z_iload_n (pc := 2) dX9_doesShutTwice_2 rfl ?_
    refine z_aload_n (pc := 3) dX9_doesShutTwice_3 rfl ?_
    refine zgI_X9_105 (pc := 4) gm_0 rfl dX9_doesShutTwice_4 ?_
    refine z_icmp_ge (pc := 7) (tgt := 37) dX9_doesShutTwice_7 (by decide) (fun _ => ?_) (fun _ => ?_)
    · refine z_iload_n (pc := 10) dX9_doesShutTwice_10 rfl ?_
      refine z_iload_n (pc := 11) dX9_doesShutTwice_11 rfl ?_
      refine z_ishr (pc := 12) dX9_doesShutTwice_12 ?_
      refine z_iconst (pc := 13) dX9_doesShutTwice_13 zci_1 ?_
      refine z_iand (pc := 14) dX9_doesShutTwice_14 ?_
      refine z_iconst (pc := 15) dX9_doesShutTwice_15 zci_1 ?_
      refine z_icmp_ne (pc := 16) (tgt := 31) dX9_doesShutTwice_16 (by decide) (fun _ => ?_) (fun _ => ?_)
      · refine z_aload_n (pc := 19) dX9_doesShutTwice_19 rfl ?_
        refine zgR_X9_31 (pc := 20) gm_0 rfl dX9_doesShutTwice_20 ?_
        refine z_iload_n (pc := 23) dX9_doesShutTwice_23 rfl ?_
        refine z_iald (pc := 24) gm_8 dX9_doesShutTwice_24 ?_
        refine z_iconst (pc := 25) dX9_doesShutTwice_25 zci_1 ?_
        refine z_icmp_ne (pc := 26) (tgt := 31) dX9_doesShutTwice_26 (by decide) (fun _ => ?_) (fun _ => ?_)
        · refine z_iconst (pc := 29) dX9_doesShutTwice_29 zci_1 ?_
          exact z_zret (pc := 30) rfl dX9_doesShutTwice_30 (by decide)
        · exact w_X9_doesShutTwice_31 _ ih n l1 l2 μ
      · exact w_X9_doesShutTwice_31 _ ih n l1 l2 μ
    · refine z_iconst (pc := 37) dX9_doesShutTwice_37 zci_0 ?_
      exact z_zret (pc := 38) rfl dX9_doesShutTwice_38 (by decide)

set_option maxRecDepth 20000 in
theorem w_X9_doesShutTwice_0 {D : va_G} {cI cL : ClassId} {b : Nat} {Z : State → Heap → Prop}  (n : Nat) (a1 : Int32) (μ : z_M) : z_w (zEm D cI cL b Z) (RX9, cX9_doesShutTwice, 3, (some .boolean), 0) z_ei 0 [(0, .ref (b + 0)), (1, .int a1)] [] μ ((f_X9_doesShutTwice n a1 μ)) := by
  unfold f_X9_doesShutTwice
  refine z_iconst (pc := 0) dX9_doesShutTwice_0 zci_0 ?_
  refine z_istore_n (pc := 1) (L' := [(0, .ref (b + 0)), (1, .int a1), (2, .int 0)]) dX9_doesShutTwice_1 (by decide) rfl ?_
  exact w_X9_doesShutTwice_2 n a1 0 μ

set_option maxRecDepth 20000 in
theorem c_X9_doesShutTwice {D : va_G} {cI cL : ClassId} {b : Nat} {Z : State → Heap → Prop}  (n : Nat) (a1 : Int32) (μ : z_M) : z_S (zEm D cI cL b Z) 0 yX9_doesShutTwice cX9_doesShutTwice 3 (some .boolean) z_ei [.ref (b + 0), .int a1] μ ((f_X9_doesShutTwice n a1 μ)) :=
  z_entry (yn := yX9_doesShutTwice) (by decide) (Nat.le_of_ble_eq_true rfl) rfl (w_X9_doesShutTwice_0 n a1 μ)

def f_X9_reach_b33 (n : Nat)  (μ : z_M) : Option (Int32 × z_M) :=
  z_bind (f_X9_no (-6) μ) (fun p2 => some (p2.1, p2.2))
def f_X9_reach_h48 : Nat → Int32 → Int32 → z_M → Option (Int32 × z_M)
  | 0, _, _, _ => none
  | n + 1, l1, l3, μ =>
    z_bind (f_X9_hasNext n μ) (fun p4 => if p4.1 = 0 then (some (l3, p4.2)) else (z_chk ((8 * (p4.2.1 0 26)) + l1) 72 (z_let ((l3 ||| (p4.2.1 12 (z_ix ((8 * (p4.2.1 0 26)) + l1)))) : Int32) (fun x5 => f_X9_reach_h48 n l1 x5 p4.2))))
def f_X9_reach (n : Nat) (a1 : Int32) (a2 : Int32) (μ : z_M) : Option (Int32 × z_M) :=
  if (f_X9_isHouse a1 μ) = 0 then (z_bind (f_X9_no (-1) μ) (fun p1 => some (p1.1, p1.2))) else (if (f_X9_isIn a2 0 6 μ) = 0 then (f_X9_reach_b33 n μ) else (if (μ.1 9 (z_ix 0)) < 0 then (f_X9_reach_b33 n μ) else (z_bind (f_X9_beginsRoutes n a2 0 μ) (fun p3 => f_X9_reach_h48 n a1 0 p3.2))))
set_option maxRecDepth 20000 in
theorem w_X9_reach_33 {D : va_G} {cI cL : ClassId} {b : Nat} {Z : State → Heap → Prop}  (n : Nat)  (μ : z_M) : z_w (zEm D cI cL b Z) (RX9, cX9_reach, 4, (some .int), 4) z_ei 33 [(0, .ref (b + 0))] [] μ ((f_X9_reach_b33 n μ)) := by
  unfold f_X9_reach_b33
  refine z_aload_n (pc := 33) dX9_reach_33 rfl ?_
  refine z_bipush (pc := 34) dX9_reach_34 zcb_m6 ?_
  refine z_bindP (fun p2 hp2 => ?_)
  refine z_callVi (pc := 36) (As := [.int (-6)]) (S := []) (c_X9_no (-6) μ) hp2 zw_X9_no zv_X9_no zm_X9_171 (n := 1) (by decide) rfl (z_recv gm_0 (T := TX9) (N := 52) rfl) rfl (Nat.le_of_ble_eq_true rfl) (by decide) (by decide) dX9_reach_36 ?_
  exact z_iret (pc := 39) rfl dX9_reach_39

set_option maxRecDepth 20000 in
theorem w_X9_reach_48 {D : va_G} {cI cL : ClassId} {b : Nat} {Z : State → Heap → Prop}  : ∀ (n : Nat) (l1 : Int32) (l3 : Int32) (μ : z_M), z_w (zEm D cI cL b Z) (RX9, cX9_reach, 4, (some .int), 4) z_ei 48 [(0, .ref (b + 0)), (1, .int l1), (3, .int l3)] [] μ (f_X9_reach_h48 n l1 l3 μ) := by
  intro n
  induction n with
  | zero =>
    intro l1 l3 μ
    exact z_none
  | succ n ih =>
    intro l1 l3 μ
    unfold f_X9_reach_h48
    refine z_aload_n (pc := 48) dX9_reach_48 rfl ?_
    refine z_bindP (fun p4 hp4 => ?_)
    refine z_callVi (pc := 49) (As := []) (S := []) (c_X9_hasNext n μ) hp4 zw_X9_hasNext zv_X9_hasNext zm_X9_325 (n := 0) (by decide) rfl (z_recv gm_0 (T := TX9) (N := 52) rfl) rfl (Nat.le_of_ble_eq_true rfl) (by decide) (by decide) dX9_reach_49 ?_
    refine z_if_eq (pc := 52) (tgt := 75) dX9_reach_52 (by decide) (fun _ => ?_) (fun _ => ?_)
    · refine z_iload_n (pc := 75) dX9_reach_75 rfl ?_
      exact z_iret (pc := 76) rfl dX9_reach_76
    · refine z_iload_n (pc := 55) dX9_reach_55 rfl ?_
      refine z_aload_n (pc := 56) dX9_reach_56 rfl ?_
      refine zgR_X9_50 (pc := 57) gm_0 rfl dX9_reach_57 ?_
      refine z_bipush (pc := 60) dX9_reach_60 zcb_8 ?_
      refine z_aload_n (pc := 62) dX9_reach_62 rfl ?_
      refine zgI_X9_123 (pc := 63) gm_0 rfl dX9_reach_63 ?_
      refine z_imul (pc := 66) dX9_reach_66 ?_
      refine z_iload_n (pc := 67) dX9_reach_67 rfl ?_
      refine z_iadd (pc := 68) dX9_reach_68 ?_
      refine z_iald (pc := 69) gm_12 dX9_reach_69 ?_
      refine z_ior (pc := 70) dX9_reach_70 ?_
      refine z_letIO (fun x5 => ?_)
      refine z_istore_n (pc := 71) (L' := [(0, .ref (b + 0)), (1, .int l1), (3, .int x5)]) dX9_reach_71 (by decide) rfl ?_
      refine z_goto (pc := 72) (tgt := 48) dX9_reach_72 (by decide) ?_
      exact ih l1 x5 p4.2

set_option maxRecDepth 20000 in
theorem w_X9_reach_0 {D : va_G} {cI cL : ClassId} {b : Nat} {Z : State → Heap → Prop}  (n : Nat) (a1 : Int32) (a2 : Int32) (μ : z_M) : z_w (zEm D cI cL b Z) (RX9, cX9_reach, 4, (some .int), 4) z_ei 0 [(0, .ref (b + 0)), (1, .int a1), (2, .int a2)] [] μ ((f_X9_reach n a1 a2 μ)) := by
  unfold f_X9_reach
  refine z_aload_n (pc := 0) dX9_reach_0 rfl ?_
  refine z_iload_n (pc := 1) dX9_reach_1 rfl ?_
  refine z_callVi (pc := 2) (As := [.int a1]) (S := []) (c_X9_isHouse a1 μ) rfl zw_X9_isHouse zv_X9_isHouse zm_X9_188 (n := 1) (by decide) rfl (z_recv gm_0 (T := TX9) (N := 52) rfl) rfl (Nat.le_of_ble_eq_true rfl) (by decide) (by decide) dX9_reach_2 ?_
  refine z_if_ne (pc := 5) (tgt := 14) dX9_reach_5 (by decide) (fun _ => ?_) (fun _ => ?_)
  · refine z_aload_n (pc := 8) dX9_reach_8 rfl ?_
    refine z_iconst (pc := 9) dX9_reach_9 zci_m1 ?_
    refine z_bindP (fun p1 hp1 => ?_)
    refine z_callVi (pc := 10) (As := [.int (-1)]) (S := []) (c_X9_no (-1) μ) hp1 zw_X9_no zv_X9_no zm_X9_171 (n := 1) (by decide) rfl (z_recv gm_0 (T := TX9) (N := 52) rfl) rfl (Nat.le_of_ble_eq_true rfl) (by decide) (by decide) dX9_reach_10 ?_
    exact z_iret (pc := 13) rfl dX9_reach_13
  · refine z_iload_n (pc := 14) dX9_reach_14 rfl ?_
    refine z_iconst (pc := 15) dX9_reach_15 zci_0 ?_
    refine z_bipush (pc := 16) dX9_reach_16 zcb_6 ?_
    refine z_callSi (pc := 18) (As := [.int a2, .int 0, .int 6]) (S := []) (c_X9_isIn a2 0 6 μ) rfl zw_X9_isIn zs_X9_isIn zm_X9_167 (n := 3) (by decide) rfl rfl (Nat.le_of_ble_eq_true rfl) (by decide) (by decide) dX9_reach_18 ?_
    refine z_if_eq (pc := 21) (tgt := 33) dX9_reach_21 (by decide) (fun _ => ?_) (fun _ => ?_)
    · refine z_drop (L' := [(0, .ref (b + 0))]) [0] rfl ?_
      exact w_X9_reach_33 n μ
    · refine z_aload_n (pc := 24) dX9_reach_24 rfl ?_
      refine zgR_X9_41 (pc := 25) gm_0 rfl dX9_reach_25 ?_
      refine z_iconst (pc := 28) dX9_reach_28 zci_0 ?_
      refine z_ialdK (pc := 29) gm_9 (by decide) dX9_reach_29 ?_
      refine z_if_ge (pc := 30) (tgt := 40) dX9_reach_30 (by decide) (fun _ => ?_) (fun _ => ?_)
      · refine z_drop (L' := [(0, .ref (b + 0))]) [0] rfl ?_
        exact w_X9_reach_33 n μ
      · refine z_iconst (pc := 40) dX9_reach_40 zci_0 ?_
        refine z_istore_n (pc := 41) (L' := [(0, .ref (b + 0)), (1, .int a1), (2, .int a2), (3, .int 0)]) dX9_reach_41 (by decide) rfl ?_
        refine z_aload_n (pc := 42) dX9_reach_42 rfl ?_
        refine z_iload_n (pc := 43) dX9_reach_43 rfl ?_
        refine z_iconst (pc := 44) dX9_reach_44 zci_0 ?_
        refine z_bindP (fun p3 hp3 => ?_)
        refine z_callVv (pc := 45) (As := [.int a2, .int 0]) (S := []) (c_X9_beginsRoutes n a2 0 μ) hp3 zw_X9_beginsRoutes zv_X9_beginsRoutes zm_X9_322 (n := 2) (by decide) rfl (z_recv gm_0 (T := TX9) (N := 52) rfl) rfl (Nat.le_of_ble_eq_true rfl) (by decide) (by decide) dX9_reach_45 ?_
        refine z_drop (L' := [(0, .ref (b + 0)), (1, .int a1), (3, .int 0)]) [0, 1, 3] rfl ?_
        exact w_X9_reach_48 n a1 0 p3.2

set_option maxRecDepth 20000 in
theorem c_X9_reach {D : va_G} {cI cL : ClassId} {b : Nat} {Z : State → Heap → Prop}  (n : Nat) (a1 : Int32) (a2 : Int32) (μ : z_M) : z_S (zEm D cI cL b Z) 4 yX9_reach cX9_reach 4 (some .int) z_ei [.ref (b + 0), .int a1, .int a2] μ ((f_X9_reach n a1 a2 μ)) :=
  z_entry (yn := yX9_reach) (by decide) (Nat.le_of_ble_eq_true rfl) rfl (w_X9_reach_0 n a1 a2 μ)

def f_X9_first_b30 (n : Nat)  (μ : z_M) : Option (Int32 × z_M) :=
  z_bind (f_X9_noTen (-6) μ) (fun p2 => some (p2.1, p2.2))
def f_X9_first_b111 (r46 : Int32 → Int32 → Int32 → z_M → Option (Int32 × z_M)) (n : Nat) (l1 : Int32) (l2 : Int32) (l3 : Int32) (s0 : Int32) (μ : z_M) : Option (Int32 × z_M) :=
  z_bool s0 (z_let (z_sI μ 0 29 s0) (fun m6 => r46 l1 l2 l3 m6))
def f_X9_first_b110 (r46 : Int32 → Int32 → Int32 → z_M → Option (Int32 × z_M)) (n : Nat) (l1 : Int32) (l2 : Int32) (l3 : Int32) (μ : z_M) : Option (Int32 × z_M) :=
  f_X9_first_b111 r46 n l1 l2 l3 0 μ
def f_X9_first_b91 (r46 : Int32 → Int32 → Int32 → z_M → Option (Int32 × z_M)) (n : Nat) (l1 : Int32) (l2 : Int32) (l3 : Int32) (μ : z_M) : Option (Int32 × z_M) :=
  if l3 < 0 then (f_X9_first_b110 r46 n l1 l2 l3 μ) else (if ((μ.1 0 26) + 1) < l3 then (f_X9_first_b110 r46 n l1 l2 l3 μ) else (f_X9_first_b111 r46 n l1 l2 l3 1 μ))
def f_X9_first_b86 (r46 : Int32 → Int32 → Int32 → z_M → Option (Int32 × z_M)) (n : Nat) (l1 : Int32) (l2 : Int32) (μ : z_M) : Option (Int32 × z_M) :=
  z_let ((μ.1 0 26) : Int32) (fun x5 => f_X9_first_b91 r46 n l1 l2 x5 μ)
def f_X9_first_h46 : Nat → Int32 → Int32 → Int32 → z_M → Option (Int32 × z_M)
  | 0, _, _, _, _ => none
  | n + 1, l1, l2, l3, μ =>
    z_bind (f_X9_hasNext n μ) (fun p4 => if p4.1 = 0 then (some (l3, p4.2)) else (z_chk ((8 * (p4.2.1 0 26)) + l1) 72 (if (l2 &&& ((p4.2.1 12 (z_ix ((8 * (p4.2.1 0 26)) + l1))) ^^^ (-1))) = 0 then (if l3 < 0 then (f_X9_first_b86 (f_X9_first_h46 n) n l1 l2 p4.2) else (if (p4.2.1 0 26) < l3 then (f_X9_first_b86 (f_X9_first_h46 n) n l1 l2 p4.2) else (f_X9_first_b91 (f_X9_first_h46 n) n l1 l2 l3 p4.2))) else (f_X9_first_b91 (f_X9_first_h46 n) n l1 l2 l3 p4.2))))
def f_X9_first (n : Nat) (a1 : Int32) (a2 : Int32) (μ : z_M) : Option (Int32 × z_M) :=
  if (f_X9_isHouse a1 μ) = 0 then (z_bind (f_X9_noTen (-1) μ) (fun p1 => some (p1.1, p1.2))) else (if (f_X9_isSet a2 μ) = 0 then (f_X9_first_b30 n μ) else (if (μ.1 9 (z_ix 0)) < 0 then (f_X9_first_b30 n μ) else (z_bind (f_X9_beginsRoutes n 6 0 μ) (fun p3 => f_X9_first_h46 n a1 a2 (-1) p3.2))))
set_option maxRecDepth 20000 in
theorem w_X9_first_30 {D : va_G} {cI cL : ClassId} {b : Nat} {Z : State → Heap → Prop}  (n : Nat)  (μ : z_M) : z_w (zEm D cI cL b Z) (RX9, cX9_first, 4, (some .int), 4) z_ei 30 [(0, .ref (b + 0))] [] μ ((f_X9_first_b30 n μ)) := by
  unfold f_X9_first_b30
  refine z_aload_n (pc := 30) dX9_first_30 rfl ?_
  refine z_bipush (pc := 31) dX9_first_31 zcb_m6 ?_
  refine z_bindP (fun p2 hp2 => ?_)
  refine z_callVi (pc := 33) (As := [.int (-6)]) (S := []) (c_X9_noTen (-6) μ) hp2 zw_X9_noTen zv_X9_noTen zm_X9_300 (n := 1) (by decide) rfl (z_recv gm_0 (T := TX9) (N := 52) rfl) rfl (Nat.le_of_ble_eq_true rfl) (by decide) (by decide) dX9_first_33 ?_
  exact z_iret (pc := 36) rfl dX9_first_36

set_option maxRecDepth 20000 in
theorem w_X9_first_111 {D : va_G} {cI cL : ClassId} {b : Nat} {Z : State → Heap → Prop}  (r46 : Int32 → Int32 → Int32 → z_M → Option (Int32 × z_M)) (hr46 : ∀ (l1 : Int32) (l2 : Int32) (l3 : Int32) (μ : z_M), z_w (zEm D cI cL b Z) (RX9, cX9_first, 4, (some .int), 4) z_ei 46 [(0, .ref (b + 0)), (1, .int l1), (2, .int l2), (3, .int l3)] [] μ ((r46 l1 l2 l3 μ))) (n : Nat) (l1 : Int32) (l2 : Int32) (l3 : Int32) (s0 : Int32) (μ : z_M) : z_w (zEm D cI cL b Z) (RX9, cX9_first, 4, (some .int), 4) z_ei 111 [(0, .ref (b + 0)), (1, .int l1), (2, .int l2), (3, .int l3)] [.int s0, .ref (b + 0)] μ ((f_X9_first_b111 r46 n l1 l2 l3 s0 μ)) := by
  unfold f_X9_first_b111
  refine z_guardW (fun _ h => z_bool_some h) (fun hb111 => ?_)
  refine zpZ_X9_133 (pc := 111) gm_0 rfl hb111 dX9_first_111 ?_
  refine z_letMO (fun m6 => ?_)
  refine z_goto (pc := 114) (tgt := 46) dX9_first_114 (by decide) ?_
  exact hr46 l1 l2 l3 m6

set_option maxRecDepth 20000 in
theorem w_X9_first_110 {D : va_G} {cI cL : ClassId} {b : Nat} {Z : State → Heap → Prop}  (r46 : Int32 → Int32 → Int32 → z_M → Option (Int32 × z_M)) (hr46 : ∀ (l1 : Int32) (l2 : Int32) (l3 : Int32) (μ : z_M), z_w (zEm D cI cL b Z) (RX9, cX9_first, 4, (some .int), 4) z_ei 46 [(0, .ref (b + 0)), (1, .int l1), (2, .int l2), (3, .int l3)] [] μ ((r46 l1 l2 l3 μ))) (n : Nat) (l1 : Int32) (l2 : Int32) (l3 : Int32) (μ : z_M) : z_w (zEm D cI cL b Z) (RX9, cX9_first, 4, (some .int), 4) z_ei 110 [(0, .ref (b + 0)), (1, .int l1), (2, .int l2), (3, .int l3)] [.ref (b + 0)] μ ((f_X9_first_b110 r46 n l1 l2 l3 μ)) := by
  unfold f_X9_first_b110
  refine z_iconst (pc := 110) dX9_first_110 zci_0 ?_
  exact w_X9_first_111 _ hr46 n l1 l2 l3 0 μ

set_option maxRecDepth 20000 in
theorem w_X9_first_91 {D : va_G} {cI cL : ClassId} {b : Nat} {Z : State → Heap → Prop}  (r46 : Int32 → Int32 → Int32 → z_M → Option (Int32 × z_M)) (hr46 : ∀ (l1 : Int32) (l2 : Int32) (l3 : Int32) (μ : z_M), z_w (zEm D cI cL b Z) (RX9, cX9_first, 4, (some .int), 4) z_ei 46 [(0, .ref (b + 0)), (1, .int l1), (2, .int l2), (3, .int l3)] [] μ ((r46 l1 l2 l3 μ))) (n : Nat) (l1 : Int32) (l2 : Int32) (l3 : Int32) (μ : z_M) : z_w (zEm D cI cL b Z) (RX9, cX9_first, 4, (some .int), 4) z_ei 91 [(0, .ref (b + 0)), (1, .int l1), (2, .int l2), (3, .int l3)] [] μ ((f_X9_first_b91 r46 n l1 l2 l3 μ)) := by
  unfold f_X9_first_b91
  refine z_aload_n (pc := 91) dX9_first_91 rfl ?_
  refine z_iload_n (pc := 92) dX9_first_92 rfl ?_
  refine z_if_lt (pc := 93) (tgt := 110) dX9_first_93 (by decide) (fun _ => ?_) (fun _ => ?_)
  · exact w_X9_first_110 _ hr46 n l1 l2 l3 μ
  · refine z_aload_n (pc := 96) dX9_first_96 rfl ?_
    refine zgI_X9_123 (pc := 97) gm_0 rfl dX9_first_97 ?_
    refine z_iconst (pc := 100) dX9_first_100 zci_1 ?_
    refine z_iadd (pc := 101) dX9_first_101 ?_
    refine z_iload_n (pc := 102) dX9_first_102 rfl ?_
    refine z_icmp_lt (pc := 103) (tgt := 110) dX9_first_103 (by decide) (fun _ => ?_) (fun _ => ?_)
    · exact w_X9_first_110 _ hr46 n l1 l2 l3 μ
    · refine z_iconst (pc := 106) dX9_first_106 zci_1 ?_
      refine z_goto (pc := 107) (tgt := 111) dX9_first_107 (by decide) ?_
      exact w_X9_first_111 _ hr46 n l1 l2 l3 1 μ

set_option maxRecDepth 20000 in
theorem w_X9_first_86 {D : va_G} {cI cL : ClassId} {b : Nat} {Z : State → Heap → Prop}  (r46 : Int32 → Int32 → Int32 → z_M → Option (Int32 × z_M)) (hr46 : ∀ (l1 : Int32) (l2 : Int32) (l3 : Int32) (μ : z_M), z_w (zEm D cI cL b Z) (RX9, cX9_first, 4, (some .int), 4) z_ei 46 [(0, .ref (b + 0)), (1, .int l1), (2, .int l2), (3, .int l3)] [] μ ((r46 l1 l2 l3 μ))) (n : Nat) (l1 : Int32) (l2 : Int32) (μ : z_M) : z_w (zEm D cI cL b Z) (RX9, cX9_first, 4, (some .int), 4) z_ei 86 [(0, .ref (b + 0)), (1, .int l1), (2, .int l2)] [] μ ((f_X9_first_b86 r46 n l1 l2 μ)) := by
  unfold f_X9_first_b86
  refine z_aload_n (pc := 86) dX9_first_86 rfl ?_
  refine zgI_X9_123 (pc := 87) gm_0 rfl dX9_first_87 ?_
  refine z_letIO (fun x5 => ?_)
  refine z_istore_n (pc := 90) (L' := [(0, .ref (b + 0)), (1, .int l1), (2, .int l2), (3, .int x5)]) dX9_first_90 (by decide) rfl ?_
  exact w_X9_first_91 _ hr46 n l1 l2 x5 μ

set_option maxRecDepth 20000 in
theorem w_X9_first_46 {D : va_G} {cI cL : ClassId} {b : Nat} {Z : State → Heap → Prop}  : ∀ (n : Nat) (l1 : Int32) (l2 : Int32) (l3 : Int32) (μ : z_M), z_w (zEm D cI cL b Z) (RX9, cX9_first, 4, (some .int), 4) z_ei 46 [(0, .ref (b + 0)), (1, .int l1), (2, .int l2), (3, .int l3)] [] μ (f_X9_first_h46 n l1 l2 l3 μ) := by
  intro n
  induction n with
  | zero =>
    intro l1 l2 l3 μ
    exact z_none
  | succ n ih =>
    intro l1 l2 l3 μ
    unfold f_X9_first_h46
    refine z_aload_n (pc := 46) dX9_first_46 rfl ?_
    refine z_bindP (fun p4 hp4 => ?_)
    refine z_callVi (pc := 47) (As := []) (S := []) (c_X9_hasNext n μ) hp4 zw_X9_hasNext zv_X9_hasNext zm_X9_325 (n := 0) (by decide) rfl (z_recv gm_0 (T := TX9) (N := 52) rfl) rfl (Nat.le_of_ble_eq_true rfl) (by decide) (by decide) dX9_first_47 ?_
    refine z_if_eq (pc := 50) (tgt := 117) dX9_first_50 (by decide) (fun _ => ?_) (fun _ => ?_)
    · refine z_iload_n (pc := 117) dX9_first_117 rfl ?_
      exact z_iret (pc := 118) rfl dX9_first_118
    · refine z_iload_n (pc := 53) dX9_first_53 rfl ?_
      refine z_aload_n (pc := 54) dX9_first_54 rfl ?_
      refine zgR_X9_50 (pc := 55) gm_0 rfl dX9_first_55 ?_
      refine z_bipush (pc := 58) dX9_first_58 zcb_8 ?_
      refine z_aload_n (pc := 60) dX9_first_60 rfl ?_
      refine zgI_X9_123 (pc := 61) gm_0 rfl dX9_first_61 ?_
      refine z_imul (pc := 64) dX9_first_64 ?_
      refine z_iload_n (pc := 65) dX9_first_65 rfl ?_
      refine z_iadd (pc := 66) dX9_first_66 ?_
      refine z_iald (pc := 67) gm_12 dX9_first_67 ?_
      refine z_iconst (pc := 68) dX9_first_68 zci_m1 ?_
      refine z_ixor (pc := 69) dX9_first_69 ?_
      refine z_iand (pc := 70) dX9_first_70 ?_
      refine z_if_ne (pc := 71) (tgt := 91) dX9_first_71 (by decide) (fun _ => ?_) (fun _ => ?_)
      · refine z_iload_n (pc := 74) dX9_first_74 rfl ?_
        refine z_if_lt (pc := 75) (tgt := 86) dX9_first_75 (by decide) (fun _ => ?_) (fun _ => ?_)
        · refine z_drop (L' := [(0, .ref (b + 0)), (1, .int l1), (2, .int l2)]) [0, 1, 2] rfl ?_
          exact w_X9_first_86 _ ih n l1 l2 p4.2
        · refine z_aload_n (pc := 78) dX9_first_78 rfl ?_
          refine zgI_X9_123 (pc := 79) gm_0 rfl dX9_first_79 ?_
          refine z_iload_n (pc := 82) dX9_first_82 rfl ?_
          refine z_icmp_ge (pc := 83) (tgt := 91) dX9_first_83 (by decide) (fun _ => ?_) (fun _ => ?_)
          · refine z_drop (L' := [(0, .ref (b + 0)), (1, .int l1), (2, .int l2)]) [0, 1, 2] rfl ?_
            exact w_X9_first_86 _ ih n l1 l2 p4.2
          · exact w_X9_first_91 _ ih n l1 l2 l3 p4.2
      · exact w_X9_first_91 _ ih n l1 l2 l3 p4.2

set_option maxRecDepth 20000 in
theorem w_X9_first_0 {D : va_G} {cI cL : ClassId} {b : Nat} {Z : State → Heap → Prop}  (n : Nat) (a1 : Int32) (a2 : Int32) (μ : z_M) : z_w (zEm D cI cL b Z) (RX9, cX9_first, 4, (some .int), 4) z_ei 0 [(0, .ref (b + 0)), (1, .int a1), (2, .int a2)] [] μ ((f_X9_first n a1 a2 μ)) := by
  unfold f_X9_first
  refine z_aload_n (pc := 0) dX9_first_0 rfl ?_
  refine z_iload_n (pc := 1) dX9_first_1 rfl ?_
  refine z_callVi (pc := 2) (As := [.int a1]) (S := []) (c_X9_isHouse a1 μ) rfl zw_X9_isHouse zv_X9_isHouse zm_X9_188 (n := 1) (by decide) rfl (z_recv gm_0 (T := TX9) (N := 52) rfl) rfl (Nat.le_of_ble_eq_true rfl) (by decide) (by decide) dX9_first_2 ?_
  refine z_if_ne (pc := 5) (tgt := 14) dX9_first_5 (by decide) (fun _ => ?_) (fun _ => ?_)
  · refine z_aload_n (pc := 8) dX9_first_8 rfl ?_
    refine z_iconst (pc := 9) dX9_first_9 zci_m1 ?_
    refine z_bindP (fun p1 hp1 => ?_)
    refine z_callVi (pc := 10) (As := [.int (-1)]) (S := []) (c_X9_noTen (-1) μ) hp1 zw_X9_noTen zv_X9_noTen zm_X9_300 (n := 1) (by decide) rfl (z_recv gm_0 (T := TX9) (N := 52) rfl) rfl (Nat.le_of_ble_eq_true rfl) (by decide) (by decide) dX9_first_10 ?_
    exact z_iret (pc := 13) rfl dX9_first_13
  · refine z_iload_n (pc := 14) dX9_first_14 rfl ?_
    refine z_callSi (pc := 15) (As := [.int a2]) (S := []) (c_X9_isSet a2 μ) rfl zw_X9_isSet zs_X9_isSet zm_X9_195 (n := 1) (by decide) rfl rfl (Nat.le_of_ble_eq_true rfl) (by decide) (by decide) dX9_first_15 ?_
    refine z_if_eq (pc := 18) (tgt := 30) dX9_first_18 (by decide) (fun _ => ?_) (fun _ => ?_)
    · refine z_drop (L' := [(0, .ref (b + 0))]) [0] rfl ?_
      exact w_X9_first_30 n μ
    · refine z_aload_n (pc := 21) dX9_first_21 rfl ?_
      refine zgR_X9_41 (pc := 22) gm_0 rfl dX9_first_22 ?_
      refine z_iconst (pc := 25) dX9_first_25 zci_0 ?_
      refine z_ialdK (pc := 26) gm_9 (by decide) dX9_first_26 ?_
      refine z_if_ge (pc := 27) (tgt := 37) dX9_first_27 (by decide) (fun _ => ?_) (fun _ => ?_)
      · refine z_drop (L' := [(0, .ref (b + 0))]) [0] rfl ?_
        exact w_X9_first_30 n μ
      · refine z_iconst (pc := 37) dX9_first_37 zci_m1 ?_
        refine z_istore_n (pc := 38) (L' := [(0, .ref (b + 0)), (1, .int a1), (2, .int a2), (3, .int (-1))]) dX9_first_38 (by decide) rfl ?_
        refine z_aload_n (pc := 39) dX9_first_39 rfl ?_
        refine z_bipush (pc := 40) dX9_first_40 zcb_6 ?_
        refine z_iconst (pc := 42) dX9_first_42 zci_0 ?_
        refine z_bindP (fun p3 hp3 => ?_)
        refine z_callVv (pc := 43) (As := [.int 6, .int 0]) (S := []) (c_X9_beginsRoutes n 6 0 μ) hp3 zw_X9_beginsRoutes zv_X9_beginsRoutes zm_X9_322 (n := 2) (by decide) rfl (z_recv gm_0 (T := TX9) (N := 52) rfl) rfl (Nat.le_of_ble_eq_true rfl) (by decide) (by decide) dX9_first_43 ?_
        exact w_X9_first_46 n a1 a2 (-1) p3.2

set_option maxRecDepth 20000 in
theorem c_X9_first {D : va_G} {cI cL : ClassId} {b : Nat} {Z : State → Heap → Prop}  (n : Nat) (a1 : Int32) (a2 : Int32) (μ : z_M) : z_S (zEm D cI cL b Z) 4 yX9_first cX9_first 4 (some .int) z_ei [.ref (b + 0), .int a1, .int a2] μ ((f_X9_first n a1 a2 μ)) :=
  z_entry (yn := yX9_first) (by decide) (Nat.le_of_ble_eq_true rfl) rfl (w_X9_first_0 n a1 a2 μ)

def f_X9_note_b19  (μ : z_M) : Option (Unit × z_M) :=
  z_let (z_sI μ 0 51 ((μ.1 0 51) + 1)) (fun m2 => some ((), m2))
def f_X9_note (a1 : Int32) (μ : z_M) : Option (Unit × z_M) :=
  if (μ.1 0 51) < 20 then (z_chk (μ.1 0 51) 20 (z_let (z_sI μ 26 (z_ix (μ.1 0 51)) a1) (fun m1 => f_X9_note_b19 m1))) else (f_X9_note_b19 μ)
set_option maxRecDepth 20000 in
theorem w_X9_note_19 {D : va_G} {cI cL : ClassId} {b : Nat} {Z : State → Heap → Prop}   (μ : z_M) : z_w (zEm D cI cL b Z) (RX9, cX9_note, 2, none, 0) z_ev 19 [(0, .ref (b + 0))] [] μ ((f_X9_note_b19 μ)) := by
  unfold f_X9_note_b19
  refine z_aload_n (pc := 19) dX9_note_19 rfl ?_
  refine z_dup (pc := 20) dX9_note_20 rfl ?_
  refine zgI_X9_355 (pc := 21) gm_0 rfl dX9_note_21 ?_
  refine z_iconst (pc := 24) dX9_note_24 zci_1 ?_
  refine z_iadd (pc := 25) dX9_note_25 ?_
  refine zpI_X9_355 (pc := 26) gm_0 rfl dX9_note_26 ?_
  refine z_letMO (fun m2 => ?_)
  exact z_vret (pc := 29) rfl dX9_note_29

set_option maxRecDepth 20000 in
theorem w_X9_note_0 {D : va_G} {cI cL : ClassId} {b : Nat} {Z : State → Heap → Prop}  (a1 : Int32) (μ : z_M) : z_w (zEm D cI cL b Z) (RX9, cX9_note, 2, none, 0) z_ev 0 [(0, .ref (b + 0)), (1, .int a1)] [] μ ((f_X9_note a1 μ)) := by
  unfold f_X9_note
  refine z_aload_n (pc := 0) dX9_note_0 rfl ?_
  refine zgI_X9_355 (pc := 1) gm_0 rfl dX9_note_1 ?_
  refine z_bipush (pc := 4) dX9_note_4 zcb_20 ?_
  refine z_icmp_ge (pc := 6) (tgt := 19) dX9_note_6 (by decide) (fun _ => ?_) (fun _ => ?_)
  · refine z_aload_n (pc := 9) dX9_note_9 rfl ?_
    refine zgR_X9_99 (pc := 10) gm_0 rfl dX9_note_10 ?_
    refine z_aload_n (pc := 13) dX9_note_13 rfl ?_
    refine zgI_X9_355 (pc := 14) gm_0 rfl dX9_note_14 ?_
    refine z_iload_n (pc := 17) dX9_note_17 rfl ?_
    refine z_iast (pc := 18) gm_26 dX9_note_18 ?_
    refine z_letMO (fun m1 => ?_)
    refine z_drop (L' := [(0, .ref (b + 0))]) [0] rfl ?_
    exact w_X9_note_19 m1
  · refine z_drop (L' := [(0, .ref (b + 0))]) [0] rfl ?_
    exact w_X9_note_19 μ

set_option maxRecDepth 20000 in
theorem c_X9_note {D : va_G} {cI cL : ClassId} {b : Nat} {Z : State → Heap → Prop}  (a1 : Int32) (μ : z_M) : z_S (zEm D cI cL b Z) 0 yX9_note cX9_note 2 none z_ev [.ref (b + 0), .int a1] μ ((f_X9_note a1 μ)) :=
  z_entry (yn := yX9_note) (by decide) (Nat.le_of_ble_eq_true rfl) rfl (w_X9_note_0 a1 μ)

def f_X9_callsOf_b33 (l1 : Int32) (l2 : Int32) (μ : z_M) : Option (Int32 × z_M) :=
  z_bind (f_X9_note 10 μ) (fun p3 => z_let ((l2 + l1) : Int32) (fun x4 => z_chk l1 8 (if (p3.2.1 2 (z_ix l1)) = 1 then (z_chk l1 8 (some ((x4 + (p3.2.1 4 (z_ix l1))), p3.2))) else (z_chk l1 8 (if (p3.2.1 2 (z_ix l1)) = 6 then (some ((x4 * 2), p3.2)) else (some (x4, p3.2)))))))
def f_X9_callsOf_b16 (l1 : Int32) (l2 : Int32) (μ : z_M) : Option (Int32 × z_M) :=
  z_chk l1 8 (if (μ.1 2 (z_ix l1)) = 6 then (z_bind (f_X9_note 70 μ) (fun p2 => f_X9_callsOf_b33 l1 l2 p2.2)) else (f_X9_callsOf_b33 l1 l2 μ))
def f_X9_callsOf (a1 : Int32) (a2 : Int32) (μ : z_M) : Option (Int32 × z_M) :=
  z_chk a1 8 (if (μ.1 2 (z_ix a1)) = 1 then (z_bind (f_X9_note 20 μ) (fun p1 => f_X9_callsOf_b16 a1 a2 p1.2)) else (f_X9_callsOf_b16 a1 a2 μ))
set_option maxRecDepth 20000 in
theorem w_X9_callsOf_33 {D : va_G} {cI cL : ClassId} {b : Nat} {Z : State → Heap → Prop}  (l1 : Int32) (l2 : Int32) (μ : z_M) : z_w (zEm D cI cL b Z) (RX9, cX9_callsOf, 4, (some .int), 1) z_ei 33 [(0, .ref (b + 0)), (1, .int l1), (2, .int l2)] [] μ ((f_X9_callsOf_b33 l1 l2 μ)) := by
  unfold f_X9_callsOf_b33
  refine z_aload_n (pc := 33) dX9_callsOf_33 rfl ?_
  refine z_bipush (pc := 34) dX9_callsOf_34 zcb_10 ?_
  refine z_bindP (fun p3 hp3 => ?_)
  refine z_callVv (pc := 36) (As := [.int 10]) (S := []) (c_X9_note 10 μ) hp3 zw_X9_note zv_X9_note zm_X9_358 (n := 1) (by decide) rfl (z_recv gm_0 (T := TX9) (N := 52) rfl) rfl (Nat.le_of_ble_eq_true rfl) (by decide) (by decide) dX9_callsOf_36 ?_
  refine z_iload_n (pc := 39) dX9_callsOf_39 rfl ?_
  refine z_iload_n (pc := 40) dX9_callsOf_40 rfl ?_
  refine z_iadd (pc := 41) dX9_callsOf_41 ?_
  refine z_letIO (fun x4 => ?_)
  refine z_istore_n (pc := 42) (L' := [(0, .ref (b + 0)), (1, .int l1), (2, .int l2), (3, .int x4)]) dX9_callsOf_42 (by decide) rfl ?_
  refine z_aload_n (pc := 43) dX9_callsOf_43 rfl ?_
  refine zgR_X9_13 (pc := 44) gm_0 rfl dX9_callsOf_44 ?_
  refine z_iload_n (pc := 47) dX9_callsOf_47 rfl ?_
  refine z_iald (pc := 48) gm_2 dX9_callsOf_48 ?_
  refine z_iconst (pc := 49) dX9_callsOf_49 zci_1 ?_
  refine z_icmp_ne (pc := 50) (tgt := 64) dX9_callsOf_50 (by decide) (fun _ => ?_) (fun _ => ?_)
  · refine z_iload_n (pc := 53) dX9_callsOf_53 rfl ?_
    refine z_aload_n (pc := 54) dX9_callsOf_54 rfl ?_
    refine zgR_X9_19 (pc := 55) gm_0 rfl dX9_callsOf_55 ?_
    refine z_iload_n (pc := 58) dX9_callsOf_58 rfl ?_
    refine z_iald (pc := 59) gm_4 dX9_callsOf_59 ?_
    refine z_iadd (pc := 60) dX9_callsOf_60 ?_
    refine z_goto (pc := 61) (tgt := 82) dX9_callsOf_61 (by decide) ?_
    exact z_iret (pc := 82) rfl dX9_callsOf_82
  · refine z_aload_n (pc := 64) dX9_callsOf_64 rfl ?_
    refine zgR_X9_13 (pc := 65) gm_0 rfl dX9_callsOf_65 ?_
    refine z_iload_n (pc := 68) dX9_callsOf_68 rfl ?_
    refine z_iald (pc := 69) gm_2 dX9_callsOf_69 ?_
    refine z_bipush (pc := 70) dX9_callsOf_70 zcb_6 ?_
    refine z_icmp_ne (pc := 72) (tgt := 81) dX9_callsOf_72 (by decide) (fun _ => ?_) (fun _ => ?_)
    · refine z_iload_n (pc := 75) dX9_callsOf_75 rfl ?_
      refine z_iconst (pc := 76) dX9_callsOf_76 zci_2 ?_
      refine z_imul (pc := 77) dX9_callsOf_77 ?_
      refine z_goto (pc := 78) (tgt := 82) dX9_callsOf_78 (by decide) ?_
      exact z_iret (pc := 82) rfl dX9_callsOf_82
    · refine z_iload_n (pc := 81) dX9_callsOf_81 rfl ?_
      exact z_iret (pc := 82) rfl dX9_callsOf_82

set_option maxRecDepth 20000 in
theorem w_X9_callsOf_16 {D : va_G} {cI cL : ClassId} {b : Nat} {Z : State → Heap → Prop}  (l1 : Int32) (l2 : Int32) (μ : z_M) : z_w (zEm D cI cL b Z) (RX9, cX9_callsOf, 4, (some .int), 1) z_ei 16 [(0, .ref (b + 0)), (1, .int l1), (2, .int l2)] [] μ ((f_X9_callsOf_b16 l1 l2 μ)) := by
  unfold f_X9_callsOf_b16
  refine z_aload_n (pc := 16) dX9_callsOf_16 rfl ?_
  refine zgR_X9_13 (pc := 17) gm_0 rfl dX9_callsOf_17 ?_
  refine z_iload_n (pc := 20) dX9_callsOf_20 rfl ?_
  refine z_iald (pc := 21) gm_2 dX9_callsOf_21 ?_
  refine z_bipush (pc := 22) dX9_callsOf_22 zcb_6 ?_
  refine z_icmp_ne (pc := 24) (tgt := 33) dX9_callsOf_24 (by decide) (fun _ => ?_) (fun _ => ?_)
  · refine z_aload_n (pc := 27) dX9_callsOf_27 rfl ?_
    refine z_bipush (pc := 28) dX9_callsOf_28 zcb_70 ?_
    refine z_bindP (fun p2 hp2 => ?_)
    refine z_callVv (pc := 30) (As := [.int 70]) (S := []) (c_X9_note 70 μ) hp2 zw_X9_note zv_X9_note zm_X9_358 (n := 1) (by decide) rfl (z_recv gm_0 (T := TX9) (N := 52) rfl) rfl (Nat.le_of_ble_eq_true rfl) (by decide) (by decide) dX9_callsOf_30 ?_
    exact w_X9_callsOf_33 l1 l2 p2.2
  · exact w_X9_callsOf_33 l1 l2 μ

set_option maxRecDepth 20000 in
theorem w_X9_callsOf_0 {D : va_G} {cI cL : ClassId} {b : Nat} {Z : State → Heap → Prop}  (a1 : Int32) (a2 : Int32) (μ : z_M) : z_w (zEm D cI cL b Z) (RX9, cX9_callsOf, 4, (some .int), 1) z_ei 0 [(0, .ref (b + 0)), (1, .int a1), (2, .int a2)] [] μ ((f_X9_callsOf a1 a2 μ)) := by
  unfold f_X9_callsOf
  refine z_aload_n (pc := 0) dX9_callsOf_0 rfl ?_
  refine zgR_X9_13 (pc := 1) gm_0 rfl dX9_callsOf_1 ?_
  refine z_iload_n (pc := 4) dX9_callsOf_4 rfl ?_
  refine z_iald (pc := 5) gm_2 dX9_callsOf_5 ?_
  refine z_iconst (pc := 6) dX9_callsOf_6 zci_1 ?_
  refine z_icmp_ne (pc := 7) (tgt := 16) dX9_callsOf_7 (by decide) (fun _ => ?_) (fun _ => ?_)
  · refine z_aload_n (pc := 10) dX9_callsOf_10 rfl ?_
    refine z_bipush (pc := 11) dX9_callsOf_11 zcb_20 ?_
    refine z_bindP (fun p1 hp1 => ?_)
    refine z_callVv (pc := 13) (As := [.int 20]) (S := []) (c_X9_note 20 μ) hp1 zw_X9_note zv_X9_note zm_X9_358 (n := 1) (by decide) rfl (z_recv gm_0 (T := TX9) (N := 52) rfl) rfl (Nat.le_of_ble_eq_true rfl) (by decide) (by decide) dX9_callsOf_13 ?_
    exact w_X9_callsOf_16 a1 a2 p1.2
  · exact w_X9_callsOf_16 a1 a2 μ

set_option maxRecDepth 20000 in
theorem c_X9_callsOf {D : va_G} {cI cL : ClassId} {b : Nat} {Z : State → Heap → Prop}  (a1 : Int32) (a2 : Int32) (μ : z_M) : z_S (zEm D cI cL b Z) 1 yX9_callsOf cX9_callsOf 4 (some .int) z_ei [.ref (b + 0), .int a1, .int a2] μ ((f_X9_callsOf a1 a2 μ)) :=
  z_entry (yn := yX9_callsOf) (by decide) (Nat.le_of_ble_eq_true rfl) rfl (w_X9_callsOf_0 a1 a2 μ)

def f_X9_plainHushes (a1 : Int32) (a2 : Int32) (μ : z_M) : Option (Int32 × z_M) :=
  z_bind (f_X9_note 11 μ) (fun p1 => z_bind (f_X9_callsOf a1 a2 p1.2) (fun p2 => some ((p2.1 * 2), p2.2)))
set_option maxRecDepth 20000 in
theorem w_X9_plainHushes_0 {D : va_G} {cI cL : ClassId} {b : Nat} {Z : State → Heap → Prop}  (a1 : Int32) (a2 : Int32) (μ : z_M) : z_w (zEm D cI cL b Z) (RX9, cX9_plainHushes, 3, (some .int), 2) z_ei 0 [(0, .ref (b + 0)), (1, .int a1), (2, .int a2)] [] μ ((f_X9_plainHushes a1 a2 μ)) := by
  unfold f_X9_plainHushes
  refine z_aload_n (pc := 0) dX9_plainHushes_0 rfl ?_
  refine z_bipush (pc := 1) dX9_plainHushes_1 zcb_11 ?_
  refine z_bindP (fun p1 hp1 => ?_)
  refine z_callVv (pc := 3) (As := [.int 11]) (S := []) (c_X9_note 11 μ) hp1 zw_X9_note zv_X9_note zm_X9_358 (n := 1) (by decide) rfl (z_recv gm_0 (T := TX9) (N := 52) rfl) rfl (Nat.le_of_ble_eq_true rfl) (by decide) (by decide) dX9_plainHushes_3 ?_
  refine z_aload_n (pc := 6) dX9_plainHushes_6 rfl ?_
  refine z_iload_n (pc := 7) dX9_plainHushes_7 rfl ?_
  refine z_iload_n (pc := 8) dX9_plainHushes_8 rfl ?_
  refine z_bindP (fun p2 hp2 => ?_)
  refine z_callVi (pc := 9) (As := [.int a1, .int a2]) (S := []) (c_X9_callsOf a1 a2 p1.2) hp2 zw_X9_callsOf zv_X9_callsOf zm_X9_361 (n := 2) (by decide) rfl (z_recv gm_0 (T := TX9) (N := 52) rfl) rfl (Nat.le_of_ble_eq_true rfl) (by decide) (by decide) dX9_plainHushes_9 ?_
  refine z_iconst (pc := 12) dX9_plainHushes_12 zci_2 ?_
  refine z_imul (pc := 13) dX9_plainHushes_13 ?_
  exact z_iret (pc := 14) rfl dX9_plainHushes_14

set_option maxRecDepth 20000 in
theorem c_X9_plainHushes {D : va_G} {cI cL : ClassId} {b : Nat} {Z : State → Heap → Prop}  (a1 : Int32) (a2 : Int32) (μ : z_M) : z_S (zEm D cI cL b Z) 2 yX9_plainHushes cX9_plainHushes 3 (some .int) z_ei [.ref (b + 0), .int a1, .int a2] μ ((f_X9_plainHushes a1 a2 μ)) :=
  z_entry (yn := yX9_plainHushes) (by decide) (Nat.le_of_ble_eq_true rfl) rfl (w_X9_plainHushes_0 a1 a2 μ)

def f_X9_hushesOf (a1 : Int32) (a2 : Int32) (μ : z_M) : Option (Int32 × z_M) :=
  z_chk a1 8 (if (μ.1 2 (z_ix a1)) = 2 then (z_bind (f_X9_note 30 μ) (fun p1 => z_bind (f_X9_plainHushes a1 a2 p1.2) (fun p2 => some ((p2.1 * 3), p2.2)))) else (if (μ.1 2 (z_ix a1)) = 3 then (z_bind (f_X9_note 40 μ) (fun p3 => z_bind (f_X9_note 30 p3.2) (fun p4 => z_bind (f_X9_plainHushes a1 (a2 + 1) p4.2) (fun p5 => some ((p5.1 * 3), p5.2))))) else (if (μ.1 2 (z_ix a1)) = 4 then (z_bind (f_X9_plainHushes a1 a2 μ) (fun p6 => some (p6.1, p6.2))) else (if (μ.1 2 (z_ix a1)) = 5 then (z_bind (f_X9_plainHushes a1 a2 μ) (fun p7 => some (p7.1, p7.2))) else (if (μ.1 2 (z_ix a1)) = 6 then (z_bind (f_X9_note 71 μ) (fun p8 => z_chk a1 8 (z_bind (f_X9_plainHushes a1 (a2 - (p8.2.1 4 (z_ix a1))) p8.2) (fun p9 => some (p9.1, p9.2))))) else (z_bind (f_X9_plainHushes a1 a2 μ) (fun p10 => some (p10.1, p10.2))))))))
set_option maxRecDepth 20000 in
theorem w_X9_hushesOf_0 {D : va_G} {cI cL : ClassId} {b : Nat} {Z : State → Heap → Prop}  (a1 : Int32) (a2 : Int32) (μ : z_M) : z_w (zEm D cI cL b Z) (RX9, cX9_hushesOf, 3, (some .int), 3) z_ei 0 [(0, .ref (b + 0)), (1, .int a1), (2, .int a2)] [] μ ((f_X9_hushesOf a1 a2 μ)) := by
  unfold f_X9_hushesOf
  refine z_aload_n (pc := 0) dX9_hushesOf_0 rfl ?_
  refine zgR_X9_13 (pc := 1) gm_0 rfl dX9_hushesOf_1 ?_
  refine z_iload_n (pc := 4) dX9_hushesOf_4 rfl ?_
  refine z_iald (pc := 5) gm_2 dX9_hushesOf_5 ?_
  refine z_split (fun hx => ?_) (fun hs6_0 => ?_)
  · refine z_tableIn (pc := 6) (x0 := 2) (off := 34) (tgt := 40) dX9_hushesOf_6 hx (by decide) (by decide) (by decide) (by decide) ?_
    refine z_aload_n (pc := 40) dX9_hushesOf_40 rfl ?_
    refine z_bipush (pc := 41) dX9_hushesOf_41 zcb_30 ?_
    refine z_bindP (fun p1 hp1 => ?_)
    refine z_callVv (pc := 43) (As := [.int 30]) (S := []) (c_X9_note 30 μ) hp1 zw_X9_note zv_X9_note zm_X9_358 (n := 1) (by decide) rfl (z_recv gm_0 (T := TX9) (N := 52) rfl) rfl (Nat.le_of_ble_eq_true rfl) (by decide) (by decide) dX9_hushesOf_43 ?_
    refine z_aload_n (pc := 46) dX9_hushesOf_46 rfl ?_
    refine z_iload_n (pc := 47) dX9_hushesOf_47 rfl ?_
    refine z_iload_n (pc := 48) dX9_hushesOf_48 rfl ?_
    refine z_bindP (fun p2 hp2 => ?_)
    refine z_callVi (pc := 49) (As := [.int a1, .int a2]) (S := []) (c_X9_plainHushes a1 a2 p1.2) hp2 zw_X9_plainHushes zv_X9_plainHushes zm_X9_364 (n := 2) (by decide) rfl (z_recv gm_0 (T := TX9) (N := 52) rfl) rfl (Nat.le_of_ble_eq_true rfl) (by decide) (by decide) dX9_hushesOf_49 ?_
    refine z_iconst (pc := 52) dX9_hushesOf_52 zci_3 ?_
    refine z_imul (pc := 53) dX9_hushesOf_53 ?_
    exact z_iret (pc := 54) rfl dX9_hushesOf_54
  · refine z_split (fun hx => ?_) (fun hs6_1 => ?_)
    · refine z_tableIn (pc := 6) (x0 := 3) (off := 49) (tgt := 55) dX9_hushesOf_6 hx (by decide) (by decide) (by decide) (by decide) ?_
      refine z_aload_n (pc := 55) dX9_hushesOf_55 rfl ?_
      refine z_bipush (pc := 56) dX9_hushesOf_56 zcb_40 ?_
      refine z_bindP (fun p3 hp3 => ?_)
      refine z_callVv (pc := 58) (As := [.int 40]) (S := []) (c_X9_note 40 μ) hp3 zw_X9_note zv_X9_note zm_X9_358 (n := 1) (by decide) rfl (z_recv gm_0 (T := TX9) (N := 52) rfl) rfl (Nat.le_of_ble_eq_true rfl) (by decide) (by decide) dX9_hushesOf_58 ?_
      refine z_aload_n (pc := 61) dX9_hushesOf_61 rfl ?_
      refine z_bipush (pc := 62) dX9_hushesOf_62 zcb_30 ?_
      refine z_bindP (fun p4 hp4 => ?_)
      refine z_callVv (pc := 64) (As := [.int 30]) (S := []) (c_X9_note 30 p3.2) hp4 zw_X9_note zv_X9_note zm_X9_358 (n := 1) (by decide) rfl (z_recv gm_0 (T := TX9) (N := 52) rfl) rfl (Nat.le_of_ble_eq_true rfl) (by decide) (by decide) dX9_hushesOf_64 ?_
      refine z_aload_n (pc := 67) dX9_hushesOf_67 rfl ?_
      refine z_iload_n (pc := 68) dX9_hushesOf_68 rfl ?_
      refine z_iload_n (pc := 69) dX9_hushesOf_69 rfl ?_
      refine z_iconst (pc := 70) dX9_hushesOf_70 zci_1 ?_
      refine z_iadd (pc := 71) dX9_hushesOf_71 ?_
      refine z_bindP (fun p5 hp5 => ?_)
      refine z_callVi (pc := 72) (As := [.int a1, .int (a2 + 1)]) (S := []) (c_X9_plainHushes a1 (a2 + 1) p4.2) hp5 zw_X9_plainHushes zv_X9_plainHushes zm_X9_364 (n := 2) (by decide) rfl (z_recv gm_0 (T := TX9) (N := 52) rfl) rfl (Nat.le_of_ble_eq_true rfl) (by decide) (by decide) dX9_hushesOf_72 ?_
      refine z_iconst (pc := 75) dX9_hushesOf_75 zci_3 ?_
      refine z_imul (pc := 76) dX9_hushesOf_76 ?_
      exact z_iret (pc := 77) rfl dX9_hushesOf_77
    · refine z_split (fun hx => ?_) (fun hs6_2 => ?_)
      · refine z_tableIn (pc := 6) (x0 := 4) (off := 92) (tgt := 98) dX9_hushesOf_6 hx (by decide) (by decide) (by decide) (by decide) ?_
        refine z_aload_n (pc := 98) dX9_hushesOf_98 rfl ?_
        refine z_iload_n (pc := 99) dX9_hushesOf_99 rfl ?_
        refine z_iload_n (pc := 100) dX9_hushesOf_100 rfl ?_
        refine z_bindP (fun p6 hp6 => ?_)
        refine z_callVi (pc := 101) (As := [.int a1, .int a2]) (S := []) (c_X9_plainHushes a1 a2 μ) hp6 zw_X9_plainHushes zv_X9_plainHushes zm_X9_364 (n := 2) (by decide) rfl (z_recv gm_0 (T := TX9) (N := 52) rfl) rfl (Nat.le_of_ble_eq_true rfl) (by decide) (by decide) dX9_hushesOf_101 ?_
        exact z_iret (pc := 104) rfl dX9_hushesOf_104
      · refine z_split (fun hx => ?_) (fun hs6_3 => ?_)
        · refine z_tableIn (pc := 6) (x0 := 5) (off := 92) (tgt := 98) dX9_hushesOf_6 hx (by decide) (by decide) (by decide) (by decide) ?_
          refine z_aload_n (pc := 98) dX9_hushesOf_98 rfl ?_
          refine z_iload_n (pc := 99) dX9_hushesOf_99 rfl ?_
          refine z_iload_n (pc := 100) dX9_hushesOf_100 rfl ?_
          refine z_bindP (fun p7 hp7 => ?_)
          refine z_callVi (pc := 101) (As := [.int a1, .int a2]) (S := []) (c_X9_plainHushes a1 a2 μ) hp7 zw_X9_plainHushes zv_X9_plainHushes zm_X9_364 (n := 2) (by decide) rfl (z_recv gm_0 (T := TX9) (N := 52) rfl) rfl (Nat.le_of_ble_eq_true rfl) (by decide) (by decide) dX9_hushesOf_101 ?_
          exact z_iret (pc := 104) rfl dX9_hushesOf_104
        · refine z_split (fun hx => ?_) (fun hs6_4 => ?_)
          · refine z_tableIn (pc := 6) (x0 := 6) (off := 72) (tgt := 78) dX9_hushesOf_6 hx (by decide) (by decide) (by decide) (by decide) ?_
            refine z_aload_n (pc := 78) dX9_hushesOf_78 rfl ?_
            refine z_bipush (pc := 79) dX9_hushesOf_79 zcb_71 ?_
            refine z_bindP (fun p8 hp8 => ?_)
            refine z_callVv (pc := 81) (As := [.int 71]) (S := []) (c_X9_note 71 μ) hp8 zw_X9_note zv_X9_note zm_X9_358 (n := 1) (by decide) rfl (z_recv gm_0 (T := TX9) (N := 52) rfl) rfl (Nat.le_of_ble_eq_true rfl) (by decide) (by decide) dX9_hushesOf_81 ?_
            refine z_aload_n (pc := 84) dX9_hushesOf_84 rfl ?_
            refine z_iload_n (pc := 85) dX9_hushesOf_85 rfl ?_
            refine z_iload_n (pc := 86) dX9_hushesOf_86 rfl ?_
            refine z_aload_n (pc := 87) dX9_hushesOf_87 rfl ?_
            refine zgR_X9_19 (pc := 88) gm_0 rfl dX9_hushesOf_88 ?_
            refine z_iload_n (pc := 91) dX9_hushesOf_91 rfl ?_
            refine z_iald (pc := 92) gm_4 dX9_hushesOf_92 ?_
            refine z_isub (pc := 93) dX9_hushesOf_93 ?_
            refine z_bindP (fun p9 hp9 => ?_)
            refine z_callVi (pc := 94) (As := [.int a1, .int (a2 - (p8.2.1 4 (z_ix a1)))]) (S := []) (c_X9_plainHushes a1 (a2 - (p8.2.1 4 (z_ix a1))) p8.2) hp9 zw_X9_plainHushes zv_X9_plainHushes zm_X9_364 (n := 2) (by decide) rfl (z_recv gm_0 (T := TX9) (N := 52) rfl) rfl (Nat.le_of_ble_eq_true rfl) (by decide) (by decide) dX9_hushesOf_94 ?_
            exact z_iret (pc := 97) rfl dX9_hushesOf_97
          · have hk0 := lv_neT hs6_0 (show Int32.toInt 2 = 2 by decide)
            have hk1 := lv_neT hs6_1 (show Int32.toInt 3 = 3 by decide)
            have hk2 := lv_neT hs6_2 (show Int32.toInt 4 = 4 by decide)
            have hk3 := lv_neT hs6_3 (show Int32.toInt 5 = 5 by decide)
            have hk4 := lv_neT hs6_4 (show Int32.toInt 6 = 6 by decide)
            refine z_tableOut (pc := 6) (tgt := 98) dX9_hushesOf_6 (by omega) (by decide) ?_
            refine z_aload_n (pc := 98) dX9_hushesOf_98 rfl ?_
            refine z_iload_n (pc := 99) dX9_hushesOf_99 rfl ?_
            refine z_iload_n (pc := 100) dX9_hushesOf_100 rfl ?_
            refine z_bindP (fun p10 hp10 => ?_)
            refine z_callVi (pc := 101) (As := [.int a1, .int a2]) (S := []) (c_X9_plainHushes a1 a2 μ) hp10 zw_X9_plainHushes zv_X9_plainHushes zm_X9_364 (n := 2) (by decide) rfl (z_recv gm_0 (T := TX9) (N := 52) rfl) rfl (Nat.le_of_ble_eq_true rfl) (by decide) (by decide) dX9_hushesOf_101 ?_
            exact z_iret (pc := 104) rfl dX9_hushesOf_104

set_option maxRecDepth 20000 in
theorem c_X9_hushesOf {D : va_G} {cI cL : ClassId} {b : Nat} {Z : State → Heap → Prop}  (a1 : Int32) (a2 : Int32) (μ : z_M) : z_S (zEm D cI cL b Z) 3 yX9_hushesOf cX9_hushesOf 3 (some .int) z_ei [.ref (b + 0), .int a1, .int a2] μ ((f_X9_hushesOf a1 a2 μ)) :=
  z_entry (yn := yX9_hushesOf) (by decide) (Nat.le_of_ble_eq_true rfl) rfl (w_X9_hushesOf_0 a1 a2 μ)

def f_X9_plainOpens (a1 : Int32) (a2 : Int32) (μ : z_M) : Option (Int32 × z_M) :=
  z_bind (f_X9_note 12 μ) (fun p1 => z_bind (f_X9_hushesOf a1 a2 p1.2) (fun p2 => z_chk a1 8 (z_bind (f_X9_callsOf a1 (a2 - (p2.2.1 4 (z_ix a1))) p2.2) (fun p3 => some ((p2.1 ^^^ p3.1), p3.2)))))
set_option maxRecDepth 20000 in
theorem w_X9_plainOpens_0 {D : va_G} {cI cL : ClassId} {b : Nat} {Z : State → Heap → Prop}  (a1 : Int32) (a2 : Int32) (μ : z_M) : z_w (zEm D cI cL b Z) (RX9, cX9_plainOpens, 4, (some .int), 4) z_ei 0 [(0, .ref (b + 0)), (1, .int a1), (2, .int a2)] [] μ ((f_X9_plainOpens a1 a2 μ)) := by
  unfold f_X9_plainOpens
  refine z_aload_n (pc := 0) dX9_plainOpens_0 rfl ?_
  refine z_bipush (pc := 1) dX9_plainOpens_1 zcb_12 ?_
  refine z_bindP (fun p1 hp1 => ?_)
  refine z_callVv (pc := 3) (As := [.int 12]) (S := []) (c_X9_note 12 μ) hp1 zw_X9_note zv_X9_note zm_X9_358 (n := 1) (by decide) rfl (z_recv gm_0 (T := TX9) (N := 52) rfl) rfl (Nat.le_of_ble_eq_true rfl) (by decide) (by decide) dX9_plainOpens_3 ?_
  refine z_aload_n (pc := 6) dX9_plainOpens_6 rfl ?_
  refine z_iload_n (pc := 7) dX9_plainOpens_7 rfl ?_
  refine z_iload_n (pc := 8) dX9_plainOpens_8 rfl ?_
  refine z_bindP (fun p2 hp2 => ?_)
  refine z_callVi (pc := 9) (As := [.int a1, .int a2]) (S := []) (c_X9_hushesOf a1 a2 p1.2) hp2 zw_X9_hushesOf zv_X9_hushesOf zm_X9_367 (n := 2) (by decide) rfl (z_recv gm_0 (T := TX9) (N := 52) rfl) rfl (Nat.le_of_ble_eq_true rfl) (by decide) (by decide) dX9_plainOpens_9 ?_
  refine z_istore_n (pc := 12) (L' := [(0, .ref (b + 0)), (1, .int a1), (2, .int a2), (3, .int p2.1)]) dX9_plainOpens_12 (by decide) rfl ?_
  refine z_iload_n (pc := 13) dX9_plainOpens_13 rfl ?_
  refine z_aload_n (pc := 14) dX9_plainOpens_14 rfl ?_
  refine z_iload_n (pc := 15) dX9_plainOpens_15 rfl ?_
  refine z_iload_n (pc := 16) dX9_plainOpens_16 rfl ?_
  refine z_aload_n (pc := 17) dX9_plainOpens_17 rfl ?_
  refine zgR_X9_19 (pc := 18) gm_0 rfl dX9_plainOpens_18 ?_
  refine z_iload_n (pc := 21) dX9_plainOpens_21 rfl ?_
  refine z_iald (pc := 22) gm_4 dX9_plainOpens_22 ?_
  refine z_isub (pc := 23) dX9_plainOpens_23 ?_
  refine z_bindP (fun p3 hp3 => ?_)
  refine z_callVi (pc := 24) (As := [.int a1, .int (a2 - (p2.2.1 4 (z_ix a1)))]) (S := [.int p2.1]) (c_X9_callsOf a1 (a2 - (p2.2.1 4 (z_ix a1))) p2.2) hp3 zw_X9_callsOf zv_X9_callsOf zm_X9_361 (n := 2) (by decide) rfl (z_recv gm_0 (T := TX9) (N := 52) rfl) rfl (Nat.le_of_ble_eq_true rfl) (by decide) (by decide) dX9_plainOpens_24 ?_
  refine z_ixor (pc := 27) dX9_plainOpens_27 ?_
  exact z_iret (pc := 28) rfl dX9_plainOpens_28

set_option maxRecDepth 20000 in
theorem c_X9_plainOpens {D : va_G} {cI cL : ClassId} {b : Nat} {Z : State → Heap → Prop}  (a1 : Int32) (a2 : Int32) (μ : z_M) : z_S (zEm D cI cL b Z) 4 yX9_plainOpens cX9_plainOpens 4 (some .int) z_ei [.ref (b + 0), .int a1, .int a2] μ ((f_X9_plainOpens a1 a2 μ)) :=
  z_entry (yn := yX9_plainOpens) (by decide) (Nat.le_of_ble_eq_true rfl) rfl (w_X9_plainOpens_0 a1 a2 μ)

def f_X9_opensOf (a1 : Int32) (a2 : Int32) (μ : z_M) : Option (Int32 × z_M) :=
  z_chk a1 8 (if (μ.1 2 (z_ix a1)) = 3 then (z_bind (f_X9_note 41 μ) (fun p1 => z_bind (f_X9_plainOpens a1 a2 p1.2) (fun p2 => some ((p2.1 - a1), p2.2)))) else (if (μ.1 2 (z_ix a1)) = 4 then (z_bind (f_X9_note 50 μ) (fun p3 => z_bind (f_X9_plainOpens a1 a2 p3.2) (fun p4 => some ((-p4.1), p4.2)))) else (if (μ.1 2 (z_ix a1)) = 5 then (z_bind (f_X9_note 60 μ) (fun p5 => z_bind (f_X9_note 50 p5.2) (fun p6 => z_bind (f_X9_plainOpens a1 a2 p6.2) (fun p7 => some (((-p7.1) ^^^ 5), p7.2))))) else (z_bind (f_X9_plainOpens a1 a2 μ) (fun p8 => some (p8.1, p8.2))))))
set_option maxRecDepth 20000 in
theorem w_X9_opensOf_0 {D : va_G} {cI cL : ClassId} {b : Nat} {Z : State → Heap → Prop}  (a1 : Int32) (a2 : Int32) (μ : z_M) : z_w (zEm D cI cL b Z) (RX9, cX9_opensOf, 3, (some .int), 5) z_ei 0 [(0, .ref (b + 0)), (1, .int a1), (2, .int a2)] [] μ ((f_X9_opensOf a1 a2 μ)) := by
  unfold f_X9_opensOf
  refine z_aload_n (pc := 0) dX9_opensOf_0 rfl ?_
  refine zgR_X9_13 (pc := 1) gm_0 rfl dX9_opensOf_1 ?_
  refine z_iload_n (pc := 4) dX9_opensOf_4 rfl ?_
  refine z_iald (pc := 5) gm_2 dX9_opensOf_5 ?_
  refine z_split (fun hx => ?_) (fun hs6_0 => ?_)
  · refine z_tableIn (pc := 6) (x0 := 3) (off := 26) (tgt := 32) dX9_opensOf_6 hx (by decide) (by decide) (by decide) (by decide) ?_
    refine z_aload_n (pc := 32) dX9_opensOf_32 rfl ?_
    refine z_bipush (pc := 33) dX9_opensOf_33 zcb_41 ?_
    refine z_bindP (fun p1 hp1 => ?_)
    refine z_callVv (pc := 35) (As := [.int 41]) (S := []) (c_X9_note 41 μ) hp1 zw_X9_note zv_X9_note zm_X9_358 (n := 1) (by decide) rfl (z_recv gm_0 (T := TX9) (N := 52) rfl) rfl (Nat.le_of_ble_eq_true rfl) (by decide) (by decide) dX9_opensOf_35 ?_
    refine z_aload_n (pc := 38) dX9_opensOf_38 rfl ?_
    refine z_iload_n (pc := 39) dX9_opensOf_39 rfl ?_
    refine z_iload_n (pc := 40) dX9_opensOf_40 rfl ?_
    refine z_bindP (fun p2 hp2 => ?_)
    refine z_callVi (pc := 41) (As := [.int a1, .int a2]) (S := []) (c_X9_plainOpens a1 a2 p1.2) hp2 zw_X9_plainOpens zv_X9_plainOpens zm_X9_370 (n := 2) (by decide) rfl (z_recv gm_0 (T := TX9) (N := 52) rfl) rfl (Nat.le_of_ble_eq_true rfl) (by decide) (by decide) dX9_opensOf_41 ?_
    refine z_iload_n (pc := 44) dX9_opensOf_44 rfl ?_
    refine z_isub (pc := 45) dX9_opensOf_45 ?_
    exact z_iret (pc := 46) rfl dX9_opensOf_46
  · refine z_split (fun hx => ?_) (fun hs6_1 => ?_)
    · refine z_tableIn (pc := 6) (x0 := 4) (off := 41) (tgt := 47) dX9_opensOf_6 hx (by decide) (by decide) (by decide) (by decide) ?_
      refine z_aload_n (pc := 47) dX9_opensOf_47 rfl ?_
      refine z_bipush (pc := 48) dX9_opensOf_48 zcb_50 ?_
      refine z_bindP (fun p3 hp3 => ?_)
      refine z_callVv (pc := 50) (As := [.int 50]) (S := []) (c_X9_note 50 μ) hp3 zw_X9_note zv_X9_note zm_X9_358 (n := 1) (by decide) rfl (z_recv gm_0 (T := TX9) (N := 52) rfl) rfl (Nat.le_of_ble_eq_true rfl) (by decide) (by decide) dX9_opensOf_50 ?_
      refine z_aload_n (pc := 53) dX9_opensOf_53 rfl ?_
      refine z_iload_n (pc := 54) dX9_opensOf_54 rfl ?_
      refine z_iload_n (pc := 55) dX9_opensOf_55 rfl ?_
      refine z_bindP (fun p4 hp4 => ?_)
      refine z_callVi (pc := 56) (As := [.int a1, .int a2]) (S := []) (c_X9_plainOpens a1 a2 p3.2) hp4 zw_X9_plainOpens zv_X9_plainOpens zm_X9_370 (n := 2) (by decide) rfl (z_recv gm_0 (T := TX9) (N := 52) rfl) rfl (Nat.le_of_ble_eq_true rfl) (by decide) (by decide) dX9_opensOf_56 ?_
      refine z_ineg (pc := 59) dX9_opensOf_59 ?_
      exact z_iret (pc := 60) rfl dX9_opensOf_60
    · refine z_split (fun hx => ?_) (fun hs6_2 => ?_)
      · refine z_tableIn (pc := 6) (x0 := 5) (off := 55) (tgt := 61) dX9_opensOf_6 hx (by decide) (by decide) (by decide) (by decide) ?_
        refine z_aload_n (pc := 61) dX9_opensOf_61 rfl ?_
        refine z_bipush (pc := 62) dX9_opensOf_62 zcb_60 ?_
        refine z_bindP (fun p5 hp5 => ?_)
        refine z_callVv (pc := 64) (As := [.int 60]) (S := []) (c_X9_note 60 μ) hp5 zw_X9_note zv_X9_note zm_X9_358 (n := 1) (by decide) rfl (z_recv gm_0 (T := TX9) (N := 52) rfl) rfl (Nat.le_of_ble_eq_true rfl) (by decide) (by decide) dX9_opensOf_64 ?_
        refine z_aload_n (pc := 67) dX9_opensOf_67 rfl ?_
        refine z_bipush (pc := 68) dX9_opensOf_68 zcb_50 ?_
        refine z_bindP (fun p6 hp6 => ?_)
        refine z_callVv (pc := 70) (As := [.int 50]) (S := []) (c_X9_note 50 p5.2) hp6 zw_X9_note zv_X9_note zm_X9_358 (n := 1) (by decide) rfl (z_recv gm_0 (T := TX9) (N := 52) rfl) rfl (Nat.le_of_ble_eq_true rfl) (by decide) (by decide) dX9_opensOf_70 ?_
        refine z_aload_n (pc := 73) dX9_opensOf_73 rfl ?_
        refine z_iload_n (pc := 74) dX9_opensOf_74 rfl ?_
        refine z_iload_n (pc := 75) dX9_opensOf_75 rfl ?_
        refine z_bindP (fun p7 hp7 => ?_)
        refine z_callVi (pc := 76) (As := [.int a1, .int a2]) (S := []) (c_X9_plainOpens a1 a2 p6.2) hp7 zw_X9_plainOpens zv_X9_plainOpens zm_X9_370 (n := 2) (by decide) rfl (z_recv gm_0 (T := TX9) (N := 52) rfl) rfl (Nat.le_of_ble_eq_true rfl) (by decide) (by decide) dX9_opensOf_76 ?_
        refine z_ineg (pc := 79) dX9_opensOf_79 ?_
        refine z_iconst (pc := 80) dX9_opensOf_80 zci_5 ?_
        refine z_ixor (pc := 81) dX9_opensOf_81 ?_
        exact z_iret (pc := 82) rfl dX9_opensOf_82
      · have hk0 := lv_neT hs6_0 (show Int32.toInt 3 = 3 by decide)
        have hk1 := lv_neT hs6_1 (show Int32.toInt 4 = 4 by decide)
        have hk2 := lv_neT hs6_2 (show Int32.toInt 5 = 5 by decide)
        refine z_tableOut (pc := 6) (tgt := 83) dX9_opensOf_6 (by omega) (by decide) ?_
        refine z_aload_n (pc := 83) dX9_opensOf_83 rfl ?_
        refine z_iload_n (pc := 84) dX9_opensOf_84 rfl ?_
        refine z_iload_n (pc := 85) dX9_opensOf_85 rfl ?_
        refine z_bindP (fun p8 hp8 => ?_)
        refine z_callVi (pc := 86) (As := [.int a1, .int a2]) (S := []) (c_X9_plainOpens a1 a2 μ) hp8 zw_X9_plainOpens zv_X9_plainOpens zm_X9_370 (n := 2) (by decide) rfl (z_recv gm_0 (T := TX9) (N := 52) rfl) rfl (Nat.le_of_ble_eq_true rfl) (by decide) (by decide) dX9_opensOf_86 ?_
        exact z_iret (pc := 89) rfl dX9_opensOf_89

set_option maxRecDepth 20000 in
theorem c_X9_opensOf {D : va_G} {cI cL : ClassId} {b : Nat} {Z : State → Heap → Prop}  (a1 : Int32) (a2 : Int32) (μ : z_M) : z_S (zEm D cI cL b Z) 5 yX9_opensOf cX9_opensOf 3 (some .int) z_ei [.ref (b + 0), .int a1, .int a2] μ ((f_X9_opensOf a1 a2 μ)) :=
  z_entry (yn := yX9_opensOf) (by decide) (Nat.le_of_ble_eq_true rfl) rfl (w_X9_opensOf_0 a1 a2 μ)

def f_X9_act (a1 : Int32) (a2 : Int32) (a3 : Int32) (μ : z_M) : Option (Int32 × z_M) :=
  z_let (z_sI μ 0 51 0) (fun m1 => if (f_X9_isHouse a1 m1) = 0 then (some (0, m1)) else (if (f_X9_isIn a2 0 2 m1) = 0 then (some (0, m1)) else (if a2 = 0 then (z_bind (f_X9_callsOf a1 a3 m1) (fun p2 => some (p2.1, p2.2))) else (if a2 = 1 then (z_bind (f_X9_hushesOf a1 a3 m1) (fun p3 => some (p3.1, p3.2))) else (z_bind (f_X9_opensOf a1 a3 m1) (fun p4 => some (p4.1, p4.2)))))))
set_option maxRecDepth 20000 in
theorem w_X9_act_0 {D : va_G} {cI cL : ClassId} {b : Nat} {Z : State → Heap → Prop}  (a1 : Int32) (a2 : Int32) (a3 : Int32) (μ : z_M) : z_w (zEm D cI cL b Z) (RX9, cX9_act, 4, (some .int), 6) z_ei 0 [(0, .ref (b + 0)), (1, .int a1), (2, .int a2), (3, .int a3)] [] μ ((f_X9_act a1 a2 a3 μ)) := by
  unfold f_X9_act
  refine z_aload_n (pc := 0) dX9_act_0 rfl ?_
  refine z_iconst (pc := 1) dX9_act_1 zci_0 ?_
  refine zpI_X9_355 (pc := 2) gm_0 rfl dX9_act_2 ?_
  refine z_letMO (fun m1 => ?_)
  refine z_aload_n (pc := 5) dX9_act_5 rfl ?_
  refine z_iload_n (pc := 6) dX9_act_6 rfl ?_
  refine z_callVi (pc := 7) (As := [.int a1]) (S := []) (c_X9_isHouse a1 m1) rfl zw_X9_isHouse zv_X9_isHouse zm_X9_188 (n := 1) (by decide) rfl (z_recv gm_0 (T := TX9) (N := 52) rfl) rfl (Nat.le_of_ble_eq_true rfl) (by decide) (by decide) dX9_act_7 ?_
  refine z_if_eq (pc := 10) (tgt := 22) dX9_act_10 (by decide) (fun _ => ?_) (fun _ => ?_)
  · refine z_iconst (pc := 22) dX9_act_22 zci_0 ?_
    exact z_iret (pc := 23) rfl dX9_act_23
  · refine z_iload_n (pc := 13) dX9_act_13 rfl ?_
    refine z_iconst (pc := 14) dX9_act_14 zci_0 ?_
    refine z_iconst (pc := 15) dX9_act_15 zci_2 ?_
    refine z_callSi (pc := 16) (As := [.int a2, .int 0, .int 2]) (S := []) (c_X9_isIn a2 0 2 m1) rfl zw_X9_isIn zs_X9_isIn zm_X9_167 (n := 3) (by decide) rfl rfl (Nat.le_of_ble_eq_true rfl) (by decide) (by decide) dX9_act_16 ?_
    refine z_if_ne (pc := 19) (tgt := 24) dX9_act_19 (by decide) (fun _ => ?_) (fun _ => ?_)
    · refine z_iconst (pc := 22) dX9_act_22 zci_0 ?_
      exact z_iret (pc := 23) rfl dX9_act_23
    · refine z_iload_n (pc := 24) dX9_act_24 rfl ?_
      refine z_if_ne (pc := 25) (tgt := 37) dX9_act_25 (by decide) (fun _ => ?_) (fun _ => ?_)
      · refine z_aload_n (pc := 28) dX9_act_28 rfl ?_
        refine z_iload_n (pc := 29) dX9_act_29 rfl ?_
        refine z_iload_n (pc := 30) dX9_act_30 rfl ?_
        refine z_bindP (fun p2 hp2 => ?_)
        refine z_callVi (pc := 31) (As := [.int a1, .int a3]) (S := []) (c_X9_callsOf a1 a3 m1) hp2 zw_X9_callsOf zv_X9_callsOf zm_X9_361 (n := 2) (by decide) rfl (z_recv gm_0 (T := TX9) (N := 52) rfl) rfl (Nat.le_of_ble_eq_true rfl) (by decide) (by decide) dX9_act_31 ?_
        refine z_goto (pc := 34) (tgt := 57) dX9_act_34 (by decide) ?_
        exact z_iret (pc := 57) rfl dX9_act_57
      · refine z_iload_n (pc := 37) dX9_act_37 rfl ?_
        refine z_iconst (pc := 38) dX9_act_38 zci_1 ?_
        refine z_icmp_ne (pc := 39) (tgt := 51) dX9_act_39 (by decide) (fun _ => ?_) (fun _ => ?_)
        · refine z_aload_n (pc := 42) dX9_act_42 rfl ?_
          refine z_iload_n (pc := 43) dX9_act_43 rfl ?_
          refine z_iload_n (pc := 44) dX9_act_44 rfl ?_
          refine z_bindP (fun p3 hp3 => ?_)
          refine z_callVi (pc := 45) (As := [.int a1, .int a3]) (S := []) (c_X9_hushesOf a1 a3 m1) hp3 zw_X9_hushesOf zv_X9_hushesOf zm_X9_367 (n := 2) (by decide) rfl (z_recv gm_0 (T := TX9) (N := 52) rfl) rfl (Nat.le_of_ble_eq_true rfl) (by decide) (by decide) dX9_act_45 ?_
          refine z_goto (pc := 48) (tgt := 57) dX9_act_48 (by decide) ?_
          exact z_iret (pc := 57) rfl dX9_act_57
        · refine z_aload_n (pc := 51) dX9_act_51 rfl ?_
          refine z_iload_n (pc := 52) dX9_act_52 rfl ?_
          refine z_iload_n (pc := 53) dX9_act_53 rfl ?_
          refine z_bindP (fun p4 hp4 => ?_)
          refine z_callVi (pc := 54) (As := [.int a1, .int a3]) (S := []) (c_X9_opensOf a1 a3 m1) hp4 zw_X9_opensOf zv_X9_opensOf zm_X9_373 (n := 2) (by decide) rfl (z_recv gm_0 (T := TX9) (N := 52) rfl) rfl (Nat.le_of_ble_eq_true rfl) (by decide) (by decide) dX9_act_54 ?_
          exact z_iret (pc := 57) rfl dX9_act_57

set_option maxRecDepth 20000 in
theorem c_X9_act {D : va_G} {cI cL : ClassId} {b : Nat} {Z : State → Heap → Prop}  (a1 : Int32) (a2 : Int32) (a3 : Int32) (μ : z_M) : z_S (zEm D cI cL b Z) 6 yX9_act cX9_act 4 (some .int) z_ei [.ref (b + 0), .int a1, .int a2, .int a3] μ ((f_X9_act a1 a2 a3 μ)) :=
  z_entry (yn := yX9_act) (by decide) (Nat.le_of_ble_eq_true rfl) rfl (w_X9_act_0 a1 a2 a3 μ)

def f_X9_trace (a1 : Int32) (μ : z_M) : Option (Int32 × z_M) :=
  if (f_X9_isIn a1 0 19 μ) = 0 then (some ((-1), μ)) else (if a1 < (μ.1 0 51) then (z_chk a1 20 (some ((μ.1 26 (z_ix a1)), μ))) else (some ((-1), μ)))
set_option maxRecDepth 20000 in
theorem w_X9_trace_0 {D : va_G} {cI cL : ClassId} {b : Nat} {Z : State → Heap → Prop}  (a1 : Int32) (μ : z_M) : z_w (zEm D cI cL b Z) (RX9, cX9_trace, 2, (some .int), 1) z_ei 0 [(0, .ref (b + 0)), (1, .int a1)] [] μ ((f_X9_trace a1 μ)) := by
  unfold f_X9_trace
  refine z_iload_n (pc := 0) dX9_trace_0 rfl ?_
  refine z_iconst (pc := 1) dX9_trace_1 zci_0 ?_
  refine z_bipush (pc := 2) dX9_trace_2 zcb_19 ?_
  refine z_callSi (pc := 4) (As := [.int a1, .int 0, .int 19]) (S := []) (c_X9_isIn a1 0 19 μ) rfl zw_X9_isIn zs_X9_isIn zm_X9_167 (n := 3) (by decide) rfl rfl (Nat.le_of_ble_eq_true rfl) (by decide) (by decide) dX9_trace_4 ?_
  refine z_if_eq (pc := 7) (tgt := 27) dX9_trace_7 (by decide) (fun _ => ?_) (fun _ => ?_)
  · refine z_iconst (pc := 27) dX9_trace_27 zci_m1 ?_
    exact z_iret (pc := 28) rfl dX9_trace_28
  · refine z_iload_n (pc := 10) dX9_trace_10 rfl ?_
    refine z_aload_n (pc := 11) dX9_trace_11 rfl ?_
    refine zgI_X9_355 (pc := 12) gm_0 rfl dX9_trace_12 ?_
    refine z_icmp_ge (pc := 15) (tgt := 27) dX9_trace_15 (by decide) (fun _ => ?_) (fun _ => ?_)
    · refine z_aload_n (pc := 18) dX9_trace_18 rfl ?_
      refine zgR_X9_99 (pc := 19) gm_0 rfl dX9_trace_19 ?_
      refine z_iload_n (pc := 22) dX9_trace_22 rfl ?_
      refine z_iald (pc := 23) gm_26 dX9_trace_23 ?_
      refine z_goto (pc := 24) (tgt := 28) dX9_trace_24 (by decide) ?_
      exact z_iret (pc := 28) rfl dX9_trace_28
    · refine z_iconst (pc := 27) dX9_trace_27 zci_m1 ?_
      exact z_iret (pc := 28) rfl dX9_trace_28

set_option maxRecDepth 20000 in
theorem c_X9_trace {D : va_G} {cI cL : ClassId} {b : Nat} {Z : State → Heap → Prop}  (a1 : Int32) (μ : z_M) : z_S (zEm D cI cL b Z) 1 yX9_trace cX9_trace 2 (some .int) z_ei [.ref (b + 0), .int a1] μ ((f_X9_trace a1 μ)) :=
  z_entry (yn := yX9_trace) (by decide) (Nat.le_of_ble_eq_true rfl) rfl (w_X9_trace_0 a1 μ)

def f_X9_status_h84 : Nat → Int32 → Int32 → z_M → Option (Int32 × z_M)
  | 0, _, _, _ => none
  | n + 1, l2, l3, μ =>
    if l3 < (μ.1 0 9) then (z_chk l3 12 (z_let ((l2 + (μ.1 8 (z_ix l3))) : Int32) (fun x1 => f_X9_status_h84 n x1 (l3 + 1) μ))) else (some (l2, μ))
def f_X9_status (n : Nat) (a1 : Int32) (μ : z_M) : Option (Int32 × z_M) :=
  if (f_X9_isIn a1 11 17 μ) = 0 then (if a1 = 0 then (some ((μ.1 0 8), μ)) else (if a1 = 1 then (some ((μ.1 0 9), μ)) else (if a1 = 2 then (f_X9_status_h84 n 0 0 μ) else (if a1 = 3 then (some ((μ.1 0 10), μ)) else (if a1 = 4 then (some ((μ.1 0 11), μ)) else (if a1 = 5 then (some ((μ.1 0 12), μ)) else (if a1 = 6 then (some ((μ.1 0 13), μ)) else (if a1 = 7 then (some ((μ.1 0 51), μ)) else (some ((-1), μ)))))))))) else (z_chk (a1 - 10) 8 (some ((μ.1 1 (z_ix (a1 - 10))), μ)))
set_option maxRecDepth 20000 in
theorem w_X9_status_84 {D : va_G} {cI cL : ClassId} {b : Nat} {Z : State → Heap → Prop}  : ∀ (n : Nat) (l2 : Int32) (l3 : Int32) (μ : z_M), z_w (zEm D cI cL b Z) (RX9, cX9_status, 4, (some .int), 1) z_ei 84 [(0, .ref (b + 0)), (2, .int l2), (3, .int l3)] [] μ (f_X9_status_h84 n l2 l3 μ) := by
  intro n
  induction n with
  | zero =>
    intro l2 l3 μ
    exact z_none
  | succ n ih =>
    intro l2 l3 μ
    unfold f_X9_status_h84
    refine z_iload_n (pc := 84) dX9_status_84 rfl ?_
    refine z_aload_n (pc := 85) dX9_status_85 rfl ?_
    refine zgI_X9_105 (pc := 86) gm_0 rfl dX9_status_86 ?_
    refine z_icmp_ge (pc := 89) (tgt := 107) dX9_status_89 (by decide) (fun _ => ?_) (fun _ => ?_)
    · refine z_iload_n (pc := 92) dX9_status_92 rfl ?_
      refine z_aload_n (pc := 93) dX9_status_93 rfl ?_
      refine zgR_X9_31 (pc := 94) gm_0 rfl dX9_status_94 ?_
      refine z_iload_n (pc := 97) dX9_status_97 rfl ?_
      refine z_iald (pc := 98) gm_8 dX9_status_98 ?_
      refine z_iadd (pc := 99) dX9_status_99 ?_
      refine z_letIO (fun x1 => ?_)
      refine z_istore_n (pc := 100) (L' := [(0, .ref (b + 0)), (2, .int x1), (3, .int l3)]) dX9_status_100 (by decide) rfl ?_
      refine z_iinc (pc := 101) (v := (l3 + 1)) (L' := [(0, .ref (b + 0)), (2, .int x1), (3, .int (l3 + 1))]) dX9_status_101 rfl (by decide) rfl rfl ?_
      refine z_goto (pc := 104) (tgt := 84) dX9_status_104 (by decide) ?_
      exact ih x1 (l3 + 1) μ
    · refine z_iload_n (pc := 107) dX9_status_107 rfl ?_
      exact z_iret (pc := 108) rfl dX9_status_108

set_option maxRecDepth 20000 in
theorem w_X9_status_0 {D : va_G} {cI cL : ClassId} {b : Nat} {Z : State → Heap → Prop}  (n : Nat) (a1 : Int32) (μ : z_M) : z_w (zEm D cI cL b Z) (RX9, cX9_status, 4, (some .int), 1) z_ei 0 [(0, .ref (b + 0)), (1, .int a1)] [] μ ((f_X9_status n a1 μ)) := by
  unfold f_X9_status
  refine z_iload_n (pc := 0) dX9_status_0 rfl ?_
  refine z_bipush (pc := 1) dX9_status_1 zcb_11 ?_
  refine z_bipush (pc := 3) dX9_status_3 zcb_17 ?_
  refine z_callSi (pc := 5) (As := [.int a1, .int 11, .int 17]) (S := []) (c_X9_isIn a1 11 17 μ) rfl zw_X9_isIn zs_X9_isIn zm_X9_167 (n := 3) (by decide) rfl rfl (Nat.le_of_ble_eq_true rfl) (by decide) (by decide) dX9_status_5 ?_
  refine z_if_eq (pc := 8) (tgt := 21) dX9_status_8 (by decide) (fun _ => ?_) (fun _ => ?_)
  · refine z_iconst (pc := 21) dX9_status_21 zci_0 ?_
    refine z_istore_n (pc := 22) (L' := [(0, .ref (b + 0)), (1, .int a1), (2, .int 0)]) dX9_status_22 (by decide) rfl ?_
    refine z_iload_n (pc := 23) dX9_status_23 rfl ?_
    refine z_split (fun hx => ?_) (fun hs24_0 => ?_)
    · refine z_tableIn (pc := 24) (x0 := 0) (off := 48) (tgt := 72) dX9_status_24 hx (by decide) (by decide) (by decide) (by decide) ?_
      refine z_aload_n (pc := 72) dX9_status_72 rfl ?_
      refine zgI_X9_102 (pc := 73) gm_0 rfl dX9_status_73 ?_
      exact z_iret (pc := 76) rfl dX9_status_76
    · refine z_split (fun hx => ?_) (fun hs24_1 => ?_)
      · refine z_tableIn (pc := 24) (x0 := 1) (off := 53) (tgt := 77) dX9_status_24 hx (by decide) (by decide) (by decide) (by decide) ?_
        refine z_aload_n (pc := 77) dX9_status_77 rfl ?_
        refine zgI_X9_105 (pc := 78) gm_0 rfl dX9_status_78 ?_
        exact z_iret (pc := 81) rfl dX9_status_81
      · refine z_split (fun hx => ?_) (fun hs24_2 => ?_)
        · refine z_tableIn (pc := 24) (x0 := 2) (off := 58) (tgt := 82) dX9_status_24 hx (by decide) (by decide) (by decide) (by decide) ?_
          refine z_iconst (pc := 82) dX9_status_82 zci_0 ?_
          refine z_istore_n (pc := 83) (L' := [(0, .ref (b + 0)), (1, .int a1), (2, .int 0), (3, .int 0)]) dX9_status_83 (by decide) rfl ?_
          refine z_drop (L' := [(0, .ref (b + 0)), (2, .int 0), (3, .int 0)]) [0, 2, 3] rfl ?_
          exact w_X9_status_84 n 0 0 μ
        · refine z_split (fun hx => ?_) (fun hs24_3 => ?_)
          · refine z_tableIn (pc := 24) (x0 := 3) (off := 85) (tgt := 109) dX9_status_24 hx (by decide) (by decide) (by decide) (by decide) ?_
            refine z_aload_n (pc := 109) dX9_status_109 rfl ?_
            refine zgI_X9_34 (pc := 110) gm_0 rfl dX9_status_110 ?_
            exact z_iret (pc := 113) rfl dX9_status_113
          · refine z_split (fun hx => ?_) (fun hs24_4 => ?_)
            · refine z_tableIn (pc := 24) (x0 := 4) (off := 90) (tgt := 114) dX9_status_24 hx (by decide) (by decide) (by decide) (by decide) ?_
              refine z_aload_n (pc := 114) dX9_status_114 rfl ?_
              refine zgI_X9_282 (pc := 115) gm_0 rfl dX9_status_115 ?_
              exact z_iret (pc := 118) rfl dX9_status_118
            · refine z_split (fun hx => ?_) (fun hs24_5 => ?_)
              · refine z_tableIn (pc := 24) (x0 := 5) (off := 95) (tgt := 119) dX9_status_24 hx (by decide) (by decide) (by decide) (by decide) ?_
                refine z_aload_n (pc := 119) dX9_status_119 rfl ?_
                refine zgI_X9_285 (pc := 120) gm_0 rfl dX9_status_120 ?_
                exact z_iret (pc := 123) rfl dX9_status_123
              · refine z_split (fun hx => ?_) (fun hs24_6 => ?_)
                · refine z_tableIn (pc := 24) (x0 := 6) (off := 100) (tgt := 124) dX9_status_24 hx (by decide) (by decide) (by decide) (by decide) ?_
                  refine z_aload_n (pc := 124) dX9_status_124 rfl ?_
                  refine zgI_X9_38 (pc := 125) gm_0 rfl dX9_status_125 ?_
                  exact z_iret (pc := 128) rfl dX9_status_128
                · refine z_split (fun hx => ?_) (fun hs24_7 => ?_)
                  · refine z_tableIn (pc := 24) (x0 := 7) (off := 105) (tgt := 129) dX9_status_24 hx (by decide) (by decide) (by decide) (by decide) ?_
                    refine z_aload_n (pc := 129) dX9_status_129 rfl ?_
                    refine zgI_X9_355 (pc := 130) gm_0 rfl dX9_status_130 ?_
                    exact z_iret (pc := 133) rfl dX9_status_133
                  · have hk0 := lv_neT hs24_0 (show Int32.toInt 0 = 0 by decide)
                    have hk1 := lv_neT hs24_1 (show Int32.toInt 1 = 1 by decide)
                    have hk2 := lv_neT hs24_2 (show Int32.toInt 2 = 2 by decide)
                    have hk3 := lv_neT hs24_3 (show Int32.toInt 3 = 3 by decide)
                    have hk4 := lv_neT hs24_4 (show Int32.toInt 4 = 4 by decide)
                    have hk5 := lv_neT hs24_5 (show Int32.toInt 5 = 5 by decide)
                    have hk6 := lv_neT hs24_6 (show Int32.toInt 6 = 6 by decide)
                    have hk7 := lv_neT hs24_7 (show Int32.toInt 7 = 7 by decide)
                    refine z_tableOut (pc := 24) (tgt := 134) dX9_status_24 (by omega) (by decide) ?_
                    refine z_iconst (pc := 134) dX9_status_134 zci_m1 ?_
                    exact z_iret (pc := 135) rfl dX9_status_135
  · refine z_aload_n (pc := 11) dX9_status_11 rfl ?_
    refine zgR_X9_7 (pc := 12) gm_0 rfl dX9_status_12 ?_
    refine z_iload_n (pc := 15) dX9_status_15 rfl ?_
    refine z_bipush (pc := 16) dX9_status_16 zcb_10 ?_
    refine z_isub (pc := 18) dX9_status_18 ?_
    refine z_iald (pc := 19) gm_1 dX9_status_19 ?_
    exact z_iret (pc := 20) rfl dX9_status_20

set_option maxRecDepth 20000 in
theorem c_X9_status {D : va_G} {cI cL : ClassId} {b : Nat} {Z : State → Heap → Prop}  (n : Nat) (a1 : Int32) (μ : z_M) : z_S (zEm D cI cL b Z) 1 yX9_status cX9_status 4 (some .int) z_ei [.ref (b + 0), .int a1] μ ((f_X9_status n a1 μ)) :=
  z_entry (yn := yX9_status) (by decide) (Nat.le_of_ble_eq_true rfl) rfl (w_X9_status_0 n a1 μ)

def f_X9_shuts_b39 (n : Nat)  (μ : z_M) : Option (Int32 × z_M) :=
  z_bind (f_X9_no (-6) μ) (fun p2 => some (p2.1, p2.2))
def f_X9_shuts_b113 (r52 : Int32 → Int32 → Int32 → Int32 → Int32 → z_M → Option (Int32 × z_M)) (n : Nat) (l1 : Int32) (l2 : Int32) (l3 : Int32) (l4 : Int32) (l5 : Int32) (μ : z_M) : Option (Int32 × z_M) :=
  r52 l1 l2 l3 l4 (l5 + 1) μ
def f_X9_shuts_b81 (r52 : Int32 → Int32 → Int32 → Int32 → Int32 → z_M → Option (Int32 × z_M)) (n : Nat) (l1 : Int32) (l2 : Int32) (l3 : Int32) (l4 : Int32) (l5 : Int32) (μ : z_M) : Option (Int32 × z_M) :=
  z_bind (f_X9_doesShutTwice n l5 μ) (fun p3 => if p3.1 = 0 then (z_let (z_sI p3.2 0 24 l5) (fun m4 => z_bind (f_X9_canHear n l1 l2 l3 m4) (fun p5 => if p5.1 = 0 then (f_X9_shuts_b113 r52 n l1 l2 l3 l5 l5 p5.2) else (f_X9_shuts_b113 r52 n l1 l2 l3 l4 l5 p5.2)))) else (f_X9_shuts_b113 r52 n l1 l2 l3 l4 l5 p3.2))
def f_X9_shuts_h52 : Nat → Int32 → Int32 → Int32 → Int32 → Int32 → z_M → Option (Int32 × z_M)
  | 0, _, _, _, _, _, _ => none
  | n + 1, l1, l2, l3, l4, l5, μ =>
    if l5 < (1 <<< ((μ.1 0 9) &&& 31)) then (if l4 < 0 then (f_X9_shuts_b81 (f_X9_shuts_h52 n) n l1 l2 l3 l4 l5 μ) else (z_bind (f_X9_bits n l5 μ) (fun p6 => z_bind (f_X9_bits n l4 p6.2) (fun p7 => if p6.1 < p7.1 then (f_X9_shuts_b81 (f_X9_shuts_h52 n) n l1 l2 l3 l4 l5 p7.2) else (f_X9_shuts_b113 (f_X9_shuts_h52 n) n l1 l2 l3 l4 l5 p7.2))))) else (z_let (z_sI μ 0 24 0) (fun m8 => if l4 < 0 then (z_bind (f_X9_no (-6) m8) (fun p9 => some (p9.1, p9.2))) else (some (l4, m8))))
def f_X9_shuts (n : Nat) (a1 : Int32) (a2 : Int32) (a3 : Int32) (μ : z_M) : Option (Int32 × z_M) :=
  if (f_X9_isHouse a1 μ) = 0 then (z_bind (f_X9_no (-1) μ) (fun p1 => some (p1.1, p1.2))) else (if (f_X9_isSet a2 μ) = 0 then (f_X9_shuts_b39 n μ) else (if (f_X9_isIn a3 1 4 μ) = 0 then (f_X9_shuts_b39 n μ) else (if (μ.1 9 (z_ix 0)) < 0 then (f_X9_shuts_b39 n μ) else (f_X9_shuts_h52 n a1 a2 a3 (-1) 0 μ))))
set_option maxRecDepth 20000 in
theorem w_X9_shuts_39 {D : va_G} {cI cL : ClassId} {b : Nat} {Z : State → Heap → Prop}  (n : Nat)  (μ : z_M) : z_w (zEm D cI cL b Z) (RX9, cX9_shuts, 6, (some .int), 5) z_ei 39 [(0, .ref (b + 0))] [] μ ((f_X9_shuts_b39 n μ)) := by
  unfold f_X9_shuts_b39
  refine z_aload_n (pc := 39) dX9_shuts_39 rfl ?_
  refine z_bipush (pc := 40) dX9_shuts_40 zcb_m6 ?_
  refine z_bindP (fun p2 hp2 => ?_)
  refine z_callVi (pc := 42) (As := [.int (-6)]) (S := []) (c_X9_no (-6) μ) hp2 zw_X9_no zv_X9_no zm_X9_171 (n := 1) (by decide) rfl (z_recv gm_0 (T := TX9) (N := 52) rfl) rfl (Nat.le_of_ble_eq_true rfl) (by decide) (by decide) dX9_shuts_42 ?_
  exact z_iret (pc := 45) rfl dX9_shuts_45

set_option maxRecDepth 20000 in
theorem w_X9_shuts_113 {D : va_G} {cI cL : ClassId} {b : Nat} {Z : State → Heap → Prop}  (r52 : Int32 → Int32 → Int32 → Int32 → Int32 → z_M → Option (Int32 × z_M)) (hr52 : ∀ (l1 : Int32) (l2 : Int32) (l3 : Int32) (l4 : Int32) (l5 : Int32) (μ : z_M), z_w (zEm D cI cL b Z) (RX9, cX9_shuts, 6, (some .int), 5) z_ei 52 [(0, .ref (b + 0)), (1, .int l1), (2, .int l2), (3, .int l3), (4, .int l4), (5, .int l5)] [] μ ((r52 l1 l2 l3 l4 l5 μ))) (n : Nat) (l1 : Int32) (l2 : Int32) (l3 : Int32) (l4 : Int32) (l5 : Int32) (μ : z_M) : z_w (zEm D cI cL b Z) (RX9, cX9_shuts, 6, (some .int), 5) z_ei 113 [(0, .ref (b + 0)), (1, .int l1), (2, .int l2), (3, .int l3), (4, .int l4), (5, .int l5)] [] μ ((f_X9_shuts_b113 r52 n l1 l2 l3 l4 l5 μ)) := by
  unfold f_X9_shuts_b113
  refine z_iinc (pc := 113) (v := (l5 + 1)) (L' := [(0, .ref (b + 0)), (1, .int l1), (2, .int l2), (3, .int l3), (4, .int l4), (5, .int (l5 + 1))]) dX9_shuts_113 rfl (by decide) rfl rfl ?_
  refine z_goto (pc := 116) (tgt := 52) dX9_shuts_116 (by decide) ?_
  exact hr52 l1 l2 l3 l4 (l5 + 1) μ

set_option maxRecDepth 20000 in
theorem w_X9_shuts_81 {D : va_G} {cI cL : ClassId} {b : Nat} {Z : State → Heap → Prop}  (r52 : Int32 → Int32 → Int32 → Int32 → Int32 → z_M → Option (Int32 × z_M)) (hr52 : ∀ (l1 : Int32) (l2 : Int32) (l3 : Int32) (l4 : Int32) (l5 : Int32) (μ : z_M), z_w (zEm D cI cL b Z) (RX9, cX9_shuts, 6, (some .int), 5) z_ei 52 [(0, .ref (b + 0)), (1, .int l1), (2, .int l2), (3, .int l3), (4, .int l4), (5, .int l5)] [] μ ((r52 l1 l2 l3 l4 l5 μ))) (n : Nat) (l1 : Int32) (l2 : Int32) (l3 : Int32) (l4 : Int32) (l5 : Int32) (μ : z_M) : z_w (zEm D cI cL b Z) (RX9, cX9_shuts, 6, (some .int), 5) z_ei 81 [(0, .ref (b + 0)), (1, .int l1), (2, .int l2), (3, .int l3), (4, .int l4), (5, .int l5)] [] μ ((f_X9_shuts_b81 r52 n l1 l2 l3 l4 l5 μ)) := by
  unfold f_X9_shuts_b81
  refine z_aload_n (pc := 81) dX9_shuts_81 rfl ?_
  refine z_iload (pc := 82) dX9_shuts_82 rfl ?_
  refine z_bindP (fun p3 hp3 => ?_)
  refine z_callVi (pc := 84) (As := [.int l5]) (S := []) (c_X9_doesShutTwice n l5 μ) hp3 zw_X9_doesShutTwice zv_X9_doesShutTwice zm_X9_349 (n := 1) (by decide) rfl (z_recv gm_0 (T := TX9) (N := 52) rfl) rfl (Nat.le_of_ble_eq_true rfl) (by decide) (by decide) dX9_shuts_84 ?_
  refine z_if_eq (pc := 87) (tgt := 93) dX9_shuts_87 (by decide) (fun _ => ?_) (fun _ => ?_)
  · refine z_aload_n (pc := 93) dX9_shuts_93 rfl ?_
    refine z_iload (pc := 94) dX9_shuts_94 rfl ?_
    refine zpI_X9_108 (pc := 96) gm_0 rfl dX9_shuts_96 ?_
    refine z_letMO (fun m4 => ?_)
    refine z_aload_n (pc := 99) dX9_shuts_99 rfl ?_
    refine z_iload_n (pc := 100) dX9_shuts_100 rfl ?_
    refine z_iload_n (pc := 101) dX9_shuts_101 rfl ?_
    refine z_iload_n (pc := 102) dX9_shuts_102 rfl ?_
    refine z_bindP (fun p5 hp5 => ?_)
    refine z_callVi (pc := 103) (As := [.int l1, .int l2, .int l3]) (S := []) (c_X9_canHear n l1 l2 l3 m4) hp5 zw_X9_canHear zv_X9_canHear zm_X9_352 (n := 3) (by decide) rfl (z_recv gm_0 (T := TX9) (N := 52) rfl) rfl (Nat.le_of_ble_eq_true rfl) (by decide) (by decide) dX9_shuts_103 ?_
    refine z_if_ne (pc := 106) (tgt := 113) dX9_shuts_106 (by decide) (fun _ => ?_) (fun _ => ?_)
    · refine z_iload (pc := 109) dX9_shuts_109 rfl ?_
      refine z_istore (pc := 111) (L' := [(0, .ref (b + 0)), (1, .int l1), (2, .int l2), (3, .int l3), (4, .int l5), (5, .int l5)]) dX9_shuts_111 (by decide) rfl ?_
      exact w_X9_shuts_113 _ hr52 n l1 l2 l3 l5 l5 p5.2
    · exact w_X9_shuts_113 _ hr52 n l1 l2 l3 l4 l5 p5.2
  · refine z_goto (pc := 90) (tgt := 113) dX9_shuts_90 (by decide) ?_
    exact w_X9_shuts_113 _ hr52 n l1 l2 l3 l4 l5 p3.2

set_option maxRecDepth 20000 in
theorem w_X9_shuts_52 {D : va_G} {cI cL : ClassId} {b : Nat} {Z : State → Heap → Prop}  : ∀ (n : Nat) (l1 : Int32) (l2 : Int32) (l3 : Int32) (l4 : Int32) (l5 : Int32) (μ : z_M), z_w (zEm D cI cL b Z) (RX9, cX9_shuts, 6, (some .int), 5) z_ei 52 [(0, .ref (b + 0)), (1, .int l1), (2, .int l2), (3, .int l3), (4, .int l4), (5, .int l5)] [] μ (f_X9_shuts_h52 n l1 l2 l3 l4 l5 μ) := by
  intro n
  induction n with
  | zero =>
    intro l1 l2 l3 l4 l5 μ
    exact z_none
  | succ n ih =>
    intro l1 l2 l3 l4 l5 μ
    unfold f_X9_shuts_h52
    refine z_iload (pc := 52) dX9_shuts_52 rfl ?_
    refine z_iconst (pc := 54) dX9_shuts_54 zci_1 ?_
    refine z_aload_n (pc := 55) dX9_shuts_55 rfl ?_
    refine zgI_X9_105 (pc := 56) gm_0 rfl dX9_shuts_56 ?_
    refine z_ishl (pc := 59) dX9_shuts_59 ?_
    refine z_icmp_ge (pc := 60) (tgt := 119) dX9_shuts_60 (by decide) (fun _ => ?_) (fun _ => ?_)
    · refine z_iload (pc := 63) dX9_shuts_63 rfl ?_
      refine z_if_lt (pc := 65) (tgt := 81) dX9_shuts_65 (by decide) (fun _ => ?_) (fun _ => ?_)
      · exact w_X9_shuts_81 _ ih n l1 l2 l3 l4 l5 μ
      · refine z_iload (pc := 68) dX9_shuts_68 rfl ?_
        refine z_bindP (fun p6 hp6 => ?_)
        refine z_callSi (pc := 70) (As := [.int l5]) (S := []) (c_X9_bits n l5 μ) hp6 zw_X9_bits zs_X9_bits zm_X9_307 (n := 1) (by decide) rfl rfl (Nat.le_of_ble_eq_true rfl) (by decide) (by decide) dX9_shuts_70 ?_
        refine z_iload (pc := 73) dX9_shuts_73 rfl ?_
        refine z_bindP (fun p7 hp7 => ?_)
        refine z_callSi (pc := 75) (As := [.int l4]) (S := [.int p6.1]) (c_X9_bits n l4 p6.2) hp7 zw_X9_bits zs_X9_bits zm_X9_307 (n := 1) (by decide) rfl rfl (Nat.le_of_ble_eq_true rfl) (by decide) (by decide) dX9_shuts_75 ?_
        refine z_icmp_ge (pc := 78) (tgt := 113) dX9_shuts_78 (by decide) (fun _ => ?_) (fun _ => ?_)
        · exact w_X9_shuts_81 _ ih n l1 l2 l3 l4 l5 p7.2
        · exact w_X9_shuts_113 _ ih n l1 l2 l3 l4 l5 p7.2
    · refine z_aload_n (pc := 119) dX9_shuts_119 rfl ?_
      refine z_iconst (pc := 120) dX9_shuts_120 zci_0 ?_
      refine zpI_X9_108 (pc := 121) gm_0 rfl dX9_shuts_121 ?_
      refine z_letMO (fun m8 => ?_)
      refine z_iload (pc := 124) dX9_shuts_124 rfl ?_
      refine z_if_ge (pc := 126) (tgt := 138) dX9_shuts_126 (by decide) (fun _ => ?_) (fun _ => ?_)
      · refine z_aload_n (pc := 129) dX9_shuts_129 rfl ?_
        refine z_bipush (pc := 130) dX9_shuts_130 zcb_m6 ?_
        refine z_bindP (fun p9 hp9 => ?_)
        refine z_callVi (pc := 132) (As := [.int (-6)]) (S := []) (c_X9_no (-6) m8) hp9 zw_X9_no zv_X9_no zm_X9_171 (n := 1) (by decide) rfl (z_recv gm_0 (T := TX9) (N := 52) rfl) rfl (Nat.le_of_ble_eq_true rfl) (by decide) (by decide) dX9_shuts_132 ?_
        refine z_goto (pc := 135) (tgt := 140) dX9_shuts_135 (by decide) ?_
        exact z_iret (pc := 140) rfl dX9_shuts_140
      · refine z_iload (pc := 138) dX9_shuts_138 rfl ?_
        exact z_iret (pc := 140) rfl dX9_shuts_140

set_option maxRecDepth 20000 in
theorem w_X9_shuts_0 {D : va_G} {cI cL : ClassId} {b : Nat} {Z : State → Heap → Prop}  (n : Nat) (a1 : Int32) (a2 : Int32) (a3 : Int32) (μ : z_M) : z_w (zEm D cI cL b Z) (RX9, cX9_shuts, 6, (some .int), 5) z_ei 0 [(0, .ref (b + 0)), (1, .int a1), (2, .int a2), (3, .int a3)] [] μ ((f_X9_shuts n a1 a2 a3 μ)) := by
  unfold f_X9_shuts
  refine z_aload_n (pc := 0) dX9_shuts_0 rfl ?_
  refine z_iload_n (pc := 1) dX9_shuts_1 rfl ?_
  refine z_callVi (pc := 2) (As := [.int a1]) (S := []) (c_X9_isHouse a1 μ) rfl zw_X9_isHouse zv_X9_isHouse zm_X9_188 (n := 1) (by decide) rfl (z_recv gm_0 (T := TX9) (N := 52) rfl) rfl (Nat.le_of_ble_eq_true rfl) (by decide) (by decide) dX9_shuts_2 ?_
  refine z_if_ne (pc := 5) (tgt := 14) dX9_shuts_5 (by decide) (fun _ => ?_) (fun _ => ?_)
  · refine z_aload_n (pc := 8) dX9_shuts_8 rfl ?_
    refine z_iconst (pc := 9) dX9_shuts_9 zci_m1 ?_
    refine z_bindP (fun p1 hp1 => ?_)
    refine z_callVi (pc := 10) (As := [.int (-1)]) (S := []) (c_X9_no (-1) μ) hp1 zw_X9_no zv_X9_no zm_X9_171 (n := 1) (by decide) rfl (z_recv gm_0 (T := TX9) (N := 52) rfl) rfl (Nat.le_of_ble_eq_true rfl) (by decide) (by decide) dX9_shuts_10 ?_
    exact z_iret (pc := 13) rfl dX9_shuts_13
  · refine z_iload_n (pc := 14) dX9_shuts_14 rfl ?_
    refine z_callSi (pc := 15) (As := [.int a2]) (S := []) (c_X9_isSet a2 μ) rfl zw_X9_isSet zs_X9_isSet zm_X9_195 (n := 1) (by decide) rfl rfl (Nat.le_of_ble_eq_true rfl) (by decide) (by decide) dX9_shuts_15 ?_
    refine z_if_eq (pc := 18) (tgt := 39) dX9_shuts_18 (by decide) (fun _ => ?_) (fun _ => ?_)
    · refine z_drop (L' := [(0, .ref (b + 0))]) [0] rfl ?_
      exact w_X9_shuts_39 n μ
    · refine z_iload_n (pc := 21) dX9_shuts_21 rfl ?_
      refine z_iconst (pc := 22) dX9_shuts_22 zci_1 ?_
      refine z_iconst (pc := 23) dX9_shuts_23 zci_4 ?_
      refine z_callSi (pc := 24) (As := [.int a3, .int 1, .int 4]) (S := []) (c_X9_isIn a3 1 4 μ) rfl zw_X9_isIn zs_X9_isIn zm_X9_167 (n := 3) (by decide) rfl rfl (Nat.le_of_ble_eq_true rfl) (by decide) (by decide) dX9_shuts_24 ?_
      refine z_if_eq (pc := 27) (tgt := 39) dX9_shuts_27 (by decide) (fun _ => ?_) (fun _ => ?_)
      · refine z_drop (L' := [(0, .ref (b + 0))]) [0] rfl ?_
        exact w_X9_shuts_39 n μ
      · refine z_aload_n (pc := 30) dX9_shuts_30 rfl ?_
        refine zgR_X9_41 (pc := 31) gm_0 rfl dX9_shuts_31 ?_
        refine z_iconst (pc := 34) dX9_shuts_34 zci_0 ?_
        refine z_ialdK (pc := 35) gm_9 (by decide) dX9_shuts_35 ?_
        refine z_if_ge (pc := 36) (tgt := 46) dX9_shuts_36 (by decide) (fun _ => ?_) (fun _ => ?_)
        · refine z_drop (L' := [(0, .ref (b + 0))]) [0] rfl ?_
          exact w_X9_shuts_39 n μ
        · refine z_iconst (pc := 46) dX9_shuts_46 zci_m1 ?_
          refine z_istore (pc := 47) (L' := [(0, .ref (b + 0)), (1, .int a1), (2, .int a2), (3, .int a3), (4, .int (-1))]) dX9_shuts_47 (by decide) rfl ?_
          refine z_iconst (pc := 49) dX9_shuts_49 zci_0 ?_
          refine z_istore (pc := 50) (L' := [(0, .ref (b + 0)), (1, .int a1), (2, .int a2), (3, .int a3), (4, .int (-1)), (5, .int 0)]) dX9_shuts_50 (by decide) rfl ?_
          exact w_X9_shuts_52 n a1 a2 a3 (-1) 0 μ

set_option maxRecDepth 20000 in
theorem c_X9_shuts {D : va_G} {cI cL : ClassId} {b : Nat} {Z : State → Heap → Prop}  (n : Nat) (a1 : Int32) (a2 : Int32) (a3 : Int32) (μ : z_M) : z_S (zEm D cI cL b Z) 5 yX9_shuts cX9_shuts 6 (some .int) z_ei [.ref (b + 0), .int a1, .int a2, .int a3] μ ((f_X9_shuts n a1 a2 a3 μ)) :=
  z_entry (yn := yX9_shuts) (by decide) (Nat.le_of_ble_eq_true rfl) rfl (w_X9_shuts_0 n a1 a2 a3 μ)
