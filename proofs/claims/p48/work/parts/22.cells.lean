def f_X1_get (a : Nat) (n0 : Nat) (a1 : Int32) (μ : z_M) : Option (Int32 × z_M) :=
  if a1 < 0 then (some (0, μ)) else (if a1 < (Int32.ofNat n0) then (z_chk a1 n0 (some ((μ.1 a (z_ix a1)), μ))) else (some (0, μ)))
set_option maxRecDepth 20000 in
theorem w_X1_get_0 {D : va_G} {cI cL : ClassId} {b : Nat} {Z : State → Heap → Prop} {k a n0 : Nat} (hk : G_c[k]? = some (.inl (1, [some a]))) (ha : G_c[a]? = some (.inr (false, n0))) (a1 : Int32) (μ : z_M) : z_w (zEc D cI cL b Z) (RX1, cX1_get, 2, (some .int), 0) z_ei 0 [(0, .ref (b + k)), (1, .int a1)] [] μ ((f_X1_get a n0 a1 μ)) := by
  unfold f_X1_get
  refine z_iload_n (pc := 0) dX1_get_0 rfl ?_
  refine z_if_lt (pc := 1) (tgt := 22) dX1_get_1 (by decide) (fun _ => ?_) (fun _ => ?_)
  · refine z_iconst (pc := 22) dX1_get_22 zci_0 ?_
    exact z_iret (pc := 23) rfl dX1_get_23
  · refine z_iload_n (pc := 4) dX1_get_4 rfl ?_
    refine z_aload_n (pc := 5) dX1_get_5 rfl ?_
    refine zgR_X1_7 (pc := 6) hk rfl dX1_get_6 ?_
    refine z_alen (pc := 9) ha (v := (Int32.ofNat n0)) rfl dX1_get_9 ?_
    refine z_icmp_ge (pc := 10) (tgt := 22) dX1_get_10 (by decide) (fun _ => ?_) (fun _ => ?_)
    · refine z_aload_n (pc := 13) dX1_get_13 rfl ?_
      refine zgR_X1_7 (pc := 14) hk rfl dX1_get_14 ?_
      refine z_iload_n (pc := 17) dX1_get_17 rfl ?_
      refine z_iald (pc := 18) ha dX1_get_18 ?_
      refine z_goto (pc := 19) (tgt := 23) dX1_get_19 (by decide) ?_
      exact z_iret (pc := 23) rfl dX1_get_23
    · refine z_iconst (pc := 22) dX1_get_22 zci_0 ?_
      exact z_iret (pc := 23) rfl dX1_get_23

set_option maxRecDepth 20000 in
theorem c_X1_get {D : va_G} {cI cL : ClassId} {b : Nat} {Z : State → Heap → Prop} {k a n0 : Nat} (hk : G_c[k]? = some (.inl (1, [some a]))) (ha : G_c[a]? = some (.inr (false, n0))) (a1 : Int32) (μ : z_M) : z_S (zEc D cI cL b Z) 0 yX1_get cX1_get 2 (some .int) z_ei [.ref (b + k), .int a1] μ ((f_X1_get a n0 a1 μ)) :=
  z_entry (yn := yX1_get) (by decide) (Nat.le_of_ble_eq_true rfl) rfl (w_X1_get_0 hk ha a1 μ)

def f_X1_keep (a : Nat) (n0 : Nat) (a1 : Int32) (a2 : Int32) (μ : z_M) : Option (Unit × z_M) :=
  if a1 < 0 then (some ((), μ)) else (if a1 < (Int32.ofNat n0) then (z_chk a1 n0 (z_let (z_sI μ a (z_ix a1) a2) (fun m1 => some ((), m1)))) else (some ((), μ)))
set_option maxRecDepth 20000 in
theorem w_X1_keep_0 {D : va_G} {cI cL : ClassId} {b : Nat} {Z : State → Heap → Prop} {k a n0 : Nat} (hk : G_c[k]? = some (.inl (1, [some a]))) (ha : G_c[a]? = some (.inr (false, n0))) (a1 : Int32) (a2 : Int32) (μ : z_M) : z_w (zEc D cI cL b Z) (RX1, cX1_keep, 3, none, 0) z_ev 0 [(0, .ref (b + k)), (1, .int a1), (2, .int a2)] [] μ ((f_X1_keep a n0 a1 a2 μ)) := by
  unfold f_X1_keep
  refine z_iload_n (pc := 0) dX1_keep_0 rfl ?_
  refine z_if_lt (pc := 1) (tgt := 20) dX1_keep_1 (by decide) (fun _ => ?_) (fun _ => ?_)
  · exact z_vret (pc := 20) rfl dX1_keep_20
  · refine z_iload_n (pc := 4) dX1_keep_4 rfl ?_
    refine z_aload_n (pc := 5) dX1_keep_5 rfl ?_
    refine zgR_X1_7 (pc := 6) hk rfl dX1_keep_6 ?_
    refine z_alen (pc := 9) ha (v := (Int32.ofNat n0)) rfl dX1_keep_9 ?_
    refine z_icmp_ge (pc := 10) (tgt := 20) dX1_keep_10 (by decide) (fun _ => ?_) (fun _ => ?_)
    · refine z_aload_n (pc := 13) dX1_keep_13 rfl ?_
      refine zgR_X1_7 (pc := 14) hk rfl dX1_keep_14 ?_
      refine z_iload_n (pc := 17) dX1_keep_17 rfl ?_
      refine z_iload_n (pc := 18) dX1_keep_18 rfl ?_
      refine z_iast (pc := 19) ha dX1_keep_19 ?_
      refine z_letMO (fun m1 => ?_)
      exact z_vret (pc := 20) rfl dX1_keep_20
    · exact z_vret (pc := 20) rfl dX1_keep_20

set_option maxRecDepth 20000 in
theorem c_X1_keep {D : va_G} {cI cL : ClassId} {b : Nat} {Z : State → Heap → Prop} {k a n0 : Nat} (hk : G_c[k]? = some (.inl (1, [some a]))) (ha : G_c[a]? = some (.inr (false, n0))) (a1 : Int32) (a2 : Int32) (μ : z_M) : z_S (zEc D cI cL b Z) 0 yX1_keep cX1_keep 3 none z_ev [.ref (b + k), .int a1, .int a2] μ ((f_X1_keep a n0 a1 a2 μ)) :=
  z_entry (yn := yX1_keep) (by decide) (Nat.le_of_ble_eq_true rfl) rfl (w_X1_keep_0 hk ha a1 a2 μ)

def f_X1_clear_h2 (a : Nat) (n0 : Nat) : Nat → Int32 → z_M → Option (Unit × z_M)
  | 0, _, _ => none
  | n + 1, l1, μ =>
    if l1 < (Int32.ofNat n0) then (z_chk l1 n0 (z_let (z_sI μ a (z_ix l1) 0) (fun m1 => f_X1_clear_h2 a n0 n (l1 + 1) m1))) else (some ((), μ))
def f_X1_clear (a : Nat) (n0 : Nat) (n : Nat)  (μ : z_M) : Option (Unit × z_M) :=
  f_X1_clear_h2 a n0 n 0 μ
set_option maxRecDepth 20000 in
theorem w_X1_clear_2 {D : va_G} {cI cL : ClassId} {b : Nat} {Z : State → Heap → Prop} {k a n0 : Nat} (hk : G_c[k]? = some (.inl (1, [some a]))) (ha : G_c[a]? = some (.inr (false, n0))) : ∀ (n : Nat) (l1 : Int32) (μ : z_M), z_w (zEc D cI cL b Z) (RX1, cX1_clear, 2, none, 0) z_ev 2 [(0, .ref (b + k)), (1, .int l1)] [] μ (f_X1_clear_h2 a n0 n l1 μ) := by
  intro n
  induction n with
  | zero =>
    intro l1 μ
    exact z_none
  | succ n ih =>
    intro l1 μ
    unfold f_X1_clear_h2
    refine z_iload_n (pc := 2) dX1_clear_2 rfl ?_
    refine z_aload_n (pc := 3) dX1_clear_3 rfl ?_
    refine zgR_X1_7 (pc := 4) hk rfl dX1_clear_4 ?_
    refine z_alen (pc := 7) ha (v := (Int32.ofNat n0)) rfl dX1_clear_7 ?_
    refine z_icmp_ge (pc := 8) (tgt := 24) dX1_clear_8 (by decide) (fun _ => ?_) (fun _ => ?_)
    · refine z_aload_n (pc := 11) dX1_clear_11 rfl ?_
      refine zgR_X1_7 (pc := 12) hk rfl dX1_clear_12 ?_
      refine z_iload_n (pc := 15) dX1_clear_15 rfl ?_
      refine z_iconst (pc := 16) dX1_clear_16 zci_0 ?_
      refine z_iast (pc := 17) ha dX1_clear_17 ?_
      refine z_letMO (fun m1 => ?_)
      refine z_iinc (pc := 18) (v := (l1 + 1)) (L' := [(0, .ref (b + k)), (1, .int (l1 + 1))]) dX1_clear_18 rfl (by decide) rfl rfl ?_
      refine z_goto (pc := 21) (tgt := 2) dX1_clear_21 (by decide) ?_
      exact ih (l1 + 1) m1
    · exact z_vret (pc := 24) rfl dX1_clear_24

set_option maxRecDepth 20000 in
theorem w_X1_clear_0 {D : va_G} {cI cL : ClassId} {b : Nat} {Z : State → Heap → Prop} {k a n0 : Nat} (hk : G_c[k]? = some (.inl (1, [some a]))) (ha : G_c[a]? = some (.inr (false, n0))) (n : Nat)  (μ : z_M) : z_w (zEc D cI cL b Z) (RX1, cX1_clear, 2, none, 0) z_ev 0 [(0, .ref (b + k))] [] μ ((f_X1_clear a n0 n μ)) := by
  unfold f_X1_clear
  refine z_iconst (pc := 0) dX1_clear_0 zci_0 ?_
  refine z_istore_n (pc := 1) (L' := [(0, .ref (b + k)), (1, .int 0)]) dX1_clear_1 (by decide) rfl ?_
  exact w_X1_clear_2 hk ha n 0 μ

set_option maxRecDepth 20000 in
theorem c_X1_clear {D : va_G} {cI cL : ClassId} {b : Nat} {Z : State → Heap → Prop} {k a n0 : Nat} (hk : G_c[k]? = some (.inl (1, [some a]))) (ha : G_c[a]? = some (.inr (false, n0))) (n : Nat)  (μ : z_M) : z_S (zEc D cI cL b Z) 0 yX1_clear cX1_clear 2 none z_ev [.ref (b + k)] μ ((f_X1_clear a n0 n μ)) :=
  z_entry (yn := yX1_clear) (by decide) (Nat.le_of_ble_eq_true rfl) rfl (w_X1_clear_0 hk ha n  μ)

def f_X2_isKind (a0 : Int32) (μ : z_M) : Int32 :=
  if a0 < 0 then (0) else (if (6 : Int32) < a0 then (0) else (1))
set_option maxRecDepth 20000 in
theorem w_X2_isKind_0 {D : va_G} {cI cL : ClassId} {b : Nat} {Z : State → Heap → Prop}  (a0 : Int32) (μ : z_M) : z_w (zEc D cI cL b Z) (RX2, cX2_isKind, 1, (some .boolean), 0) z_ei 0 [(0, .int a0)] [] μ (z_oP μ (f_X2_isKind a0 μ)) := by
  unfold f_X2_isKind
  refine z_iload_n (pc := 0) dX2_isKind_0 rfl ?_
  refine z_outIf ?_
  refine z_if_lt (pc := 1) (tgt := 14) dX2_isKind_1 (by decide) (fun _ => ?_) (fun _ => ?_)
  · refine z_iconst (pc := 14) dX2_isKind_14 zci_0 ?_
    exact z_zret (pc := 15) rfl dX2_isKind_15 (by decide)
  · refine z_iload_n (pc := 4) dX2_isKind_4 rfl ?_
    refine z_bipush (pc := 5) dX2_isKind_5 zcb_6 ?_
    refine z_outIf ?_
    refine z_icmp_gt (pc := 7) (tgt := 14) dX2_isKind_7 (by decide) (fun _ => ?_) (fun _ => ?_)
    · refine z_iconst (pc := 14) dX2_isKind_14 zci_0 ?_
      exact z_zret (pc := 15) rfl dX2_isKind_15 (by decide)
    · refine z_iconst (pc := 10) dX2_isKind_10 zci_1 ?_
      refine z_goto (pc := 11) (tgt := 15) dX2_isKind_11 (by decide) ?_
      exact z_zret (pc := 15) rfl dX2_isKind_15 (by decide)

set_option maxRecDepth 20000 in
theorem c_X2_isKind {D : va_G} {cI cL : ClassId} {b : Nat} {Z : State → Heap → Prop}  (a0 : Int32) (μ : z_M) : z_S (zEc D cI cL b Z) 0 yX2_isKind cX2_isKind 1 (some .boolean) z_ei [.int a0] μ (z_oP μ (f_X2_isKind a0 μ)) :=
  z_entry (yn := yX2_isKind) (by decide) (Nat.le_of_ble_eq_true rfl) rfl (w_X2_isKind_0 a0 μ)
set_option maxRecDepth 20000 in
theorem bl_X2_isKind (a0 : Int32) (μ : z_M) : f_X2_isKind a0 μ = 0 ∨ f_X2_isKind a0 μ = 1 := by
  unfold f_X2_isKind
  repeat' (first | with_reducible exact z_bl0 | with_reducible exact z_bl1 | with_reducible refine z_blI ?_ ?_ | with_reducible refine z_blL (fun _ => ?_))
