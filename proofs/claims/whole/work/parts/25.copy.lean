def f_X1_becomeAs_h2 (a : Nat) (n0 : Nat) (a2 : Nat) (n2 : Nat) : Nat → Int32 → z_M → Option (Unit × z_M)
  | 0, _, _ => none
  | n + 1, l2, μ =>
    if l2 < (Int32.ofNat n0) then (z_chk l2 n0 (z_let (z_sI μ a (z_ix l2) (g_get a2 n2 l2 μ)) (fun m1 => f_X1_becomeAs_h2 a n0 a2 n2 n (l2 + 1) m1))) else (some ((), μ))
def f_X1_becomeAs (a : Nat) (n0 : Nat) (a2 : Nat) (n2 : Nat) (n : Nat)  (μ : z_M) : Option (Unit × z_M) :=
  f_X1_becomeAs_h2 a n0 a2 n2 n 0 μ
set_option maxRecDepth 20000 in
theorem w_X1_becomeAs_2 {D : va_G} {cI cL : ClassId} {b : Nat} {Z : State → Heap → Prop} {k a n0 : Nat} (hk : G_c[k]? = some (.inl (1, [some a]))) (ha : G_c[a]? = some (.inr (false, n0))) (hn : n0 ≤ 2000000000) {k2 a2 n2 : Nat} (hk2 : G_c[k2]? = some (.inl (1, [some a2]))) (ha2 : G_c[a2]? = some (.inr (false, n2))) (hn2 : n2 ≤ 2000000000) : ∀ (n : Nat) (l2 : Int32) (μ : z_M), z_w (zEc D cI cL b Z) (RX1, cX1_becomeAs, 3, none, 1) z_ev 2 [(0, .ref (b + k)), (1, .ref (b + k2)), (2, .int l2)] [] μ (f_X1_becomeAs_h2 a n0 a2 n2 n l2 μ) := by
  intro n
  induction n with
  | zero =>
    intro l2 μ
    exact z_none
  | succ n ih =>
    intro l2 μ
    unfold f_X1_becomeAs_h2
    refine z_iload_n (pc := 2) dX1_becomeAs_2 rfl ?_
    refine z_aload_n (pc := 3) dX1_becomeAs_3 rfl ?_
    refine zgR_X1_7 (pc := 4) hk rfl dX1_becomeAs_4 ?_
    refine z_alen (pc := 7) ha (v := (Int32.ofNat n0)) rfl dX1_becomeAs_7 ?_
    refine z_icmp_ge (pc := 8) (tgt := 28) dX1_becomeAs_8 (by decide) (fun _ => ?_) (fun _ => ?_)
    · refine z_aload_n (pc := 11) dX1_becomeAs_11 rfl ?_
      refine zgR_X1_7 (pc := 12) hk rfl dX1_becomeAs_12 ?_
      refine z_iload_n (pc := 15) dX1_becomeAs_15 rfl ?_
      refine z_aload_n (pc := 16) dX1_becomeAs_16 rfl ?_
      refine z_iload_n (pc := 17) dX1_becomeAs_17 rfl ?_
      refine z_callVi (pc := 18) (As := [.int l2]) (S := [.int l2, .ref (b + a)]) (g_X1_get hk2 ha2 hn2 l2 μ) rfl zw_X1_get zv_X1_get zm_X1_13 (n := 1) (by decide) rfl (z_recv hk2 (T := TX1) (N := 1) rfl) rfl (Nat.le_of_ble_eq_true rfl) (by decide) (by decide) dX1_becomeAs_18 ?_
      refine z_iast (pc := 21) ha dX1_becomeAs_21 ?_
      refine z_letMO (fun m1 => ?_)
      refine z_iinc (pc := 22) (v := (l2 + 1)) (L' := [(0, .ref (b + k)), (1, .ref (b + k2)), (2, .int (l2 + 1))]) dX1_becomeAs_22 rfl (by decide) rfl rfl ?_
      refine z_goto (pc := 25) (tgt := 2) dX1_becomeAs_25 (by decide) ?_
      exact ih (l2 + 1) m1
    · exact z_vret (pc := 28) rfl dX1_becomeAs_28

set_option maxRecDepth 20000 in
theorem w_X1_becomeAs_0 {D : va_G} {cI cL : ClassId} {b : Nat} {Z : State → Heap → Prop} {k a n0 : Nat} (hk : G_c[k]? = some (.inl (1, [some a]))) (ha : G_c[a]? = some (.inr (false, n0))) (hn : n0 ≤ 2000000000) {k2 a2 n2 : Nat} (hk2 : G_c[k2]? = some (.inl (1, [some a2]))) (ha2 : G_c[a2]? = some (.inr (false, n2))) (hn2 : n2 ≤ 2000000000) (n : Nat)  (μ : z_M) : z_w (zEc D cI cL b Z) (RX1, cX1_becomeAs, 3, none, 1) z_ev 0 [(0, .ref (b + k)), (1, .ref (b + k2))] [] μ ((f_X1_becomeAs a n0 a2 n2 n μ)) := by
  unfold f_X1_becomeAs
  refine z_iconst (pc := 0) dX1_becomeAs_0 zci_0 ?_
  refine z_istore_n (pc := 1) (L' := [(0, .ref (b + k)), (1, .ref (b + k2)), (2, .int 0)]) dX1_becomeAs_1 (by decide) rfl ?_
  exact w_X1_becomeAs_2 hk ha hn hk2 ha2 hn2 n 0 μ

set_option maxRecDepth 20000 in
theorem c_X1_becomeAs {D : va_G} {cI cL : ClassId} {b : Nat} {Z : State → Heap → Prop} {k a n0 : Nat} (hk : G_c[k]? = some (.inl (1, [some a]))) (ha : G_c[a]? = some (.inr (false, n0))) (hn : n0 ≤ 2000000000) {k2 a2 n2 : Nat} (hk2 : G_c[k2]? = some (.inl (1, [some a2]))) (ha2 : G_c[a2]? = some (.inr (false, n2))) (hn2 : n2 ≤ 2000000000) (n : Nat)  (μ : z_M) : z_S (zEc D cI cL b Z) 1 yX1_becomeAs cX1_becomeAs 3 none z_ev [.ref (b + k), .ref (b + k2)] μ ((f_X1_becomeAs a n0 a2 n2 n μ)) :=
  z_entry (yn := yX1_becomeAs) (by decide) (Nat.le_of_ble_eq_true rfl) rfl (w_X1_becomeAs_0 hk ha hn hk2 ha2 hn2 n  μ)

theorem g_cpy_h {a n a2 n2 : Nat} (hn : n ≤ 2000000000) (hne : a ≠ a2) : ∀ (f j : Nat) (μ : z_M), j ≤ n → n < j + f → f_X1_becomeAs_h2 a n a2 n2 f (Int32.ofNat j) μ = some ((), (fun x i => if x = a ∧ j ≤ i ∧ i < n then g_get a2 n2 (Int32.ofNat i) μ else μ.1 x i, μ.2)) := by
  intro f
  induction f with
  | zero => intro j μ h1 h2; omega
  | succ f ih =>
    intro j μ h1 h2
    unfold f_X1_becomeAs_h2
    by_cases hj : j < n
    · rw [if_pos ((z_ofNat_lt (by omega) hn).2 hj), z_chkS (z_ofNat_nn (by omega)) ((z_ofNat_lt (by omega) hn).2 hj) hn]
      simp only [z_let]
      rw [z_ofNat_succ, ih (j + 1) _ (by omega) (by omega), z_ix_ofNat (by omega)]
      congr 2
      unfold z_sI
      refine Prod.ext ?_ rfl
      funext x i
      dsimp only
      by_cases hx : x = a
      · by_cases hi : i = j
        · rw [if_neg (by omega), if_pos ⟨hx, hi⟩, if_pos (by omega), hi]
        · by_cases hi2 : j ≤ i ∧ i < n
          · rw [if_pos (by omega), if_pos (by omega)]
            unfold g_get
            dsimp only
            rw [if_neg (fun h : a2 = a ∧ _ => hne h.1.symm)]
          · rw [if_neg (by omega), if_neg (by omega), if_neg (by omega)]
      · rw [if_neg (fun h => hx h.1), if_neg (fun h => hx h.1), if_neg (fun h => hx h.1)]
    · rw [if_neg (fun h => hj ((z_ofNat_lt (by omega) hn).1 h))]
      congr 2
      refine Prod.ext ?_ rfl
      funext x i
      dsimp only
      rw [if_neg (by omega)]
theorem g_cpy_eq {a n a2 n2 : Nat} (hn : n ≤ 2000000000) (hne : a ≠ a2) (μ : z_M) : f_X1_becomeAs a n a2 n2 (n + 1) μ = some ((), g_cpy a n a2 n2 μ) := by
  unfold f_X1_becomeAs
  rw [show (0 : Int32) = Int32.ofNat 0 from rfl, g_cpy_h hn hne (n + 1) 0 μ (by omega) (by omega)]
  unfold g_cpy
  congr 2
  refine Prod.ext ?_ rfl
  funext x i
  dsimp only
  simp only [Nat.zero_le, true_and]
theorem g_X1_becomeAs {D : va_G} {cI cL : ClassId} {b : Nat} {Z : State → Heap → Prop} {k a n0 : Nat} (hk : G_c[k]? = some (.inl (1, [some a]))) (ha : G_c[a]? = some (.inr (false, n0))) (hn : n0 ≤ 2000000000) {k2 a2 n2 : Nat} (hk2 : G_c[k2]? = some (.inl (1, [some a2]))) (ha2 : G_c[a2]? = some (.inr (false, n2))) (hn2 : n2 ≤ 2000000000) (hne : a ≠ a2) (μ : z_M) : z_S (zEc D cI cL b Z) 1 yX1_becomeAs cX1_becomeAs 3 none z_ev [.ref (b + k), .ref (b + k2)] μ (z_oV (g_cpy a n0 a2 n2 μ)) := by
  have h := c_X1_becomeAs (D := D) (cI := cI) (cL := cL) (b := b) (Z := Z) hk ha hn hk2 ha2 hn2 (n0 + 1) μ
  rw [g_cpy_eq hn hne] at h; exact h
