/-! the constructors -/
theorem n_dv {N : Nat} {ty : Nat → FieldType} {fs : List Value} (h : (List.range N).map (fun j => defaultValue (ty j)) = fs) : ∀ j, j < N → defaultValue (ty j) = vp_V fs j := by
  subst h
  intro j hj
  unfold vp_V
  simp [List.getD, hj]
theorem zob_inst : Cond.instanceMethod objectInit ∈ z_tbl := z_tat 37 (by decide +kernel) rfl
theorem zob_code : Cond.code objectInit ⟨#[0xb1]⟩ 1 none ∈ z_tbl := z_tat 38 (by decide +kernel) rfl
theorem zar_int : Cond.arrayClass .int ∈ z_tbl := z_tat 55 (by decide +kernel) rfl
theorem zar_long : Cond.arrayClass .long ∈ z_tbl := z_tat 109 (by decide +kernel) rfl
theorem zii_X8 : Cond.initialized RX8 ∈ z_tbl := z_tat 20 (by decide +kernel) rfl
theorem zii_X6 : Cond.initialized RX6 ∈ z_tbl := z_tat 21 (by decide +kernel) rfl
theorem zii_X1 : Cond.initialized RX1 ∈ z_tbl := z_tat 22 (by decide +kernel) rfl
theorem zii_X5 : Cond.initialized RX5 ∈ z_tbl := z_tat 23 (by decide +kernel) rfl
theorem zii_X0 : Cond.initialized RX0 ∈ z_tbl := z_tat 24 (by decide +kernel) rfl
theorem zii_X7 : Cond.initialized RX7 ∈ z_tbl := z_tat 25 (by decide +kernel) rfl
theorem zii_X4 : Cond.initialized RX4 ∈ z_tbl := z_tat 26 (by decide +kernel) rfl
theorem zii_X3 : Cond.initialized RX3 ∈ z_tbl := z_tat 27 (by decide +kernel) rfl
theorem zcl_L_19 : Cond.classLink RL 19 RX8 ∈ z_tbl := z_tat 31 (by decide +kernel) rfl
theorem zis_X8 : Cond.instantiable RX8 11 ∈ z_tbl := z_tat 32 (by decide +kernel) rfl
theorem zob_X8 : Cond.methodLink RX8 1 objectInit ∈ z_tbl := z_tat 36 (by decide +kernel) rfl
theorem zcl_X8_7 : Cond.classLink RX8 7 RX6 ∈ z_tbl := z_tat 39 (by decide +kernel) rfl
theorem zis_X6 : Cond.instantiable RX6 10 ∈ z_tbl := z_tat 40 (by decide +kernel) rfl
theorem zob_X6 : Cond.methodLink RX6 3 objectInit ∈ z_tbl := z_tat 44 (by decide +kernel) rfl
theorem zcl_X6_9 : Cond.classLink RX6 9 RX1 ∈ z_tbl := z_tat 45 (by decide +kernel) rfl
theorem zis_X1 : Cond.instantiable RX1 1 ∈ z_tbl := z_tat 46 (by decide +kernel) rfl
theorem zob_X1 : Cond.methodLink RX1 1 objectInit ∈ z_tbl := z_tat 50 (by decide +kernel) rfl
theorem zcl_X8_22 : Cond.classLink RX8 22 RX5 ∈ z_tbl := z_tat 87 (by decide +kernel) rfl
theorem zis_X5 : Cond.instantiable RX5 3 ∈ z_tbl := z_tat 88 (by decide +kernel) rfl
theorem zob_X5 : Cond.methodLink RX5 3 objectInit ∈ z_tbl := z_tat 92 (by decide +kernel) rfl
theorem zcl_X5_15 : Cond.classLink RX5 15 RX1 ∈ z_tbl := z_tat 93 (by decide +kernel) rfl
theorem zcl_X8_29 : Cond.classLink RX8 29 RX0 ∈ z_tbl := z_tat 110 (by decide +kernel) rfl
theorem zis_X0 : Cond.instantiable RX0 5 ∈ z_tbl := z_tat 111 (by decide +kernel) rfl
theorem zob_X0 : Cond.methodLink RX0 3 objectInit ∈ z_tbl := z_tat 115 (by decide +kernel) rfl
theorem zcl_X0_9 : Cond.classLink RX0 9 RX1 ∈ z_tbl := z_tat 116 (by decide +kernel) rfl
theorem zcl_X8_36 : Cond.classLink RX8 36 RX7 ∈ z_tbl := z_tat 131 (by decide +kernel) rfl
theorem zis_X7 : Cond.instantiable RX7 8 ∈ z_tbl := z_tat 132 (by decide +kernel) rfl
theorem zob_X7 : Cond.methodLink RX7 5 objectInit ∈ z_tbl := z_tat 136 (by decide +kernel) rfl
theorem zcl_X7_17 : Cond.classLink RX7 17 RX1 ∈ z_tbl := z_tat 137 (by decide +kernel) rfl
theorem zcl_X8_45 : Cond.classLink RX8 45 RX4 ∈ z_tbl := z_tat 164 (by decide +kernel) rfl
theorem zis_X4 : Cond.instantiable RX4 7 ∈ z_tbl := z_tat 165 (by decide +kernel) rfl
theorem zob_X4 : Cond.methodLink RX4 3 objectInit ∈ z_tbl := z_tat 169 (by decide +kernel) rfl
theorem zcl_X4_19 : Cond.classLink RX4 19 RX1 ∈ z_tbl := z_tat 170 (by decide +kernel) rfl
theorem zcl_X8_54 : Cond.classLink RX8 54 RX3 ∈ z_tbl := z_tat 193 (by decide +kernel) rfl
theorem zis_X3 : Cond.instantiable RX3 5 ∈ z_tbl := z_tat 194 (by decide +kernel) rfl
theorem zob_X3 : Cond.methodLink RX3 3 objectInit ∈ z_tbl := z_tat 198 (by decide +kernel) rfl
theorem zcl_X3_19 : Cond.classLink RX3 19 RX1 ∈ z_tbl := z_tat 199 (by decide +kernel) rfl
theorem zcl_X8_63 : Cond.classLink RX8 63 RX1 ∈ z_tbl := z_tat 216 (by decide +kernel) rfl
theorem zin_X0_init : Cond.instanceMethod yX0_init ∈ z_tbl := z_tat 113 (by decide +kernel) rfl
theorem zin_X1_init : Cond.instanceMethod yX1_init ∈ z_tbl := z_tat 48 (by decide +kernel) rfl
theorem zin_X3_init : Cond.instanceMethod yX3_init ∈ z_tbl := z_tat 196 (by decide +kernel) rfl
theorem zin_X4_init : Cond.instanceMethod yX4_init ∈ z_tbl := z_tat 167 (by decide +kernel) rfl
theorem zin_X5_init : Cond.instanceMethod yX5_init ∈ z_tbl := z_tat 90 (by decide +kernel) rfl
theorem zin_X6_init : Cond.instanceMethod yX6_init ∈ z_tbl := z_tat 42 (by decide +kernel) rfl
theorem zin_X7_init : Cond.instanceMethod yX7_init ∈ z_tbl := z_tat 134 (by decide +kernel) rfl
theorem zin_X8_init : Cond.instanceMethod yX8_init ∈ z_tbl := z_tat 34 (by decide +kernel) rfl
set_option maxRecDepth 20000 in
theorem w_X1_keepG_0 {D : va_G} {G : List z_C} {cI cL : ClassId} {b : Nat} {Z : State → Heap → Prop} {k a n0 : Nat} (hk : G[k]? = some (.inl (1, [some a]))) (ha : G[a]? = some (.inr (false, n0))) (a1 : Int32) (a2 : Int32) (μ : z_M) : z_w (z_sys vwCl D cI cL G b Z) (RX1, cX1_keep, 3, none, 0) z_ev 0 [(0, .ref (b + k)), (1, .int a1), (2, .int a2)] [] μ ((f_X1_keep a n0 a1 a2 μ)) := by
  unfold f_X1_keep
  refine z_iload_n (pc := 0) dX1_keep_0 rfl ?_
  refine z_if_lt (pc := 1) (tgt := 20) dX1_keep_1 (by decide) (fun _ => ?_) (fun _ => ?_)
  · exact z_vret (pc := 20) rfl dX1_keep_20
  · refine z_iload_n (pc := 4) dX1_keep_4 rfl ?_
    refine z_aload_n (pc := 5) dX1_keep_5 rfl ?_
    refine zgR_X1_7 (pc := 6) hk rfl dX1_keep_6 ?_
    refine z_alen (pc := 9) ha (v := (Int32.ofNat n0)) rfl dX1_keep_9 ?_
    refine z_icmp_ge (pc := 10) (tgt := 20) dX1_keep_10 (by decide) (fun _ => ?_) (fun _ => ?_)
    · refine z_aload_n (pc := 13) dX1_keep_13 rfl ?_
      refine zgR_X1_7 (pc := 14) hk rfl dX1_keep_14 ?_
      refine z_iload_n (pc := 17) dX1_keep_17 rfl ?_
      refine z_iload_n (pc := 18) dX1_keep_18 rfl ?_
      refine z_iast (pc := 19) ha dX1_keep_19 ?_
      refine z_letMO (fun m1 => ?_)
      exact z_vret (pc := 20) rfl dX1_keep_20
    · exact z_vret (pc := 20) rfl dX1_keep_20

set_option maxRecDepth 20000 in
theorem c_X1_keepG {D : va_G} {G : List z_C} {cI cL : ClassId} {b : Nat} {Z : State → Heap → Prop} {k a n0 : Nat} (hk : G[k]? = some (.inl (1, [some a]))) (ha : G[a]? = some (.inr (false, n0))) (a1 : Int32) (a2 : Int32) (μ : z_M) : z_S (z_sys vwCl D cI cL G b Z) 0 yX1_keep cX1_keep 3 none z_ev [.ref (b + k), .int a1, .int a2] μ ((f_X1_keep a n0 a1 a2 μ)) :=
  z_entry (yn := yX1_keep) (by decide) (Nat.le_of_ble_eq_true rfl) rfl (w_X1_keepG_0 hk ha a1 a2 μ)
def n_kp (f : Nat → Int32) (i : Nat) (v : Int32) : Nat → Int32 := (z_sI (fun _ => f, fun _ _ => 0) 1 i v).1 1
section NK
variable {D : va_G} {cI cL : ClassId} {a sz mc ms n sl pc : Nat} {y : z_Y} {L : List (Nat × Value)} {S : List Value} {es es' : List va_E}
set_option maxHeartbeats 1000000 in
theorem n_keep {kk n0 i index : Nat} {v : Int32} {f : Nat → Int32} (hk1 : es[kk + 1]? = some (.inr (1, [.ref (sz + (kk + 1))]))) (hk2 : es[kk + 2]? = some (.inl (cI, n0, .inl f))) (hi0 : i < n0) (hn0 : n0 < 2 ^ 31) (hlink : Cond.methodLink y.1 index yX1_keep ∈ z_tbl) (hcat : (S.map fun v => v.category).sum ≤ 8) (hd' : 1 ≤ y.2.2.2.2) (hc : n ≤ mc) (hs : sl ≤ ms) (hd : decode y.2.1 pc = .ok (.invokevirtual index, 3)) (k : n_w D cI cL a sz y mc ms n sl (pc + 3) L S (es.set (kk + 2) (.inl (cI, n0, .inl (n_kp f i v)))) es') : n_w D cI cL a sz y mc ms n sl pc L (.int v :: .int (nI i) :: .ref (sz + kk) :: S) es es' := by
  intro ha hn p l e s m args below meth c H locs ls hX hi hz hK hP hS hl T0 hT X
  have hts := hX.1.2.2.2.2
  have hcw : CallW (n_rm y.2.2.2.2 mc ms) s args y.1 RX1 index yX1_keep cX1_keep 3 none (.code yX1_keep cX1_keep 3 none :: z_tbl) (z_rm 0) 0 0 2 :=
    ⟨callB_of 2 hts (z_code_good _ _ _ _ zw_X1_keep.2.1) rfl rfl rfl (hts _ zw_X1_keep.1) (hts _ hlink) ⟨zw_X1_keep.2.2.1, zw_X1_keep.2.2.2, by decide⟩ ⟨hd', by simp only [n_rm, z_rm]; omega⟩, hts _ zv_X1_keep.1, hts _ zv_X1_keep.2⟩
  obtain ⟨G2, eG⟩ : ∃ G2 : List z_C, G2 = [.inl (1, [some 1]), .inr (false, n0)] := ⟨_, rfl⟩
  obtain ⟨μ, eμ⟩ : ∃ μ : z_M, μ = (fun _ => f, fun _ _ => 0) := ⟨_, rfl⟩
  have hE : z_EOK (z_sys vwCl D cI cL G2 (sz + kk) (fun _ _ => True)) := z_sysOK ⟨fun _ _ _ _ _ => trivial, fun _ _ _ _ _ => trivial, fun _ _ _ _ _ _ => trivial⟩
  have hG : f_X1_keep 1 n0 (nI i) v μ = some ((), z_sI μ 1 i v) := by
    unfold f_X1_keep
    rw [if_neg (nI_pos (by omega)), if_pos (show nI i < Int32.ofNat n0 from nI_lt hi0 hn0), z_chkN hi0 hn0, z_letE, z_ixN (by omega)]
  have hSp := c_X1_keepG (D := D) (cI := cI) (cL := cL) (b := sz + kk) (Z := fun _ _ => True) (G := G2) (k := 0) (a := 1) (n0 := n0) (by rw [eG]; rfl) (by rw [eG]; rfl) (nI i) v μ () _ hG hE l
  have g1 : (n_wf a sz es)[kk + 1]? = some (sz + kk, .inr (1, [.ref (sz + (kk + 1))])) := n_wf_at hk1
  have g2 : (n_wf a sz es)[kk + 2]? = some (sz + (kk + 1), .inl (cI, n0, .inl f)) := n_wf_at hk2
  have hW : va_P D vwCl (z_wf cI cL (sz + kk) μ 0 G2) H := by
    rw [eG, eμ]
    intro k q hk
    cases k with
    | zero => cases hk; exact hP _ _ g1
    | succ k =>
      cases k with
      | zero => cases hk; exact hP _ _ g2
      | succ k => cases hk
  have hKt : ∀ U : State, s.WarmedH U.vm → va_K D vwCl [(cI, .int), (cL, .long)] U := fun U hW => va_K.moved hW.alike hK
  have hrun := va_runV (mc := 0) (ms := 0) (locs := locs) (cells := n) (slots := sl) (below := below) (meth := meth) (e := e) (b := sz + kk) (As := [.int (nI i), .int v]) (rest := S) (H := H) (g := F0 m pc ls (.int v :: .int (nI i) :: .ref (sz + kk) :: S)) hX.1 hSp hcw ⟨z_Pc_blind hE, z_recv (cl := vwCl) (D := D) (cI := cI) (cL := cL) (G := G2) (b := sz + kk) (Z := fun _ _ => True) (μ := μ) (k := 0) (ci := 1) (fs := [some 1]) (C := RX1) (T := TX1) (N := 1) (by rw [eG]; rfl) rfl s H ⟨hK, trivial⟩ hW, fun U hU hWm => ⟨rfl, by rw [hU]; exact hW, ⟨hKt U hWm, trivial⟩⟩⟩ rfl rfl hl.1 rfl (by rw [show (F0 m pc ls (.int v :: .int (nI i) :: .ref (sz + kk) :: S)).monitorRoom = 0 from rfl]; omega) hd ⟨hc, hs⟩
  obtain ⟨vv, st₀, t, T', L2, h0, X', hL2, e1, e2, ⟨hv, hw2, hF2⟩, stp⟩ := hrun T0 hT X
  have hv' : vv = none := by injection hv
  subst hv'
  have hz2 : H.size ≤ T'.heap.size := by rw [← h0, e1]; exact hF2.1
  have hq : ∀ q : Nat, q < H.size → ¬ (sz + kk ≤ q ∧ q < sz + kk + 2) → T'.heap[q]? = H[q]? := fun q h1 h2 => by rw [← h0, e1]; exact hF2.2 q (by rw [h0]; exact h1) (by rw [eG]; exact h2)
  have hS1 : va_S (n_A a sz) s.heap T'.heap (locs ++ L2) := ⟨Nat.le_trans hS.1 hz2, fun q h1 h2 => by rw [hq q (Nat.lt_of_lt_of_le h1 hS.1) (fun z => h2 (Or.inr (by show sz ≤ q; omega)))]; exact hS.2.1 q h1 h2, fun q hq2 => by
      rcases List.mem_append.mp hq2 with h | h
      · exact hS.2.2 q h
      · have h3 := hL2 q h
        exact Or.inr (by show sz ≤ q.base; have h4 : sz + kk ≤ q.base := h3.1; omega)⟩
  have hlen : kk + 2 < es.length := (List.getElem?_eq_some_iff.mp hk2).1
  have hP1 : va_P D vwCl (n_wf a sz (es.set (kk + 2) (.inl (cI, n0, .inl (n_kp f i v))))) T'.heap := by
    intro k q hk
    obtain ⟨g3, g4⟩ := n_wf_inv hk
    have eq2 : q = (n_ad a sz k, q.2) := by rw [← g4]
    by_cases c2 : k = kk + 2
    · subst c2
      rw [List.getElem?_set_self hlen] at g3
      have g5 : q.2 = .inl (cI, n0, .inl (n_kp f i v)) := (Option.some.inj g3).symm
      rw [eq2, g5, e1]
      exact hw2 1 (sz + kk + 1, .inl (cI, n0, .inl ((z_sI μ 1 i v).1 1))) (by rw [eG]; rfl) |> fun h => by rw [eμ] at h; exact h
    · rw [List.getElem?_set_ne (Ne.symm c2)] at g3
      by_cases c1 : k = kk + 1
      · subst c1
        have g5 : q.2 = .inr (1, [.ref (sz + (kk + 1))]) := Option.some.inj (g3.symm.trans hk1)
        rw [eq2, g5, e1]
        exact hw2 0 (sz + kk, .inr (1, [.ref (sz + kk + 1)])) (by rw [eG]; rfl)
      · have g6 : (n_wf a sz es)[k]? = some q := by rw [n_wf_at g3, ← g4]
        have hl2 := (hP k q g6).lt
        refine (hP k q g6).kept (hq q.1 hl2 ?_)
        rw [g4]
        cases k with
        | zero => show ¬ (sz + kk ≤ a ∧ a < sz + kk + 2); omega
        | succ k => show ¬ (sz + kk ≤ sz + k ∧ sz + k < sz + kk + 2); omega
  obtain ⟨t2, a1, b1⟩ := k ha (by rw [List.length_set]; exact hn) p l e s m args below meth c T'.heap (locs ++ L2) ls hX hi hz hK hP1 hS1 hl T' rfl X'
  exact ⟨t2, stp t2 a1, b1⟩
end NK

set_option maxRecDepth 20000 in
theorem k_X1 {D : va_G} {cI cL : ClassId} {a sz : Nat} {x : Int32} {N : Nat} (h0 : 0 ≤ x) (hN : x.toNatClampNeg = N) (hb : N * componentBytes .int ≤ 536870912) : n_S D cI cL 1 1 N yX1_init cX1_init 2 [.int x] a sz [.inr (1, [.null])] [.inr (1, [.ref (sz + 0)]), .inl (cI, N, .inl (fun _ => 0))] := by
  refine n_entry (by decide) rfl (Nat.le_of_ble_eq_true rfl) (L := [(0, .ref a), (1, .int x)]) rfl ?_
  refine n_aload_n (pc := 0) dX1_init_0 rfl ?_
  refine n_obj (pc := 1) rfl zob_X1 zob_inst zob_code dX1_init_1 (Nat.le_of_ble_eq_true rfl) ?_
  refine n_aload_n (pc := 4) dX1_init_4 rfl ?_
  refine n_iload_n (pc := 5) dX1_init_5 rfl ?_
  refine n_if_ge (pc := 6) (tgt := 13) dX1_init_6 (by decide) h0 ?_
  refine n_iload_n (pc := 13) dX1_init_13 rfl ?_
  refine n_newaI (pc := 14) zar_int (Int32.not_lt.mpr h0) hN hb (by omega) (by omega) (n2 := 1) (sl2 := N) (tl2 := [.inl (cI, N, .inl (fun _ => 0))]) rfl (by omega) rfl dX1_init_14 ?_
  refine n_putF (pc := 16) (T := TX1) (N := 1) (j := 0) (ci := 1) zinX1 tyX1 tyX1_ok nmX1 rfl (by decide) zf_X1_7 rfl rfl rfl (tyX1_ok 0 (by decide)) rfl rfl (Nat.le_of_ble_eq_true rfl) (fs2 := [.ref (sz + 0)]) rfl dX1_init_16 ?_
  exact n_vret (pc := 19) rfl (by omega) rfl rfl dX1_init_19
set_option maxRecDepth 20000 in
theorem k_X6 {D : va_G} {cI cL : ClassId} {a sz : Nat} : n_S D cI cL 2 6 94 yX6_init cX6_init 1 [] a sz [.inr (5, [.null, .null, .null, .int 0, .int 0, .int 0, .int 0, .int 0, .int 0, .int 0])] [.inr (5, [.ref (sz + 0), .ref (sz + 2), .ref (sz + 4), .int 0, .int 0, .int 2, .int (-1), .int 0, .int 0, .int 1]), .inr (1, [.ref (sz + 1)]), .inl (cI, 40, .inl (fun _ => 0)), .inr (1, [.ref (sz + 3)]), .inl (cI, 48, .inl (fun _ => 0)), .inr (1, [.ref (sz + 5)]), .inl (cI, 3, .inl (fun _ => 0))] := by
  refine n_entry (by decide) rfl (Nat.le_of_ble_eq_true rfl) (L := [(0, .ref a)]) rfl ?_
  refine n_aload_n (pc := 0) dX6_init_0 rfl ?_
  refine n_obj (pc := 1) rfl zob_X6 zob_inst zob_code dX6_init_1 (Nat.le_of_ble_eq_true rfl) ?_
  refine n_aload_n (pc := 4) dX6_init_4 rfl ?_
  refine n_new (pc := 5) zinX1 tyX1 tyX1_ok zcl_X6_9 zis_X1 zii_X1 (T := TX1) (N := 1) (ci := 1) rfl [.null] (n_dv rfl) (Nat.le_of_ble_eq_true rfl) (Nat.le_of_ble_eq_true rfl) dX6_init_5 ?_
  refine n_dup (pc := 8) dX6_init_8 rfl ?_
  refine n_bipush (pc := 9) dX6_init_9 zcb_40 ?_
  refine n_init (pc := 11) (i := 0) (S := [.ref (sz + 0), .ref a]) (As := [.int 40]) rfl (k_X1 (x := 40) (N := 40) (by decide) (by decide) (Nat.le_of_ble_eq_true rfl)) zw_X1_init zin_X1_init rfl zm_X6_13 (nA := 1) (by decide) rfl rfl rfl (Nat.le_of_ble_eq_true rfl) (Nat.le_of_ble_eq_true rfl) (Nat.le_of_ble_eq_true rfl) (Nat.le_of_ble_eq_true rfl) (Nat.le_of_ble_eq_true rfl) dX6_init_11 ?_
  refine n_putF (pc := 14) (T := TX6) (N := 10) (j := 0) (ci := 5) zinX6 tyX6 tyX6_ok nmX6 rfl (by decide) zf_X6_16 rfl rfl rfl (tyX6_ok 0 (by decide)) rfl rfl (Nat.le_of_ble_eq_true rfl) (fs2 := [.ref (sz + 0), .null, .null, .int 0, .int 0, .int 0, .int 0, .int 0, .int 0, .int 0]) rfl dX6_init_14 ?_
  refine n_aload_n (pc := 17) dX6_init_17 rfl ?_
  refine n_new (pc := 18) zinX1 tyX1 tyX1_ok zcl_X6_9 zis_X1 zii_X1 (T := TX1) (N := 1) (ci := 1) rfl [.null] (n_dv rfl) (Nat.le_of_ble_eq_true rfl) (Nat.le_of_ble_eq_true rfl) dX6_init_18 ?_
  refine n_dup (pc := 21) dX6_init_21 rfl ?_
  refine n_bipush (pc := 22) dX6_init_22 zcb_48 ?_
  refine n_init (pc := 24) (i := 2) (S := [.ref (sz + 2), .ref a]) (As := [.int 48]) rfl (k_X1 (x := 48) (N := 48) (by decide) (by decide) (Nat.le_of_ble_eq_true rfl)) zw_X1_init zin_X1_init rfl zm_X6_13 (nA := 1) (by decide) rfl rfl rfl (Nat.le_of_ble_eq_true rfl) (Nat.le_of_ble_eq_true rfl) (Nat.le_of_ble_eq_true rfl) (Nat.le_of_ble_eq_true rfl) (Nat.le_of_ble_eq_true rfl) dX6_init_24 ?_
  refine n_putF (pc := 27) (T := TX6) (N := 10) (j := 1) (ci := 5) zinX6 tyX6 tyX6_ok nmX6 rfl (by decide) zf_X6_20 rfl rfl rfl (tyX6_ok 1 (by decide)) rfl rfl (Nat.le_of_ble_eq_true rfl) (fs2 := [.ref (sz + 0), .ref (sz + 2), .null, .int 0, .int 0, .int 0, .int 0, .int 0, .int 0, .int 0]) rfl dX6_init_27 ?_
  refine n_aload_n (pc := 30) dX6_init_30 rfl ?_
  refine n_new (pc := 31) zinX1 tyX1 tyX1_ok zcl_X6_9 zis_X1 zii_X1 (T := TX1) (N := 1) (ci := 1) rfl [.null] (n_dv rfl) (Nat.le_of_ble_eq_true rfl) (Nat.le_of_ble_eq_true rfl) dX6_init_31 ?_
  refine n_dup (pc := 34) dX6_init_34 rfl ?_
  refine n_iconst (pc := 35) dX6_init_35 zci_3 ?_
  refine n_init (pc := 36) (i := 4) (S := [.ref (sz + 4), .ref a]) (As := [.int 3]) rfl (k_X1 (x := 3) (N := 3) (by decide) (by decide) (Nat.le_of_ble_eq_true rfl)) zw_X1_init zin_X1_init rfl zm_X6_13 (nA := 1) (by decide) rfl rfl rfl (Nat.le_of_ble_eq_true rfl) (Nat.le_of_ble_eq_true rfl) (Nat.le_of_ble_eq_true rfl) (Nat.le_of_ble_eq_true rfl) (Nat.le_of_ble_eq_true rfl) dX6_init_36 ?_
  refine n_putF (pc := 39) (T := TX6) (N := 10) (j := 2) (ci := 5) zinX6 tyX6 tyX6_ok nmX6 rfl (by decide) zf_X6_23 rfl rfl rfl (tyX6_ok 2 (by decide)) rfl rfl (Nat.le_of_ble_eq_true rfl) (fs2 := [.ref (sz + 0), .ref (sz + 2), .ref (sz + 4), .int 0, .int 0, .int 0, .int 0, .int 0, .int 0, .int 0]) rfl dX6_init_39 ?_
  refine n_aload_n (pc := 42) dX6_init_42 rfl ?_
  refine n_iconst (pc := 43) dX6_init_43 zci_2 ?_
  refine n_put (pc := 44) (T := TX6) (N := 10) (j := 5) (ci := 5) zinX6 tyX6 tyX6_ok nmX6 rfl (by decide) zf_X6_26 rfl rfl (tyX6_ok 5 (by decide)) rfl rfl (Nat.le_of_ble_eq_true rfl) (fs2 := [.ref (sz + 0), .ref (sz + 2), .ref (sz + 4), .int 0, .int 0, .int 2, .int 0, .int 0, .int 0, .int 0]) rfl dX6_init_44 ?_
  refine n_aload_n (pc := 47) dX6_init_47 rfl ?_
  refine n_iconst (pc := 48) dX6_init_48 zci_m1 ?_
  refine n_put (pc := 49) (T := TX6) (N := 10) (j := 6) (ci := 5) zinX6 tyX6 tyX6_ok nmX6 rfl (by decide) zf_X6_30 rfl rfl (tyX6_ok 6 (by decide)) rfl rfl (Nat.le_of_ble_eq_true rfl) (fs2 := [.ref (sz + 0), .ref (sz + 2), .ref (sz + 4), .int 0, .int 0, .int 2, .int (-1), .int 0, .int 0, .int 0]) rfl dX6_init_49 ?_
  refine n_aload_n (pc := 52) dX6_init_52 rfl ?_
  refine n_iconst (pc := 53) dX6_init_53 zci_1 ?_
  refine n_put (pc := 54) (T := TX6) (N := 10) (j := 9) (ci := 5) zinX6 tyX6 tyX6_ok nmX6 rfl (by decide) zf_X6_33 rfl rfl (tyX6_ok 9 (by decide)) rfl rfl (Nat.le_of_ble_eq_true rfl) (fs2 := [.ref (sz + 0), .ref (sz + 2), .ref (sz + 4), .int 0, .int 0, .int 2, .int (-1), .int 0, .int 0, .int 1]) rfl dX6_init_54 ?_
  exact n_vret (pc := 57) rfl rfl rfl rfl dX6_init_57
set_option maxRecDepth 20000 in
theorem k_X5 {D : va_G} {cI cL : ClassId} {a sz : Nat} : n_S D cI cL 2 5 1298 yX5_init cX5_init 2 [] a sz [.inr (4, [.null, .null, .null])] [.inr (4, [.ref (sz + 0), .ref (sz + 1), .ref (sz + 3)]), .inl (cL, 1280, .inr (.inl (fun _ => 0))), .inr (1, [.ref (sz + 2)]), .inl (cI, 8, .inl (n_kp (n_kp (n_kp (n_kp (n_kp (n_kp (n_kp (n_kp (fun _ => 0) 0 (-1)) 1 (-1)) 2 (-1)) 3 (-1)) 4 (-1)) 5 (-1)) 6 (-1)) 7 (-1))), .inr (1, [.ref (sz + 4)]), .inl (cI, 8, .inl (fun _ => 0))] := by
  refine n_entry (by decide) rfl (Nat.le_of_ble_eq_true rfl) (L := [(0, .ref a)]) rfl ?_
  refine n_aload_n (pc := 0) dX5_init_0 rfl ?_
  refine n_obj (pc := 1) rfl zob_X5 zob_inst zob_code dX5_init_1 (Nat.le_of_ble_eq_true rfl) ?_
  refine n_aload_n (pc := 4) dX5_init_4 rfl ?_
  refine n_sipush (pc := 5) dX5_init_5 zcs_1280 ?_
  refine n_newaL (pc := 8) (N := 1280) zar_long (by decide) (by decide) (Nat.le_of_ble_eq_true rfl) (Nat.le_of_ble_eq_true rfl) (Nat.le_of_ble_eq_true rfl) (n2 := 1) (sl2 := 1280) (tl2 := [.inl (cL, 1280, .inr (.inl (fun _ => 0)))]) rfl rfl rfl dX5_init_8 ?_
  refine n_putF (pc := 10) (T := TX5) (N := 3) (j := 0) (ci := 4) zinX5 tyX5 tyX5_ok nmX5 rfl (by decide) zf_X5_11 rfl rfl rfl (tyX5_ok 0 (by decide)) rfl rfl (Nat.le_of_ble_eq_true rfl) (fs2 := [.ref (sz + 0), .null, .null]) rfl dX5_init_10 ?_
  refine n_aload_n (pc := 13) dX5_init_13 rfl ?_
  refine n_new (pc := 14) zinX1 tyX1 tyX1_ok zcl_X5_15 zis_X1 zii_X1 (T := TX1) (N := 1) (ci := 1) rfl [.null] (n_dv rfl) (Nat.le_of_ble_eq_true rfl) (Nat.le_of_ble_eq_true rfl) dX5_init_14 ?_
  refine n_dup (pc := 17) dX5_init_17 rfl ?_
  refine n_bipush (pc := 18) dX5_init_18 zcb_8 ?_
  refine n_init (pc := 20) (i := 1) (S := [.ref (sz + 1), .ref a]) (As := [.int 8]) rfl (k_X1 (x := 8) (N := 8) (by decide) (by decide) (Nat.le_of_ble_eq_true rfl)) zw_X1_init zin_X1_init rfl zm_X5_17 (nA := 1) (by decide) rfl rfl rfl (Nat.le_of_ble_eq_true rfl) (Nat.le_of_ble_eq_true rfl) (Nat.le_of_ble_eq_true rfl) (Nat.le_of_ble_eq_true rfl) (Nat.le_of_ble_eq_true rfl) dX5_init_20 ?_
  refine n_putF (pc := 23) (T := TX5) (N := 3) (j := 1) (ci := 4) zinX5 tyX5 tyX5_ok nmX5 rfl (by decide) zf_X5_20 rfl rfl rfl (tyX5_ok 1 (by decide)) rfl rfl (Nat.le_of_ble_eq_true rfl) (fs2 := [.ref (sz + 0), .ref (sz + 1), .null]) rfl dX5_init_23 ?_
  refine n_aload_n (pc := 26) dX5_init_26 rfl ?_
  refine n_new (pc := 27) zinX1 tyX1 tyX1_ok zcl_X5_15 zis_X1 zii_X1 (T := TX1) (N := 1) (ci := 1) rfl [.null] (n_dv rfl) (Nat.le_of_ble_eq_true rfl) (Nat.le_of_ble_eq_true rfl) dX5_init_27 ?_
  refine n_dup (pc := 30) dX5_init_30 rfl ?_
  refine n_bipush (pc := 31) dX5_init_31 zcb_8 ?_
  refine n_init (pc := 33) (i := 3) (S := [.ref (sz + 3), .ref a]) (As := [.int 8]) rfl (k_X1 (x := 8) (N := 8) (by decide) (by decide) (Nat.le_of_ble_eq_true rfl)) zw_X1_init zin_X1_init rfl zm_X5_17 (nA := 1) (by decide) rfl rfl rfl (Nat.le_of_ble_eq_true rfl) (Nat.le_of_ble_eq_true rfl) (Nat.le_of_ble_eq_true rfl) (Nat.le_of_ble_eq_true rfl) (Nat.le_of_ble_eq_true rfl) dX5_init_33 ?_
  refine n_putF (pc := 36) (T := TX5) (N := 3) (j := 2) (ci := 4) zinX5 tyX5 tyX5_ok nmX5 rfl (by decide) zf_X5_24 rfl rfl rfl (tyX5_ok 2 (by decide)) rfl rfl (Nat.le_of_ble_eq_true rfl) (fs2 := [.ref (sz + 0), .ref (sz + 1), .ref (sz + 3)]) rfl dX5_init_36 ?_
  refine n_iconst (pc := 39) dX5_init_39 zci_0 ?_
  refine n_istore_n (pc := 40) dX5_init_40 (by decide) (L' := [(0, .ref a), (1, .int 0)]) rfl ?_
  refine n_iload_n (pc := 41) dX5_init_41 rfl ?_
  refine n_bipush (pc := 42) dX5_init_42 zcb_8 ?_
  refine n_icmp_geN (pc := 44) (tgt := 62) dX5_init_44 (by decide) (by decide) ?_
  refine n_aload_n (pc := 47) dX5_init_47 rfl ?_
  refine n_get (pc := 48) zinX5 (T := TX5) (N := 3) (j := 1) (ci := 4) (v := .ref (sz + 1)) rfl (by decide) zf_X5_20 rfl rfl dX5_init_48 ?_
  refine n_iload_n (pc := 51) dX5_init_51 rfl ?_
  refine n_iconst (pc := 52) dX5_init_52 zci_m1 ?_
  refine n_keep (pc := 53) (kk := 1) (i := 0) (n0 := 8) rfl rfl (by decide) (by decide) zm_X5_27 (Nat.le_of_ble_eq_true rfl) (Nat.le_of_ble_eq_true rfl) (Nat.le_of_ble_eq_true rfl) (Nat.le_of_ble_eq_true rfl) dX5_init_53 ?_
  refine n_iinc (pc := 56) dX5_init_56 rfl (by decide) (v := 1) (by decide) (L' := [(0, .ref a), (1, .int 1)]) rfl ?_
  refine n_goto (pc := 59) (tgt := 41) dX5_init_59 (by decide) ?_
  refine n_iload_n (pc := 41) dX5_init_41 rfl ?_
  refine n_bipush (pc := 42) dX5_init_42 zcb_8 ?_
  refine n_icmp_geN (pc := 44) (tgt := 62) dX5_init_44 (by decide) (by decide) ?_
  refine n_aload_n (pc := 47) dX5_init_47 rfl ?_
  refine n_get (pc := 48) zinX5 (T := TX5) (N := 3) (j := 1) (ci := 4) (v := .ref (sz + 1)) rfl (by decide) zf_X5_20 rfl rfl dX5_init_48 ?_
  refine n_iload_n (pc := 51) dX5_init_51 rfl ?_
  refine n_iconst (pc := 52) dX5_init_52 zci_m1 ?_
  refine n_keep (pc := 53) (kk := 1) (i := 1) (n0 := 8) rfl rfl (by decide) (by decide) zm_X5_27 (Nat.le_of_ble_eq_true rfl) (Nat.le_of_ble_eq_true rfl) (Nat.le_of_ble_eq_true rfl) (Nat.le_of_ble_eq_true rfl) dX5_init_53 ?_
  refine n_iinc (pc := 56) dX5_init_56 rfl (by decide) (v := 2) (by decide) (L' := [(0, .ref a), (1, .int 2)]) rfl ?_
  refine n_goto (pc := 59) (tgt := 41) dX5_init_59 (by decide) ?_
  refine n_iload_n (pc := 41) dX5_init_41 rfl ?_
  refine n_bipush (pc := 42) dX5_init_42 zcb_8 ?_
  refine n_icmp_geN (pc := 44) (tgt := 62) dX5_init_44 (by decide) (by decide) ?_
  refine n_aload_n (pc := 47) dX5_init_47 rfl ?_
  refine n_get (pc := 48) zinX5 (T := TX5) (N := 3) (j := 1) (ci := 4) (v := .ref (sz + 1)) rfl (by decide) zf_X5_20 rfl rfl dX5_init_48 ?_
  refine n_iload_n (pc := 51) dX5_init_51 rfl ?_
  refine n_iconst (pc := 52) dX5_init_52 zci_m1 ?_
  refine n_keep (pc := 53) (kk := 1) (i := 2) (n0 := 8) rfl rfl (by decide) (by decide) zm_X5_27 (Nat.le_of_ble_eq_true rfl) (Nat.le_of_ble_eq_true rfl) (Nat.le_of_ble_eq_true rfl) (Nat.le_of_ble_eq_true rfl) dX5_init_53 ?_
  refine n_iinc (pc := 56) dX5_init_56 rfl (by decide) (v := 3) (by decide) (L' := [(0, .ref a), (1, .int 3)]) rfl ?_
  refine n_goto (pc := 59) (tgt := 41) dX5_init_59 (by decide) ?_
  refine n_iload_n (pc := 41) dX5_init_41 rfl ?_
  refine n_bipush (pc := 42) dX5_init_42 zcb_8 ?_
  refine n_icmp_geN (pc := 44) (tgt := 62) dX5_init_44 (by decide) (by decide) ?_
  refine n_aload_n (pc := 47) dX5_init_47 rfl ?_
  refine n_get (pc := 48) zinX5 (T := TX5) (N := 3) (j := 1) (ci := 4) (v := .ref (sz + 1)) rfl (by decide) zf_X5_20 rfl rfl dX5_init_48 ?_
  refine n_iload_n (pc := 51) dX5_init_51 rfl ?_
  refine n_iconst (pc := 52) dX5_init_52 zci_m1 ?_
  refine n_keep (pc := 53) (kk := 1) (i := 3) (n0 := 8) rfl rfl (by decide) (by decide) zm_X5_27 (Nat.le_of_ble_eq_true rfl) (Nat.le_of_ble_eq_true rfl) (Nat.le_of_ble_eq_true rfl) (Nat.le_of_ble_eq_true rfl) dX5_init_53 ?_
  refine n_iinc (pc := 56) dX5_init_56 rfl (by decide) (v := 4) (by decide) (L' := [(0, .ref a), (1, .int 4)]) rfl ?_
  refine n_goto (pc := 59) (tgt := 41) dX5_init_59 (by decide) ?_
  refine n_iload_n (pc := 41) dX5_init_41 rfl ?_
  refine n_bipush (pc := 42) dX5_init_42 zcb_8 ?_
  refine n_icmp_geN (pc := 44) (tgt := 62) dX5_init_44 (by decide) (by decide) ?_
  refine n_aload_n (pc := 47) dX5_init_47 rfl ?_
  refine n_get (pc := 48) zinX5 (T := TX5) (N := 3) (j := 1) (ci := 4) (v := .ref (sz + 1)) rfl (by decide) zf_X5_20 rfl rfl dX5_init_48 ?_
  refine n_iload_n (pc := 51) dX5_init_51 rfl ?_
  refine n_iconst (pc := 52) dX5_init_52 zci_m1 ?_
  refine n_keep (pc := 53) (kk := 1) (i := 4) (n0 := 8) rfl rfl (by decide) (by decide) zm_X5_27 (Nat.le_of_ble_eq_true rfl) (Nat.le_of_ble_eq_true rfl) (Nat.le_of_ble_eq_true rfl) (Nat.le_of_ble_eq_true rfl) dX5_init_53 ?_
  refine n_iinc (pc := 56) dX5_init_56 rfl (by decide) (v := 5) (by decide) (L' := [(0, .ref a), (1, .int 5)]) rfl ?_
  refine n_goto (pc := 59) (tgt := 41) dX5_init_59 (by decide) ?_
  refine n_iload_n (pc := 41) dX5_init_41 rfl ?_
  refine n_bipush (pc := 42) dX5_init_42 zcb_8 ?_
  refine n_icmp_geN (pc := 44) (tgt := 62) dX5_init_44 (by decide) (by decide) ?_
  refine n_aload_n (pc := 47) dX5_init_47 rfl ?_
  refine n_get (pc := 48) zinX5 (T := TX5) (N := 3) (j := 1) (ci := 4) (v := .ref (sz + 1)) rfl (by decide) zf_X5_20 rfl rfl dX5_init_48 ?_
  refine n_iload_n (pc := 51) dX5_init_51 rfl ?_
  refine n_iconst (pc := 52) dX5_init_52 zci_m1 ?_
  refine n_keep (pc := 53) (kk := 1) (i := 5) (n0 := 8) rfl rfl (by decide) (by decide) zm_X5_27 (Nat.le_of_ble_eq_true rfl) (Nat.le_of_ble_eq_true rfl) (Nat.le_of_ble_eq_true rfl) (Nat.le_of_ble_eq_true rfl) dX5_init_53 ?_
  refine n_iinc (pc := 56) dX5_init_56 rfl (by decide) (v := 6) (by decide) (L' := [(0, .ref a), (1, .int 6)]) rfl ?_
  refine n_goto (pc := 59) (tgt := 41) dX5_init_59 (by decide) ?_
  refine n_iload_n (pc := 41) dX5_init_41 rfl ?_
  refine n_bipush (pc := 42) dX5_init_42 zcb_8 ?_
  refine n_icmp_geN (pc := 44) (tgt := 62) dX5_init_44 (by decide) (by decide) ?_
  refine n_aload_n (pc := 47) dX5_init_47 rfl ?_
  refine n_get (pc := 48) zinX5 (T := TX5) (N := 3) (j := 1) (ci := 4) (v := .ref (sz + 1)) rfl (by decide) zf_X5_20 rfl rfl dX5_init_48 ?_
  refine n_iload_n (pc := 51) dX5_init_51 rfl ?_
  refine n_iconst (pc := 52) dX5_init_52 zci_m1 ?_
  refine n_keep (pc := 53) (kk := 1) (i := 6) (n0 := 8) rfl rfl (by decide) (by decide) zm_X5_27 (Nat.le_of_ble_eq_true rfl) (Nat.le_of_ble_eq_true rfl) (Nat.le_of_ble_eq_true rfl) (Nat.le_of_ble_eq_true rfl) dX5_init_53 ?_
  refine n_iinc (pc := 56) dX5_init_56 rfl (by decide) (v := 7) (by decide) (L' := [(0, .ref a), (1, .int 7)]) rfl ?_
  refine n_goto (pc := 59) (tgt := 41) dX5_init_59 (by decide) ?_
  refine n_iload_n (pc := 41) dX5_init_41 rfl ?_
  refine n_bipush (pc := 42) dX5_init_42 zcb_8 ?_
  refine n_icmp_geN (pc := 44) (tgt := 62) dX5_init_44 (by decide) (by decide) ?_
  refine n_aload_n (pc := 47) dX5_init_47 rfl ?_
  refine n_get (pc := 48) zinX5 (T := TX5) (N := 3) (j := 1) (ci := 4) (v := .ref (sz + 1)) rfl (by decide) zf_X5_20 rfl rfl dX5_init_48 ?_
  refine n_iload_n (pc := 51) dX5_init_51 rfl ?_
  refine n_iconst (pc := 52) dX5_init_52 zci_m1 ?_
  refine n_keep (pc := 53) (kk := 1) (i := 7) (n0 := 8) rfl rfl (by decide) (by decide) zm_X5_27 (Nat.le_of_ble_eq_true rfl) (Nat.le_of_ble_eq_true rfl) (Nat.le_of_ble_eq_true rfl) (Nat.le_of_ble_eq_true rfl) dX5_init_53 ?_
  refine n_iinc (pc := 56) dX5_init_56 rfl (by decide) (v := 8) (by decide) (L' := [(0, .ref a), (1, .int 8)]) rfl ?_
  refine n_goto (pc := 59) (tgt := 41) dX5_init_59 (by decide) ?_
  refine n_iload_n (pc := 41) dX5_init_41 rfl ?_
  refine n_bipush (pc := 42) dX5_init_42 zcb_8 ?_
  refine n_icmp_geY (pc := 44) (tgt := 62) dX5_init_44 (by decide) (by decide) ?_
  exact n_vret (pc := 62) rfl rfl rfl rfl dX5_init_62
set_option maxRecDepth 20000 in
theorem k_X0 {D : va_G} {cI cL : ClassId} {a sz : Nat} : n_S D cI cL 2 2 21 yX0_init cX0_init 1 [] a sz [.inr (0, [.null, .int 0, .int 0, .int 0, .int 0])] [.inr (0, [.ref (sz + 0), .int 0, .int 0, .int 0, .int 0]), .inr (1, [.ref (sz + 1)]), .inl (cI, 20, .inl (fun _ => 0))] := by
  refine n_entry (by decide) rfl (Nat.le_of_ble_eq_true rfl) (L := [(0, .ref a)]) rfl ?_
  refine n_aload_n (pc := 0) dX0_init_0 rfl ?_
  refine n_obj (pc := 1) rfl zob_X0 zob_inst zob_code dX0_init_1 (Nat.le_of_ble_eq_true rfl) ?_
  refine n_aload_n (pc := 4) dX0_init_4 rfl ?_
  refine n_new (pc := 5) zinX1 tyX1 tyX1_ok zcl_X0_9 zis_X1 zii_X1 (T := TX1) (N := 1) (ci := 1) rfl [.null] (n_dv rfl) (Nat.le_of_ble_eq_true rfl) (Nat.le_of_ble_eq_true rfl) dX0_init_5 ?_
  refine n_dup (pc := 8) dX0_init_8 rfl ?_
  refine n_bipush (pc := 9) dX0_init_9 zcb_20 ?_
  refine n_init (pc := 11) (i := 0) (S := [.ref (sz + 0), .ref a]) (As := [.int 20]) rfl (k_X1 (x := 20) (N := 20) (by decide) (by decide) (Nat.le_of_ble_eq_true rfl)) zw_X1_init zin_X1_init rfl zm_X0_13 (nA := 1) (by decide) rfl rfl rfl (Nat.le_of_ble_eq_true rfl) (Nat.le_of_ble_eq_true rfl) (Nat.le_of_ble_eq_true rfl) (Nat.le_of_ble_eq_true rfl) (Nat.le_of_ble_eq_true rfl) dX0_init_11 ?_
  refine n_putF (pc := 14) (T := TX0) (N := 5) (j := 0) (ci := 0) zinX0 tyX0 tyX0_ok nmX0 rfl (by decide) zf_X0_16 rfl rfl rfl (tyX0_ok 0 (by decide)) rfl rfl (Nat.le_of_ble_eq_true rfl) (fs2 := [.ref (sz + 0), .int 0, .int 0, .int 0, .int 0]) rfl dX0_init_14 ?_
  exact n_vret (pc := 17) rfl rfl rfl rfl dX0_init_17
set_option maxRecDepth 20000 in
theorem k_X7 {D : va_G} {cI cL : ClassId} {a sz : Nat} {t1 : Nat} : n_S D cI cL 2 10 233 yX7_init cX7_init 2 [.ref t1] a sz [.inr (6, [.null, .null, .null, .null, .null, .null, .int 0, .int 0])] [.inr (6, [.ref t1, .ref (sz + 0), .ref (sz + 2), .ref (sz + 4), .ref (sz + 6), .ref (sz + 8), .int 0, .int 0]), .inr (1, [.ref (sz + 1)]), .inl (cI, 64, .inl (fun _ => 0)), .inr (1, [.ref (sz + 3)]), .inl (cI, 40, .inl (fun _ => 0)), .inr (1, [.ref (sz + 5)]), .inl (cI, 40, .inl (fun _ => 0)), .inr (1, [.ref (sz + 7)]), .inl (cI, 43, .inl (fun _ => 0)), .inr (1, [.ref (sz + 9)]), .inl (cI, 41, .inl (fun _ => 0))] := by
  refine n_entry (by decide) rfl (Nat.le_of_ble_eq_true rfl) (L := [(0, .ref a), (1, .ref t1)]) rfl ?_
  refine n_aload_n (pc := 0) dX7_init_0 rfl ?_
  refine n_obj (pc := 1) rfl zob_X7 zob_inst zob_code dX7_init_1 (Nat.le_of_ble_eq_true rfl) ?_
  refine n_aload_n (pc := 4) dX7_init_4 rfl ?_
  refine n_aload_n (pc := 5) dX7_init_5 rfl ?_
  refine n_putF (pc := 6) (T := TX7) (N := 8) (j := 0) (ci := 6) zinX7 tyX7 tyX7_ok nmX7 rfl (by decide) zf_X7_11 rfl rfl rfl (tyX7_ok 0 (by decide)) rfl rfl (Nat.le_of_ble_eq_true rfl) (fs2 := [.ref t1, .null, .null, .null, .null, .null, .int 0, .int 0]) rfl dX7_init_6 ?_
  refine n_aload_n (pc := 9) dX7_init_9 rfl ?_
  refine n_new (pc := 10) zinX1 tyX1 tyX1_ok zcl_X7_17 zis_X1 zii_X1 (T := TX1) (N := 1) (ci := 1) rfl [.null] (n_dv rfl) (Nat.le_of_ble_eq_true rfl) (Nat.le_of_ble_eq_true rfl) dX7_init_10 ?_
  refine n_dup (pc := 13) dX7_init_13 rfl ?_
  refine n_bipush (pc := 14) dX7_init_14 zcb_64 ?_
  refine n_init (pc := 16) (i := 0) (S := [.ref (sz + 0), .ref a]) (As := [.int 64]) rfl (k_X1 (x := 64) (N := 64) (by decide) (by decide) (Nat.le_of_ble_eq_true rfl)) zw_X1_init zin_X1_init rfl zm_X7_19 (nA := 1) (by decide) rfl rfl rfl (Nat.le_of_ble_eq_true rfl) (Nat.le_of_ble_eq_true rfl) (Nat.le_of_ble_eq_true rfl) (Nat.le_of_ble_eq_true rfl) (Nat.le_of_ble_eq_true rfl) dX7_init_16 ?_
  refine n_putF (pc := 19) (T := TX7) (N := 8) (j := 1) (ci := 6) zinX7 tyX7 tyX7_ok nmX7 rfl (by decide) zf_X7_22 rfl rfl rfl (tyX7_ok 1 (by decide)) rfl rfl (Nat.le_of_ble_eq_true rfl) (fs2 := [.ref t1, .ref (sz + 0), .null, .null, .null, .null, .int 0, .int 0]) rfl dX7_init_19 ?_
  refine n_aload_n (pc := 22) dX7_init_22 rfl ?_
  refine n_new (pc := 23) zinX1 tyX1 tyX1_ok zcl_X7_17 zis_X1 zii_X1 (T := TX1) (N := 1) (ci := 1) rfl [.null] (n_dv rfl) (Nat.le_of_ble_eq_true rfl) (Nat.le_of_ble_eq_true rfl) dX7_init_23 ?_
  refine n_dup (pc := 26) dX7_init_26 rfl ?_
  refine n_bipush (pc := 27) dX7_init_27 zcb_40 ?_
  refine n_init (pc := 29) (i := 2) (S := [.ref (sz + 2), .ref a]) (As := [.int 40]) rfl (k_X1 (x := 40) (N := 40) (by decide) (by decide) (Nat.le_of_ble_eq_true rfl)) zw_X1_init zin_X1_init rfl zm_X7_19 (nA := 1) (by decide) rfl rfl rfl (Nat.le_of_ble_eq_true rfl) (Nat.le_of_ble_eq_true rfl) (Nat.le_of_ble_eq_true rfl) (Nat.le_of_ble_eq_true rfl) (Nat.le_of_ble_eq_true rfl) dX7_init_29 ?_
  refine n_putF (pc := 32) (T := TX7) (N := 8) (j := 2) (ci := 6) zinX7 tyX7 tyX7_ok nmX7 rfl (by decide) zf_X7_26 rfl rfl rfl (tyX7_ok 2 (by decide)) rfl rfl (Nat.le_of_ble_eq_true rfl) (fs2 := [.ref t1, .ref (sz + 0), .ref (sz + 2), .null, .null, .null, .int 0, .int 0]) rfl dX7_init_32 ?_
  refine n_aload_n (pc := 35) dX7_init_35 rfl ?_
  refine n_new (pc := 36) zinX1 tyX1 tyX1_ok zcl_X7_17 zis_X1 zii_X1 (T := TX1) (N := 1) (ci := 1) rfl [.null] (n_dv rfl) (Nat.le_of_ble_eq_true rfl) (Nat.le_of_ble_eq_true rfl) dX7_init_36 ?_
  refine n_dup (pc := 39) dX7_init_39 rfl ?_
  refine n_bipush (pc := 40) dX7_init_40 zcb_40 ?_
  refine n_init (pc := 42) (i := 4) (S := [.ref (sz + 4), .ref a]) (As := [.int 40]) rfl (k_X1 (x := 40) (N := 40) (by decide) (by decide) (Nat.le_of_ble_eq_true rfl)) zw_X1_init zin_X1_init rfl zm_X7_19 (nA := 1) (by decide) rfl rfl rfl (Nat.le_of_ble_eq_true rfl) (Nat.le_of_ble_eq_true rfl) (Nat.le_of_ble_eq_true rfl) (Nat.le_of_ble_eq_true rfl) (Nat.le_of_ble_eq_true rfl) dX7_init_42 ?_
  refine n_putF (pc := 45) (T := TX7) (N := 8) (j := 3) (ci := 6) zinX7 tyX7 tyX7_ok nmX7 rfl (by decide) zf_X7_29 rfl rfl rfl (tyX7_ok 3 (by decide)) rfl rfl (Nat.le_of_ble_eq_true rfl) (fs2 := [.ref t1, .ref (sz + 0), .ref (sz + 2), .ref (sz + 4), .null, .null, .int 0, .int 0]) rfl dX7_init_45 ?_
  refine n_aload_n (pc := 48) dX7_init_48 rfl ?_
  refine n_new (pc := 49) zinX1 tyX1 tyX1_ok zcl_X7_17 zis_X1 zii_X1 (T := TX1) (N := 1) (ci := 1) rfl [.null] (n_dv rfl) (Nat.le_of_ble_eq_true rfl) (Nat.le_of_ble_eq_true rfl) dX7_init_49 ?_
  refine n_dup (pc := 52) dX7_init_52 rfl ?_
  refine n_bipush (pc := 53) dX7_init_53 zcb_43 ?_
  refine n_init (pc := 55) (i := 6) (S := [.ref (sz + 6), .ref a]) (As := [.int 43]) rfl (k_X1 (x := 43) (N := 43) (by decide) (by decide) (Nat.le_of_ble_eq_true rfl)) zw_X1_init zin_X1_init rfl zm_X7_19 (nA := 1) (by decide) rfl rfl rfl (Nat.le_of_ble_eq_true rfl) (Nat.le_of_ble_eq_true rfl) (Nat.le_of_ble_eq_true rfl) (Nat.le_of_ble_eq_true rfl) (Nat.le_of_ble_eq_true rfl) dX7_init_55 ?_
  refine n_putF (pc := 58) (T := TX7) (N := 8) (j := 4) (ci := 6) zinX7 tyX7 tyX7_ok nmX7 rfl (by decide) zf_X7_32 rfl rfl rfl (tyX7_ok 4 (by decide)) rfl rfl (Nat.le_of_ble_eq_true rfl) (fs2 := [.ref t1, .ref (sz + 0), .ref (sz + 2), .ref (sz + 4), .ref (sz + 6), .null, .int 0, .int 0]) rfl dX7_init_58 ?_
  refine n_aload_n (pc := 61) dX7_init_61 rfl ?_
  refine n_new (pc := 62) zinX1 tyX1 tyX1_ok zcl_X7_17 zis_X1 zii_X1 (T := TX1) (N := 1) (ci := 1) rfl [.null] (n_dv rfl) (Nat.le_of_ble_eq_true rfl) (Nat.le_of_ble_eq_true rfl) dX7_init_62 ?_
  refine n_dup (pc := 65) dX7_init_65 rfl ?_
  refine n_bipush (pc := 66) dX7_init_66 zcb_41 ?_
  refine n_init (pc := 68) (i := 8) (S := [.ref (sz + 8), .ref a]) (As := [.int 41]) rfl (k_X1 (x := 41) (N := 41) (by decide) (by decide) (Nat.le_of_ble_eq_true rfl)) zw_X1_init zin_X1_init rfl zm_X7_19 (nA := 1) (by decide) rfl rfl rfl (Nat.le_of_ble_eq_true rfl) (Nat.le_of_ble_eq_true rfl) (Nat.le_of_ble_eq_true rfl) (Nat.le_of_ble_eq_true rfl) (Nat.le_of_ble_eq_true rfl) dX7_init_68 ?_
  refine n_putF (pc := 71) (T := TX7) (N := 8) (j := 5) (ci := 6) zinX7 tyX7 tyX7_ok nmX7 rfl (by decide) zf_X7_35 rfl rfl rfl (tyX7_ok 5 (by decide)) rfl rfl (Nat.le_of_ble_eq_true rfl) (fs2 := [.ref t1, .ref (sz + 0), .ref (sz + 2), .ref (sz + 4), .ref (sz + 6), .ref (sz + 8), .int 0, .int 0]) rfl dX7_init_71 ?_
  exact n_vret (pc := 74) rfl rfl rfl rfl dX7_init_74
set_option maxRecDepth 20000 in
theorem k_X4 {D : va_G} {cI cL : ClassId} {a sz : Nat} {t1 : Nat} {t2 : Nat} : n_S D cI cL 2 2 7 yX4_init cX4_init 3 [.ref t1, .ref t2] a sz [.inr (3, [.null, .null, .null, .int 0, .int 0, .int 0, .int 0])] [.inr (3, [.ref t1, .ref t2, .ref (sz + 0), .int 0, .int 0, .int 0, .int 0]), .inr (1, [.ref (sz + 1)]), .inl (cI, 6, .inl (fun _ => 0))] := by
  refine n_entry (by decide) rfl (Nat.le_of_ble_eq_true rfl) (L := [(0, .ref a), (1, .ref t1), (2, .ref t2)]) rfl ?_
  refine n_aload_n (pc := 0) dX4_init_0 rfl ?_
  refine n_obj (pc := 1) rfl zob_X4 zob_inst zob_code dX4_init_1 (Nat.le_of_ble_eq_true rfl) ?_
  refine n_aload_n (pc := 4) dX4_init_4 rfl ?_
  refine n_aload_n (pc := 5) dX4_init_5 rfl ?_
  refine n_putF (pc := 6) (T := TX4) (N := 7) (j := 0) (ci := 3) zinX4 tyX4 tyX4_ok nmX4 rfl (by decide) zf_X4_9 rfl rfl rfl (tyX4_ok 0 (by decide)) rfl rfl (Nat.le_of_ble_eq_true rfl) (fs2 := [.ref t1, .null, .null, .int 0, .int 0, .int 0, .int 0]) rfl dX4_init_6 ?_
  refine n_aload_n (pc := 9) dX4_init_9 rfl ?_
  refine n_aload_n (pc := 10) dX4_init_10 rfl ?_
  refine n_putF (pc := 11) (T := TX4) (N := 7) (j := 1) (ci := 3) zinX4 tyX4 tyX4_ok nmX4 rfl (by decide) zf_X4_15 rfl rfl rfl (tyX4_ok 1 (by decide)) rfl rfl (Nat.le_of_ble_eq_true rfl) (fs2 := [.ref t1, .ref t2, .null, .int 0, .int 0, .int 0, .int 0]) rfl dX4_init_11 ?_
  refine n_aload_n (pc := 14) dX4_init_14 rfl ?_
  refine n_new (pc := 15) zinX1 tyX1 tyX1_ok zcl_X4_19 zis_X1 zii_X1 (T := TX1) (N := 1) (ci := 1) rfl [.null] (n_dv rfl) (Nat.le_of_ble_eq_true rfl) (Nat.le_of_ble_eq_true rfl) dX4_init_15 ?_
  refine n_dup (pc := 18) dX4_init_18 rfl ?_
  refine n_bipush (pc := 19) dX4_init_19 zcb_6 ?_
  refine n_init (pc := 21) (i := 0) (S := [.ref (sz + 0), .ref a]) (As := [.int 6]) rfl (k_X1 (x := 6) (N := 6) (by decide) (by decide) (Nat.le_of_ble_eq_true rfl)) zw_X1_init zin_X1_init rfl zm_X4_21 (nA := 1) (by decide) rfl rfl rfl (Nat.le_of_ble_eq_true rfl) (Nat.le_of_ble_eq_true rfl) (Nat.le_of_ble_eq_true rfl) (Nat.le_of_ble_eq_true rfl) (Nat.le_of_ble_eq_true rfl) dX4_init_21 ?_
  refine n_putF (pc := 24) (T := TX4) (N := 7) (j := 2) (ci := 3) zinX4 tyX4 tyX4_ok nmX4 rfl (by decide) zf_X4_24 rfl rfl rfl (tyX4_ok 2 (by decide)) rfl rfl (Nat.le_of_ble_eq_true rfl) (fs2 := [.ref t1, .ref t2, .ref (sz + 0), .int 0, .int 0, .int 0, .int 0]) rfl dX4_init_24 ?_
  exact n_vret (pc := 27) rfl rfl rfl rfl dX4_init_27
set_option maxRecDepth 20000 in
theorem k_X3 {D : va_G} {cI cL : ClassId} {a sz : Nat} {t1 : Nat} {t2 : Nat} : n_S D cI cL 2 2 161 yX3_init cX3_init 3 [.ref t1, .ref t2] a sz [.inr (2, [.null, .null, .null, .int 0, .int 0])] [.inr (2, [.ref t1, .ref t2, .ref (sz + 0), .int 0, .int (-1)]), .inr (1, [.ref (sz + 1)]), .inl (cI, 160, .inl (fun _ => 0))] := by
  refine n_entry (by decide) rfl (Nat.le_of_ble_eq_true rfl) (L := [(0, .ref a), (1, .ref t1), (2, .ref t2)]) rfl ?_
  refine n_aload_n (pc := 0) dX3_init_0 rfl ?_
  refine n_obj (pc := 1) rfl zob_X3 zob_inst zob_code dX3_init_1 (Nat.le_of_ble_eq_true rfl) ?_
  refine n_aload_n (pc := 4) dX3_init_4 rfl ?_
  refine n_aload_n (pc := 5) dX3_init_5 rfl ?_
  refine n_putF (pc := 6) (T := TX3) (N := 5) (j := 0) (ci := 2) zinX3 tyX3 tyX3_ok nmX3 rfl (by decide) zf_X3_9 rfl rfl rfl (tyX3_ok 0 (by decide)) rfl rfl (Nat.le_of_ble_eq_true rfl) (fs2 := [.ref t1, .null, .null, .int 0, .int 0]) rfl dX3_init_6 ?_
  refine n_aload_n (pc := 9) dX3_init_9 rfl ?_
  refine n_aload_n (pc := 10) dX3_init_10 rfl ?_
  refine n_putF (pc := 11) (T := TX3) (N := 5) (j := 1) (ci := 2) zinX3 tyX3 tyX3_ok nmX3 rfl (by decide) zf_X3_15 rfl rfl rfl (tyX3_ok 1 (by decide)) rfl rfl (Nat.le_of_ble_eq_true rfl) (fs2 := [.ref t1, .ref t2, .null, .int 0, .int 0]) rfl dX3_init_11 ?_
  refine n_aload_n (pc := 14) dX3_init_14 rfl ?_
  refine n_new (pc := 15) zinX1 tyX1 tyX1_ok zcl_X3_19 zis_X1 zii_X1 (T := TX1) (N := 1) (ci := 1) rfl [.null] (n_dv rfl) (Nat.le_of_ble_eq_true rfl) (Nat.le_of_ble_eq_true rfl) dX3_init_15 ?_
  refine n_dup (pc := 18) dX3_init_18 rfl ?_
  refine n_sipush (pc := 19) dX3_init_19 zcs_160 ?_
  refine n_init (pc := 22) (i := 0) (S := [.ref (sz + 0), .ref a]) (As := [.int 160]) rfl (k_X1 (x := 160) (N := 160) (by decide) (by decide) (Nat.le_of_ble_eq_true rfl)) zw_X1_init zin_X1_init rfl zm_X3_23 (nA := 1) (by decide) rfl rfl rfl (Nat.le_of_ble_eq_true rfl) (Nat.le_of_ble_eq_true rfl) (Nat.le_of_ble_eq_true rfl) (Nat.le_of_ble_eq_true rfl) (Nat.le_of_ble_eq_true rfl) dX3_init_22 ?_
  refine n_putF (pc := 25) (T := TX3) (N := 5) (j := 2) (ci := 2) zinX3 tyX3 tyX3_ok nmX3 rfl (by decide) zf_X3_26 rfl rfl rfl (tyX3_ok 2 (by decide)) rfl rfl (Nat.le_of_ble_eq_true rfl) (fs2 := [.ref t1, .ref t2, .ref (sz + 0), .int 0, .int 0]) rfl dX3_init_25 ?_
  refine n_aload_n (pc := 28) dX3_init_28 rfl ?_
  refine n_iconst (pc := 29) dX3_init_29 zci_m1 ?_
  refine n_put (pc := 30) (T := TX3) (N := 5) (j := 4) (ci := 2) zinX3 tyX3 tyX3_ok nmX3 rfl (by decide) zf_X3_30 rfl rfl (tyX3_ok 4 (by decide)) rfl rfl (Nat.le_of_ble_eq_true rfl) (fs2 := [.ref t1, .ref t2, .ref (sz + 0), .int 0, .int (-1)]) rfl dX3_init_30 ?_
  exact n_vret (pc := 33) rfl rfl rfl rfl dX3_init_33
set_option maxRecDepth 20000 in
theorem k_X8 {D : va_G} {cI cL : ClassId} {a sz : Nat} : n_S D cI cL 3 49 2069 yX8_init cX8_init 1 [] a sz [.inr (7, [.null, .null, .null, .null, .null, .null, .null, .null, .null, .int 0, .int 0])] [.inr (7, [.ref (sz + 0), .ref (sz + 7), .ref (sz + 14), .ref (sz + 21), .ref (sz + 27), .ref (sz + 30), .ref (sz + 41), .ref (sz + 44), .ref (sz + 47), .int (-1), .int 0]), .inr (5, [.ref (sz + 1), .ref (sz + 3), .ref (sz + 5), .int 0, .int 0, .int 2, .int (-1), .int 0, .int 0, .int 1]), .inr (1, [.ref (sz + 2)]), .inl (cI, 40, .inl (fun _ => 0)), .inr (1, [.ref (sz + 4)]), .inl (cI, 48, .inl (fun _ => 0)), .inr (1, [.ref (sz + 6)]), .inl (cI, 3, .inl (fun _ => 0)), .inr (5, [.ref (sz + 8), .ref (sz + 10), .ref (sz + 12), .int 0, .int 0, .int 2, .int (-1), .int 0, .int 0, .int 1]), .inr (1, [.ref (sz + 9)]), .inl (cI, 40, .inl (fun _ => 0)), .inr (1, [.ref (sz + 11)]), .inl (cI, 48, .inl (fun _ => 0)), .inr (1, [.ref (sz + 13)]), .inl (cI, 3, .inl (fun _ => 0)), .inr (5, [.ref (sz + 15), .ref (sz + 17), .ref (sz + 19), .int 0, .int 0, .int 2, .int (-1), .int 0, .int 0, .int 1]), .inr (1, [.ref (sz + 16)]), .inl (cI, 40, .inl (fun _ => 0)), .inr (1, [.ref (sz + 18)]), .inl (cI, 48, .inl (fun _ => 0)), .inr (1, [.ref (sz + 20)]), .inl (cI, 3, .inl (fun _ => 0)), .inr (4, [.ref (sz + 22), .ref (sz + 23), .ref (sz + 25)]), .inl (cL, 1280, .inr (.inl (fun _ => 0))), .inr (1, [.ref (sz + 24)]), .inl (cI, 8, .inl (n_kp (n_kp (n_kp (n_kp (n_kp (n_kp (n_kp (n_kp (fun _ => 0) 0 (-1)) 1 (-1)) 2 (-1)) 3 (-1)) 4 (-1)) 5 (-1)) 6 (-1)) 7 (-1))), .inr (1, [.ref (sz + 26)]), .inl (cI, 8, .inl (fun _ => 0)), .inr (0, [.ref (sz + 28), .int 0, .int 0, .int 0, .int 0]), .inr (1, [.ref (sz + 29)]), .inl (cI, 20, .inl (fun _ => 0)), .inr (6, [.ref (sz + 0), .ref (sz + 31), .ref (sz + 33), .ref (sz + 35), .ref (sz + 37), .ref (sz + 39), .int 0, .int 0]), .inr (1, [.ref (sz + 32)]), .inl (cI, 64, .inl (fun _ => 0)), .inr (1, [.ref (sz + 34)]), .inl (cI, 40, .inl (fun _ => 0)), .inr (1, [.ref (sz + 36)]), .inl (cI, 40, .inl (fun _ => 0)), .inr (1, [.ref (sz + 38)]), .inl (cI, 43, .inl (fun _ => 0)), .inr (1, [.ref (sz + 40)]), .inl (cI, 41, .inl (fun _ => 0)), .inr (3, [.ref (sz + 0), .ref (sz + 30), .ref (sz + 42), .int 0, .int 0, .int 0, .int 0]), .inr (1, [.ref (sz + 43)]), .inl (cI, 6, .inl (fun _ => 0)), .inr (2, [.ref (sz + 21), .ref (sz + 14), .ref (sz + 45), .int 0, .int (-1)]), .inr (1, [.ref (sz + 46)]), .inl (cI, 160, .inl (fun _ => 0)), .inr (1, [.ref (sz + 48)]), .inl (cI, 8, .inl (fun _ => 0))] := by
  refine n_entry (by decide) rfl (Nat.le_of_ble_eq_true rfl) (L := [(0, .ref a)]) rfl ?_
  refine n_aload_n (pc := 0) dX8_init_0 rfl ?_
  refine n_obj (pc := 1) rfl zob_X8 zob_inst zob_code dX8_init_1 (Nat.le_of_ble_eq_true rfl) ?_
  refine n_aload_n (pc := 4) dX8_init_4 rfl ?_
  refine n_new (pc := 5) zinX6 tyX6 tyX6_ok zcl_X8_7 zis_X6 zii_X6 (T := TX6) (N := 10) (ci := 5) rfl [.null, .null, .null, .int 0, .int 0, .int 0, .int 0, .int 0, .int 0, .int 0] (n_dv rfl) (Nat.le_of_ble_eq_true rfl) (Nat.le_of_ble_eq_true rfl) dX8_init_5 ?_
  refine n_dup (pc := 8) dX8_init_8 rfl ?_
  refine n_init (pc := 9) (i := 0) (S := [.ref (sz + 0), .ref a]) (As := []) rfl (k_X6 ) zw_X6_init zin_X6_init rfl zm_X8_9 (nA := 0) (by decide) rfl rfl rfl (Nat.le_of_ble_eq_true rfl) (Nat.le_of_ble_eq_true rfl) (Nat.le_of_ble_eq_true rfl) (Nat.le_of_ble_eq_true rfl) (Nat.le_of_ble_eq_true rfl) dX8_init_9 ?_
  refine n_putF (pc := 12) (T := TX8) (N := 11) (j := 0) (ci := 7) zinX8 tyX8 tyX8_ok nmX8 rfl (by decide) zf_X8_10 rfl rfl rfl (tyX8_ok 0 (by decide)) rfl rfl (Nat.le_of_ble_eq_true rfl) (fs2 := [.ref (sz + 0), .null, .null, .null, .null, .null, .null, .null, .null, .int 0, .int 0]) rfl dX8_init_12 ?_
  refine n_aload_n (pc := 15) dX8_init_15 rfl ?_
  refine n_new (pc := 16) zinX6 tyX6 tyX6_ok zcl_X8_7 zis_X6 zii_X6 (T := TX6) (N := 10) (ci := 5) rfl [.null, .null, .null, .int 0, .int 0, .int 0, .int 0, .int 0, .int 0, .int 0] (n_dv rfl) (Nat.le_of_ble_eq_true rfl) (Nat.le_of_ble_eq_true rfl) dX8_init_16 ?_
  refine n_dup (pc := 19) dX8_init_19 rfl ?_
  refine n_init (pc := 20) (i := 7) (S := [.ref (sz + 7), .ref a]) (As := []) rfl (k_X6 ) zw_X6_init zin_X6_init rfl zm_X8_9 (nA := 0) (by decide) rfl rfl rfl (Nat.le_of_ble_eq_true rfl) (Nat.le_of_ble_eq_true rfl) (Nat.le_of_ble_eq_true rfl) (Nat.le_of_ble_eq_true rfl) (Nat.le_of_ble_eq_true rfl) dX8_init_20 ?_
  refine n_putF (pc := 23) (T := TX8) (N := 11) (j := 1) (ci := 7) zinX8 tyX8 tyX8_ok nmX8 rfl (by decide) zf_X8_16 rfl rfl rfl (tyX8_ok 1 (by decide)) rfl rfl (Nat.le_of_ble_eq_true rfl) (fs2 := [.ref (sz + 0), .ref (sz + 7), .null, .null, .null, .null, .null, .null, .null, .int 0, .int 0]) rfl dX8_init_23 ?_
  refine n_aload_n (pc := 26) dX8_init_26 rfl ?_
  refine n_new (pc := 27) zinX6 tyX6 tyX6_ok zcl_X8_7 zis_X6 zii_X6 (T := TX6) (N := 10) (ci := 5) rfl [.null, .null, .null, .int 0, .int 0, .int 0, .int 0, .int 0, .int 0, .int 0] (n_dv rfl) (Nat.le_of_ble_eq_true rfl) (Nat.le_of_ble_eq_true rfl) dX8_init_27 ?_
  refine n_dup (pc := 30) dX8_init_30 rfl ?_
  refine n_init (pc := 31) (i := 14) (S := [.ref (sz + 14), .ref a]) (As := []) rfl (k_X6 ) zw_X6_init zin_X6_init rfl zm_X8_9 (nA := 0) (by decide) rfl rfl rfl (Nat.le_of_ble_eq_true rfl) (Nat.le_of_ble_eq_true rfl) (Nat.le_of_ble_eq_true rfl) (Nat.le_of_ble_eq_true rfl) (Nat.le_of_ble_eq_true rfl) dX8_init_31 ?_
  refine n_putF (pc := 34) (T := TX8) (N := 11) (j := 2) (ci := 7) zinX8 tyX8 tyX8_ok nmX8 rfl (by decide) zf_X8_19 rfl rfl rfl (tyX8_ok 2 (by decide)) rfl rfl (Nat.le_of_ble_eq_true rfl) (fs2 := [.ref (sz + 0), .ref (sz + 7), .ref (sz + 14), .null, .null, .null, .null, .null, .null, .int 0, .int 0]) rfl dX8_init_34 ?_
  refine n_aload_n (pc := 37) dX8_init_37 rfl ?_
  refine n_new (pc := 38) zinX5 tyX5 tyX5_ok zcl_X8_22 zis_X5 zii_X5 (T := TX5) (N := 3) (ci := 4) rfl [.null, .null, .null] (n_dv rfl) (Nat.le_of_ble_eq_true rfl) (Nat.le_of_ble_eq_true rfl) dX8_init_38 ?_
  refine n_dup (pc := 41) dX8_init_41 rfl ?_
  refine n_init (pc := 42) (i := 21) (S := [.ref (sz + 21), .ref a]) (As := []) rfl (k_X5 ) zw_X5_init zin_X5_init rfl zm_X8_24 (nA := 0) (by decide) rfl rfl rfl (Nat.le_of_ble_eq_true rfl) (Nat.le_of_ble_eq_true rfl) (Nat.le_of_ble_eq_true rfl) (Nat.le_of_ble_eq_true rfl) (Nat.le_of_ble_eq_true rfl) dX8_init_42 ?_
  refine n_putF (pc := 45) (T := TX8) (N := 11) (j := 3) (ci := 7) zinX8 tyX8 tyX8_ok nmX8 rfl (by decide) zf_X8_25 rfl rfl rfl (tyX8_ok 3 (by decide)) rfl rfl (Nat.le_of_ble_eq_true rfl) (fs2 := [.ref (sz + 0), .ref (sz + 7), .ref (sz + 14), .ref (sz + 21), .null, .null, .null, .null, .null, .int 0, .int 0]) rfl dX8_init_45 ?_
  refine n_aload_n (pc := 48) dX8_init_48 rfl ?_
  refine n_new (pc := 49) zinX0 tyX0 tyX0_ok zcl_X8_29 zis_X0 zii_X0 (T := TX0) (N := 5) (ci := 0) rfl [.null, .int 0, .int 0, .int 0, .int 0] (n_dv rfl) (Nat.le_of_ble_eq_true rfl) (Nat.le_of_ble_eq_true rfl) dX8_init_49 ?_
  refine n_dup (pc := 52) dX8_init_52 rfl ?_
  refine n_init (pc := 53) (i := 27) (S := [.ref (sz + 27), .ref a]) (As := []) rfl (k_X0 ) zw_X0_init zin_X0_init rfl zm_X8_31 (nA := 0) (by decide) rfl rfl rfl (Nat.le_of_ble_eq_true rfl) (Nat.le_of_ble_eq_true rfl) (Nat.le_of_ble_eq_true rfl) (Nat.le_of_ble_eq_true rfl) (Nat.le_of_ble_eq_true rfl) dX8_init_53 ?_
  refine n_putF (pc := 56) (T := TX8) (N := 11) (j := 4) (ci := 7) zinX8 tyX8 tyX8_ok nmX8 rfl (by decide) zf_X8_32 rfl rfl rfl (tyX8_ok 4 (by decide)) rfl rfl (Nat.le_of_ble_eq_true rfl) (fs2 := [.ref (sz + 0), .ref (sz + 7), .ref (sz + 14), .ref (sz + 21), .ref (sz + 27), .null, .null, .null, .null, .int 0, .int 0]) rfl dX8_init_56 ?_
  refine n_aload_n (pc := 59) dX8_init_59 rfl ?_
  refine n_new (pc := 60) zinX7 tyX7 tyX7_ok zcl_X8_36 zis_X7 zii_X7 (T := TX7) (N := 8) (ci := 6) rfl [.null, .null, .null, .null, .null, .null, .int 0, .int 0] (n_dv rfl) (Nat.le_of_ble_eq_true rfl) (Nat.le_of_ble_eq_true rfl) dX8_init_60 ?_
  refine n_dup (pc := 63) dX8_init_63 rfl ?_
  refine n_aload_n (pc := 64) dX8_init_64 rfl ?_
  refine n_get (pc := 65) zinX8 (T := TX8) (N := 11) (j := 0) (ci := 7) (v := .ref (sz + 0)) rfl (by decide) zf_X8_10 rfl rfl dX8_init_65 ?_
  refine n_init (pc := 68) (i := 30) (S := [.ref (sz + 30), .ref a]) (As := [.ref (sz + 0)]) rfl (k_X7 (t1 := (sz + 0))) zw_X7_init zin_X7_init rfl zm_X8_38 (nA := 1) (by decide) rfl rfl rfl (Nat.le_of_ble_eq_true rfl) (Nat.le_of_ble_eq_true rfl) (Nat.le_of_ble_eq_true rfl) (Nat.le_of_ble_eq_true rfl) (Nat.le_of_ble_eq_true rfl) dX8_init_68 ?_
  refine n_putF (pc := 71) (T := TX8) (N := 11) (j := 5) (ci := 7) zinX8 tyX8 tyX8_ok nmX8 rfl (by decide) zf_X8_41 rfl rfl rfl (tyX8_ok 5 (by decide)) rfl rfl (Nat.le_of_ble_eq_true rfl) (fs2 := [.ref (sz + 0), .ref (sz + 7), .ref (sz + 14), .ref (sz + 21), .ref (sz + 27), .ref (sz + 30), .null, .null, .null, .int 0, .int 0]) rfl dX8_init_71 ?_
  refine n_aload_n (pc := 74) dX8_init_74 rfl ?_
  refine n_new (pc := 75) zinX4 tyX4 tyX4_ok zcl_X8_45 zis_X4 zii_X4 (T := TX4) (N := 7) (ci := 3) rfl [.null, .null, .null, .int 0, .int 0, .int 0, .int 0] (n_dv rfl) (Nat.le_of_ble_eq_true rfl) (Nat.le_of_ble_eq_true rfl) dX8_init_75 ?_
  refine n_dup (pc := 78) dX8_init_78 rfl ?_
  refine n_aload_n (pc := 79) dX8_init_79 rfl ?_
  refine n_get (pc := 80) zinX8 (T := TX8) (N := 11) (j := 0) (ci := 7) (v := .ref (sz + 0)) rfl (by decide) zf_X8_10 rfl rfl dX8_init_80 ?_
  refine n_aload_n (pc := 83) dX8_init_83 rfl ?_
  refine n_get (pc := 84) zinX8 (T := TX8) (N := 11) (j := 5) (ci := 7) (v := .ref (sz + 30)) rfl (by decide) zf_X8_41 rfl rfl dX8_init_84 ?_
  refine n_init (pc := 87) (i := 41) (S := [.ref (sz + 41), .ref a]) (As := [.ref (sz + 0), .ref (sz + 30)]) rfl (k_X4 (t1 := (sz + 0)) (t2 := (sz + 30))) zw_X4_init zin_X4_init rfl zm_X8_47 (nA := 2) (by decide) rfl rfl rfl (Nat.le_of_ble_eq_true rfl) (Nat.le_of_ble_eq_true rfl) (Nat.le_of_ble_eq_true rfl) (Nat.le_of_ble_eq_true rfl) (Nat.le_of_ble_eq_true rfl) dX8_init_87 ?_
  refine n_putF (pc := 90) (T := TX8) (N := 11) (j := 6) (ci := 7) zinX8 tyX8 tyX8_ok nmX8 rfl (by decide) zf_X8_50 rfl rfl rfl (tyX8_ok 6 (by decide)) rfl rfl (Nat.le_of_ble_eq_true rfl) (fs2 := [.ref (sz + 0), .ref (sz + 7), .ref (sz + 14), .ref (sz + 21), .ref (sz + 27), .ref (sz + 30), .ref (sz + 41), .null, .null, .int 0, .int 0]) rfl dX8_init_90 ?_
  refine n_aload_n (pc := 93) dX8_init_93 rfl ?_
  refine n_new (pc := 94) zinX3 tyX3 tyX3_ok zcl_X8_54 zis_X3 zii_X3 (T := TX3) (N := 5) (ci := 2) rfl [.null, .null, .null, .int 0, .int 0] (n_dv rfl) (Nat.le_of_ble_eq_true rfl) (Nat.le_of_ble_eq_true rfl) dX8_init_94 ?_
  refine n_dup (pc := 97) dX8_init_97 rfl ?_
  refine n_aload_n (pc := 98) dX8_init_98 rfl ?_
  refine n_get (pc := 99) zinX8 (T := TX8) (N := 11) (j := 3) (ci := 7) (v := .ref (sz + 21)) rfl (by decide) zf_X8_25 rfl rfl dX8_init_99 ?_
  refine n_aload_n (pc := 102) dX8_init_102 rfl ?_
  refine n_get (pc := 103) zinX8 (T := TX8) (N := 11) (j := 2) (ci := 7) (v := .ref (sz + 14)) rfl (by decide) zf_X8_19 rfl rfl dX8_init_103 ?_
  refine n_init (pc := 106) (i := 44) (S := [.ref (sz + 44), .ref a]) (As := [.ref (sz + 21), .ref (sz + 14)]) rfl (k_X3 (t1 := (sz + 21)) (t2 := (sz + 14))) zw_X3_init zin_X3_init rfl zm_X8_56 (nA := 2) (by decide) rfl rfl rfl (Nat.le_of_ble_eq_true rfl) (Nat.le_of_ble_eq_true rfl) (Nat.le_of_ble_eq_true rfl) (Nat.le_of_ble_eq_true rfl) (Nat.le_of_ble_eq_true rfl) dX8_init_106 ?_
  refine n_putF (pc := 109) (T := TX8) (N := 11) (j := 7) (ci := 7) zinX8 tyX8 tyX8_ok nmX8 rfl (by decide) zf_X8_59 rfl rfl rfl (tyX8_ok 7 (by decide)) rfl rfl (Nat.le_of_ble_eq_true rfl) (fs2 := [.ref (sz + 0), .ref (sz + 7), .ref (sz + 14), .ref (sz + 21), .ref (sz + 27), .ref (sz + 30), .ref (sz + 41), .ref (sz + 44), .null, .int 0, .int 0]) rfl dX8_init_109 ?_
  refine n_aload_n (pc := 112) dX8_init_112 rfl ?_
  refine n_new (pc := 113) zinX1 tyX1 tyX1_ok zcl_X8_63 zis_X1 zii_X1 (T := TX1) (N := 1) (ci := 1) rfl [.null] (n_dv rfl) (Nat.le_of_ble_eq_true rfl) (Nat.le_of_ble_eq_true rfl) dX8_init_113 ?_
  refine n_dup (pc := 116) dX8_init_116 rfl ?_
  refine n_bipush (pc := 117) dX8_init_117 zcb_8 ?_
  refine n_init (pc := 119) (i := 47) (S := [.ref (sz + 47), .ref a]) (As := [.int 8]) rfl (k_X1 (x := 8) (N := 8) (by decide) (by decide) (Nat.le_of_ble_eq_true rfl)) zw_X1_init zin_X1_init rfl zm_X8_65 (nA := 1) (by decide) rfl rfl rfl (Nat.le_of_ble_eq_true rfl) (Nat.le_of_ble_eq_true rfl) (Nat.le_of_ble_eq_true rfl) (Nat.le_of_ble_eq_true rfl) (Nat.le_of_ble_eq_true rfl) dX8_init_119 ?_
  refine n_putF (pc := 122) (T := TX8) (N := 11) (j := 8) (ci := 7) zinX8 tyX8 tyX8_ok nmX8 rfl (by decide) zf_X8_68 rfl rfl rfl (tyX8_ok 8 (by decide)) rfl rfl (Nat.le_of_ble_eq_true rfl) (fs2 := [.ref (sz + 0), .ref (sz + 7), .ref (sz + 14), .ref (sz + 21), .ref (sz + 27), .ref (sz + 30), .ref (sz + 41), .ref (sz + 44), .ref (sz + 47), .int 0, .int 0]) rfl dX8_init_122 ?_
  refine n_aload_n (pc := 125) dX8_init_125 rfl ?_
  refine n_iconst (pc := 126) dX8_init_126 zci_m1 ?_
  refine n_put (pc := 127) (T := TX8) (N := 11) (j := 9) (ci := 7) zinX8 tyX8 tyX8_ok nmX8 rfl (by decide) zf_X8_72 rfl rfl (tyX8_ok 9 (by decide)) rfl rfl (Nat.le_of_ble_eq_true rfl) (fs2 := [.ref (sz + 0), .ref (sz + 7), .ref (sz + 14), .ref (sz + 21), .ref (sz + 27), .ref (sz + 30), .ref (sz + 41), .ref (sz + 44), .ref (sz + 47), .int (-1), .int 0]) rfl dX8_init_127 ?_
  refine n_aload_n (pc := 130) dX8_init_130 rfl ?_
  refine n_iconst (pc := 131) dX8_init_131 zci_0 ?_
  refine n_put (pc := 132) (T := TX8) (N := 11) (j := 10) (ci := 7) zinX8 tyX8 tyX8_ok nmX8 rfl (by decide) zf_X8_76 rfl rfl (tyX8_ok 10 (by decide)) rfl rfl (Nat.le_of_ble_eq_true rfl) (fs2 := [.ref (sz + 0), .ref (sz + 7), .ref (sz + 14), .ref (sz + 21), .ref (sz + 27), .ref (sz + 30), .ref (sz + 41), .ref (sz + 44), .ref (sz + 47), .int (-1), .int 0]) rfl dX8_init_132 ?_
  exact n_vret (pc := 135) rfl rfl rfl rfl dX8_init_135
