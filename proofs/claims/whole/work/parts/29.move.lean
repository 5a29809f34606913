def f_X5_moveElements_b62 (l5 : Int32) (l6 : Int32) (l7 : Int32) (s0 : Int32) (μ : z_M) : Option (Unit × z_M) :=
  if s0 = 0 then (some ((), μ)) else (if (1280 - l6) < l5 then (some ((), μ)) else (if (1280 - l7) < l5 then (some ((), μ)) else (z_cg l6 l7 l5 1280 (z_let (z_cp μ 23 l6 l7 l5) (fun m3 => some ((), m3))))))
def f_X5_moveElements_b61 (l5 : Int32) (l6 : Int32) (l7 : Int32) (μ : z_M) : Option (Unit × z_M) :=
  f_X5_moveElements_b62 l5 l6 l7 0 μ
def f_X5_moveElements (a1 : Int32) (a2 : Int32) (a3 : Int32) (a4 : Int32) (a5 : Int32) (μ : z_M) : Option (Unit × z_M) :=
  z_let (((a1 * 160) + a3) : Int32) (fun x1 => z_let (((a2 * 160) + a4) : Int32) (fun x2 => if (f_X5_hasElements a1 a3 a5 μ) = 0 then (f_X5_moveElements_b61 a5 x1 x2 μ) else (if (f_X5_hasElements a2 a4 a5 μ) = 0 then (f_X5_moveElements_b61 a5 x1 x2 μ) else (if a5 < 0 then (f_X5_moveElements_b61 a5 x1 x2 μ) else (if x1 < 0 then (f_X5_moveElements_b61 a5 x1 x2 μ) else (if x2 < 0 then (f_X5_moveElements_b61 a5 x1 x2 μ) else (f_X5_moveElements_b62 a5 x1 x2 1 μ)))))))
set_option maxRecDepth 20000 in
theorem w_X5_moveElements_62 {D : va_G} {cI cL : ClassId} {b : Nat} {Z : State → Heap → Prop}  (l5 : Int32) (l6 : Int32) (l7 : Int32) (s0 : Int32) (μ : z_M) : z_w (zEc D cI cL b Z) (RX5, cX5_moveElements, 9, none, 2) z_ev 62 [(0, .ref (b + 22)), (5, .int l5), (6, .int l6), (7, .int l7)] [.int s0] μ ((f_X5_moveElements_b62 l5 l6 l7 s0 μ)) := by
  unfold f_X5_moveElements_b62
  refine z_istore (pc := 62) (L' := [(0, .ref (b + 22)), (5, .int l5), (6, .int l6), (7, .int l7), (8, .int s0)]) dX5_moveElements_62 (by decide) rfl ?_
  refine z_iload (pc := 64) dX5_moveElements_64 rfl ?_
  refine z_if_eq (pc := 66) (tgt := 112) dX5_moveElements_66 (by decide) (fun _ => ?_) (fun _ => ?_)
  · exact z_vret (pc := 112) rfl dX5_moveElements_112
  · refine z_iload (pc := 69) dX5_moveElements_69 rfl ?_
    refine z_aload_n (pc := 71) dX5_moveElements_71 rfl ?_
    refine zgR_X5_11 (pc := 72) gc_22 rfl dX5_moveElements_72 ?_
    refine z_alen (pc := 75) gc_23 (v := 1280) (by decide) dX5_moveElements_75 ?_
    refine z_iload (pc := 76) dX5_moveElements_76 rfl ?_
    refine z_isub (pc := 78) dX5_moveElements_78 ?_
    refine z_icmp_gt (pc := 79) (tgt := 112) dX5_moveElements_79 (by decide) (fun _ => ?_) (fun _ => ?_)
    · exact z_vret (pc := 112) rfl dX5_moveElements_112
    · refine z_iload (pc := 82) dX5_moveElements_82 rfl ?_
      refine z_aload_n (pc := 84) dX5_moveElements_84 rfl ?_
      refine zgR_X5_11 (pc := 85) gc_22 rfl dX5_moveElements_85 ?_
      refine z_alen (pc := 88) gc_23 (v := 1280) (by decide) dX5_moveElements_88 ?_
      refine z_iload (pc := 89) dX5_moveElements_89 rfl ?_
      refine z_isub (pc := 91) dX5_moveElements_91 ?_
      refine z_icmp_gt (pc := 92) (tgt := 112) dX5_moveElements_92 (by decide) (fun _ => ?_) (fun _ => ?_)
      · exact z_vret (pc := 112) rfl dX5_moveElements_112
      · refine z_aload_n (pc := 95) dX5_moveElements_95 rfl ?_
        refine zgR_X5_11 (pc := 96) gc_22 rfl dX5_moveElements_96 ?_
        refine z_iload (pc := 99) dX5_moveElements_99 rfl ?_
        refine z_aload_n (pc := 101) dX5_moveElements_101 rfl ?_
        refine zgR_X5_11 (pc := 102) gc_22 rfl dX5_moveElements_102 ?_
        refine z_iload (pc := 105) dX5_moveElements_105 rfl ?_
        refine z_iload (pc := 107) dX5_moveElements_107 rfl ?_
        refine z_acopy (pc := 109) z_acLink gc_23 (by decide) (Nat.le_of_ble_eq_true rfl) dX5_moveElements_109 ?_
        refine z_letMO (fun m3 => ?_)
        exact z_vret (pc := 112) rfl dX5_moveElements_112

set_option maxRecDepth 20000 in
theorem w_X5_moveElements_61 {D : va_G} {cI cL : ClassId} {b : Nat} {Z : State → Heap → Prop}  (l5 : Int32) (l6 : Int32) (l7 : Int32) (μ : z_M) : z_w (zEc D cI cL b Z) (RX5, cX5_moveElements, 9, none, 2) z_ev 61 [(0, .ref (b + 22)), (5, .int l5), (6, .int l6), (7, .int l7)] [] μ ((f_X5_moveElements_b61 l5 l6 l7 μ)) := by
  unfold f_X5_moveElements_b61
  refine z_iconst (pc := 61) dX5_moveElements_61 zci_0 ?_
  exact w_X5_moveElements_62 l5 l6 l7 0 μ

set_option maxRecDepth 20000 in
theorem w_X5_moveElements_0 {D : va_G} {cI cL : ClassId} {b : Nat} {Z : State → Heap → Prop}  (a1 : Int32) (a2 : Int32) (a3 : Int32) (a4 : Int32) (a5 : Int32) (μ : z_M) : z_w (zEc D cI cL b Z) (RX5, cX5_moveElements, 9, none, 2) z_ev 0 [(0, .ref (b + 22)), (1, .int a1), (2, .int a2), (3, .int a3), (4, .int a4), (5, .int a5)] [] μ ((f_X5_moveElements a1 a2 a3 a4 a5 μ)) := by
  unfold f_X5_moveElements
  refine z_iload_n (pc := 0) dX5_moveElements_0 rfl ?_
  refine z_sipush (pc := 1) dX5_moveElements_1 zcs_160 ?_
  refine z_imul (pc := 4) dX5_moveElements_4 ?_
  refine z_iload_n (pc := 5) dX5_moveElements_5 rfl ?_
  refine z_iadd (pc := 6) dX5_moveElements_6 ?_
  refine z_letIO (fun x1 => ?_)
  refine z_istore (pc := 7) (L' := [(0, .ref (b + 22)), (1, .int a1), (2, .int a2), (3, .int a3), (4, .int a4), (5, .int a5), (6, .int x1)]) dX5_moveElements_7 (by decide) rfl ?_
  refine z_iload_n (pc := 9) dX5_moveElements_9 rfl ?_
  refine z_sipush (pc := 10) dX5_moveElements_10 zcs_160 ?_
  refine z_imul (pc := 13) dX5_moveElements_13 ?_
  refine z_iload (pc := 14) dX5_moveElements_14 rfl ?_
  refine z_iadd (pc := 16) dX5_moveElements_16 ?_
  refine z_letIO (fun x2 => ?_)
  refine z_istore (pc := 17) (L' := [(0, .ref (b + 22)), (1, .int a1), (2, .int a2), (3, .int a3), (4, .int a4), (5, .int a5), (6, .int x1), (7, .int x2)]) dX5_moveElements_17 (by decide) rfl ?_
  refine z_aload_n (pc := 19) dX5_moveElements_19 rfl ?_
  refine z_iload_n (pc := 20) dX5_moveElements_20 rfl ?_
  refine z_iload_n (pc := 21) dX5_moveElements_21 rfl ?_
  refine z_iload (pc := 22) dX5_moveElements_22 rfl ?_
  refine z_callVi (pc := 24) (As := [.int a1, .int a3, .int a5]) (S := []) (c_X5_hasElements a1 a3 a5 μ) rfl zw_X5_hasElements zv_X5_hasElements zm_X5_68 (n := 3) (by decide) rfl (z_recv gc_22 (T := TX5) (N := 3) rfl) rfl (Nat.le_of_ble_eq_true rfl) (by decide) (by decide) dX5_moveElements_24 ?_
  refine z_if_eq (pc := 27) (tgt := 61) dX5_moveElements_27 (by decide) (fun _ => ?_) (fun _ => ?_)
  · refine z_drop (L' := [(0, .ref (b + 22)), (5, .int a5), (6, .int x1), (7, .int x2)]) [0, 5, 6, 7] rfl ?_
    exact w_X5_moveElements_61 a5 x1 x2 μ
  · refine z_aload_n (pc := 30) dX5_moveElements_30 rfl ?_
    refine z_iload_n (pc := 31) dX5_moveElements_31 rfl ?_
    refine z_iload (pc := 32) dX5_moveElements_32 rfl ?_
    refine z_iload (pc := 34) dX5_moveElements_34 rfl ?_
    refine z_callVi (pc := 36) (As := [.int a2, .int a4, .int a5]) (S := []) (c_X5_hasElements a2 a4 a5 μ) rfl zw_X5_hasElements zv_X5_hasElements zm_X5_68 (n := 3) (by decide) rfl (z_recv gc_22 (T := TX5) (N := 3) rfl) rfl (Nat.le_of_ble_eq_true rfl) (by decide) (by decide) dX5_moveElements_36 ?_
    refine z_if_eq (pc := 39) (tgt := 61) dX5_moveElements_39 (by decide) (fun _ => ?_) (fun _ => ?_)
    · refine z_drop (L' := [(0, .ref (b + 22)), (5, .int a5), (6, .int x1), (7, .int x2)]) [0, 5, 6, 7] rfl ?_
      exact w_X5_moveElements_61 a5 x1 x2 μ
    · refine z_iload (pc := 42) dX5_moveElements_42 rfl ?_
      refine z_if_lt (pc := 44) (tgt := 61) dX5_moveElements_44 (by decide) (fun _ => ?_) (fun _ => ?_)
      · refine z_drop (L' := [(0, .ref (b + 22)), (5, .int a5), (6, .int x1), (7, .int x2)]) [0, 5, 6, 7] rfl ?_
        exact w_X5_moveElements_61 a5 x1 x2 μ
      · refine z_iload (pc := 47) dX5_moveElements_47 rfl ?_
        refine z_if_lt (pc := 49) (tgt := 61) dX5_moveElements_49 (by decide) (fun _ => ?_) (fun _ => ?_)
        · refine z_drop (L' := [(0, .ref (b + 22)), (5, .int a5), (6, .int x1), (7, .int x2)]) [0, 5, 6, 7] rfl ?_
          exact w_X5_moveElements_61 a5 x1 x2 μ
        · refine z_iload (pc := 52) dX5_moveElements_52 rfl ?_
          refine z_if_lt (pc := 54) (tgt := 61) dX5_moveElements_54 (by decide) (fun _ => ?_) (fun _ => ?_)
          · refine z_drop (L' := [(0, .ref (b + 22)), (5, .int a5), (6, .int x1), (7, .int x2)]) [0, 5, 6, 7] rfl ?_
            exact w_X5_moveElements_61 a5 x1 x2 μ
          · refine z_iconst (pc := 57) dX5_moveElements_57 zci_1 ?_
            refine z_goto (pc := 58) (tgt := 62) dX5_moveElements_58 (by decide) ?_
            refine z_drop (L' := [(0, .ref (b + 22)), (5, .int a5), (6, .int x1), (7, .int x2)]) [0, 5, 6, 7] rfl ?_
            exact w_X5_moveElements_62 a5 x1 x2 1 μ

set_option maxRecDepth 20000 in
theorem c_X5_moveElements {D : va_G} {cI cL : ClassId} {b : Nat} {Z : State → Heap → Prop}  (a1 : Int32) (a2 : Int32) (a3 : Int32) (a4 : Int32) (a5 : Int32) (μ : z_M) : z_S (zEc D cI cL b Z) 2 yX5_moveElements cX5_moveElements 9 none z_ev [.ref (b + 22), .int a1, .int a2, .int a3, .int a4, .int a5] μ ((f_X5_moveElements a1 a2 a3 a4 a5 μ)) :=
  z_entry (yn := yX5_moveElements) (by decide) (Nat.le_of_ble_eq_true rfl) rfl (w_X5_moveElements_0 a1 a2 a3 a4 a5 μ)
