/-! the law: the words at a house -/
theorem z_minlink : Cond.methodLink RL 62 Lib.Math.min.name ∈ z_tbl := z_tat 701 (by decide +kernel) rfl
theorem z_minstat : Cond.static Lib.Math.min.name ∈ z_tbl := z_tat 702 (by decide +kernel) rfl
theorem z_mincode : Cond.code Lib.Math.min.name Lib.Math.min.code 2 (some .int) ∈ z_tbl := z_tat 703 (by decide +kernel) rfl
theorem z_minini : Cond.initialized "java/lang/Math" ∈ z_tbl := z_tat 30 (by decide +kernel) rfl
theorem zle_ite {C : Prop} {hC : Decidable C} : (@ite Int32 C hC 0 (-1)) ≤ 0 := by
  by_cases h : C
  · rw [if_pos h]; decide
  · rw [if_neg h]; decide
section QW
variable {p : Program} {l : Launch} {e : Env} {s : State} {m : MethodId} {below : List Frame} {meth : Method} {c : Code} {Q : State → Prop} {b L : Nat} {xs : Nat → Int32} {D : va_G} {cI cL : ClassId} {T0 : zS} {hh ww gg bb : Nat}
theorem q_words (C : q_C p s m c b L xs D cI cL) {k i : Nat} {al x7 : Int32} (hi : i < hh) (h1 : 1 ≤ k) (h3 : k ≤ 3) (K : ∀ (H : Heap) (locs : List Loc) (μ : z_M) (ls : Array Slot), q_I s D cI cL μ [] H locs → Cs μ T0 hh ww gg bb → lv_has ls 14 [(0, .ref b), (1, .ref (s.heap.size + 0)), (2, .int (nI hh)), (3, .int (nI k)), (4, .int al), (5, .int (nI i))] → W p l e room_1 s m #[Value.ref b] below meth c H locs 60 3000 Q (F0 m 234 ls [])) : ∀ (d w : Nat) (H : Heap) (locs : List Loc) (μ : z_M) (ls : Array Slot), w + d = 8 → q_I s D cI cL μ [] H locs → Cs μ T0 hh ww gg bb → lv_has ls 14 [(0, .ref b), (1, .ref (s.heap.size + 0)), (2, .int (nI hh)), (3, .int (nI k)), (4, .int al), (5, .int (nI i)), (6, .int (RvV T0 gg ww bb k i)), (7, .int x7), (8, .int (nI w))] → W p l e room_1 s m #[Value.ref b] below meth c H locs 60 3000 Q (F0 m 93 ls []) := by
  have hx := C.1.1
  have hb := C.1.2.1
  intro d
  induction d with
  | zero =>
    intro w H locs μ ls he I CC hl
    refine lv_iload hx hb dL_law_93 (z_look_at hl rfl) ?_
    refine lv_bipush hx hb dL_law_95 zcb_8 ?_
    refine lv_icmp_ge hx hb (tgt := 234) dL_law_97 (by decide) (fun _ => ?_) (fun h => absurd (nI_le' (a := 8) (b := w) (by omega) (by omega)) h)
    exact K H locs μ ls I CC (lv_sub hl [0, 1, 2, 3, 4, 5] rfl)
  | succ d ih =>
    intro w H locs μ ls he I CC hl
    have hw : w < 8 := by omega
    have hw32 : w < 32 := by omega
    have hv : 2 ^ w < 256 := Nat.pow_lt_pow_right (by decide) hw
    refine lv_iload hx hb dL_law_93 (z_look_at hl rfl) ?_
    refine lv_bipush hx hb dL_law_95 zcb_8 ?_
    refine lv_icmp_ge hx hb (tgt := 234) dL_law_97 (by decide) (fun h => absurd h (nI_nle' (a := 8) (b := w) (by omega) (by omega))) (fun _ => ?_)
    refine lv_iconst hx hb dL_law_100 zci_1 ?_
    refine lv_iload hx hb dL_law_101 (z_look_at hl rfl) ?_
    refine lv_ishl hx hb dL_law_103 ?_
    rw [shl_sb w hw]
    refine lv_istore hx hb dL_law_104 hl (by decide) rfl (fun ls hl => ?_)
    have hl : lv_has ls 14 [(0, .ref b), (1, .ref (s.heap.size + 0)), (2, .int (nI hh)), (3, .int (nI k)), (4, .int al), (5, .int (nI i)), (6, .int (RvV T0 gg ww bb k i)), (7, .int x7), (8, .int (nI w)), (9, .int (sb w))] := z_sto1_has hl
    refine lv_aload_n hx hb dL_law_106 rfl (z_look_at hl rfl) ?_
    refine lv_iload hx hb dL_law_107 (z_look_at hl rfl) ?_
    refine lv_iload hx hb dL_law_109 (z_look_at hl rfl) ?_
    obtain ⟨μ1, e1, k1⟩ := cFirst CC hi hv
    refine q_callVi C I (q_zs C I) (As := [.int (nI i), .int (sb w)]) (S := []) (c_X8_first 700000 (nI i) (sb w) μ) e1 zw_X8_first zv_X8_first zm_L_59 (n := 2) (by decide) rfl (z_recv gc_0 (T := TX8) (N := 11) rfl) rfl (Nat.le_of_ble_eq_true rfl) (by decide) (by decide) (q_lv hl) (Nat.le_of_ble_eq_true rfl) (Nat.le_of_ble_eq_true rfl) dL_law_111 (fun H locs I => ?_)
    have CC := CC.kc k1
    refine lv_istore hx hb dL_law_114 hl (by decide) rfl (fun ls hl => ?_)
    have hl : lv_has ls 14 [(0, .ref b), (1, .ref (s.heap.size + 0)), (2, .int (nI hh)), (3, .int (nI k)), (4, .int al), (5, .int (nI i)), (6, .int (RvV T0 gg ww bb k i)), (7, .int x7), (8, .int (nI w)), (9, .int (sb w)), (10, .int (bst (FvV T0 gg ww bb i (sb w))))] := z_sto1_has hl
    refine lv_iload hx hb dL_law_116 (z_look_at hl rfl) ?_
    have at184 : ∀ (H : Heap) (locs : List Loc) (μ : z_M), q_I s D cI cL μ [] H locs → Cs μ T0 hh ww gg bb → W p l e room_1 s m #[Value.ref b] below meth c H locs 60 3000 Q (F0 m 184 ls []) := by
      intro H locs μ I CC
      refine lv_aload_n hx hb dL_law_184 rfl (z_look_at hl rfl) ?_
      refine lv_iload hx hb dL_law_185 (z_look_at hl rfl) ?_
      refine lv_iload hx hb dL_law_187 (z_look_at hl rfl) ?_
      refine lv_iload_n hx hb dL_law_189 rfl (z_look_at hl rfl) ?_
      obtain ⟨u, μ2, e2, m2, k2⟩ := cShuts CC hi hv h1 (show k ≤ 4 by omega)
      have ls0 := law_shuts hw32 (show k ≤ 6 by omega) m2
      have hu : u < 2 ^ 31 := Nat.lt_of_lt_of_le m2.1.1 (Nat.pow_le_pow_right (by decide) (show ww ≤ 31 by have := CC.2.2.2.1.2.1; omega))
      refine q_callVi C I (q_zs C I) (As := [.int (nI i), .int (sb w), .int (nI k)]) (S := []) (c_X8_shuts 700000 (nI i) (sb w) (nI k) μ) e2 zw_X8_shuts zv_X8_shuts zm_L_71 (n := 3) (by decide) rfl (z_recv gc_0 (T := TX8) (N := 11) rfl) rfl (Nat.le_of_ble_eq_true rfl) (by decide) (by decide) (q_lv hl) (Nat.le_of_ble_eq_true rfl) (Nat.le_of_ble_eq_true rfl) dL_law_190 (fun H locs I => ?_)
      have CC := CC.kc k2
      refine lv_istore hx hb dL_law_193 hl (by decide) rfl (fun ls hl => ?_)
      have hl : lv_has ls 14 [(0, .ref b), (1, .ref (s.heap.size + 0)), (2, .int (nI hh)), (3, .int (nI k)), (4, .int al), (5, .int (nI i)), (6, .int (RvV T0 gg ww bb k i)), (7, .int x7), (8, .int (nI w)), (9, .int (sb w)), (10, .int (bst (FvV T0 gg ww bb i (sb w)))), (11, .int (nI u))] := z_sto1_has hl
      refine lv_iload hx hb dL_law_195 (z_look_at hl rfl) ?_
      by_cases z : u = 0
      · refine lv_if_ne hx hb (tgt := 204) dL_law_197 (by decide) (fun h => absurd h (fun q => q (show nI u = 0 by rw [z]; rfl))) (fun _ => ?_)
        refine lv_iconst hx hb dL_law_200 zci_1 ?_
        refine lv_goto hx hb (tgt := 205) dL_law_201 (by decide) ?_
        refine lv_iload hx hb dL_law_205 (z_look_at hl rfl) ?_
        refine lv_iload hx hb dL_law_207 (z_look_at hl rfl) ?_
        refine lv_iand hx hb dL_law_209 ?_
        refine lv_if_ne hx hb (tgt := 217) dL_law_210 (by decide) (fun h => absurd h (fun q => q (ls0.1 z))) (fun _ => ?_)
        refine lv_iconst hx hb dL_law_213 zci_1 ?_
        refine lv_goto hx hb (tgt := 218) dL_law_214 (by decide) ?_
        refine lv_icmp_ne hx hb (tgt := 226) dL_law_218 (by decide) (fun h => absurd h (fun q => q rfl)) (fun _ => ?_)
        refine lv_iload hx hb dL_law_221 (z_look_at hl rfl) ?_
        refine lv_if_ge hx hb (tgt := 228) dL_law_223 (by decide) (fun _ => ?_) (fun h => absurd (nI_pos' hu) h)
        refine z_iinc0 hx hb dL_law_228 hl (x := nI w) rfl (v := nI (w + 1)) (i_inc w) (by decide) (fun ls hl => ?_)
        have hl : lv_has ls 14 [(0, .ref b), (1, .ref (s.heap.size + 0)), (2, .int (nI hh)), (3, .int (nI k)), (4, .int al), (5, .int (nI i)), (6, .int (RvV T0 gg ww bb k i)), (7, .int x7), (8, .int (nI (w + 1))), (9, .int (sb w)), (10, .int (bst (FvV T0 gg ww bb i (sb w)))), (11, .int (nI u))] := z_sto1_has hl
        refine lv_goto hx hb (tgt := 93) dL_law_231 (by decide) ?_
        exact ih (w + 1) H locs μ2 ls (by omega) I CC (lv_sub hl [0, 1, 2, 3, 4, 5, 6, 7, 8] rfl)
      · refine lv_if_ne hx hb (tgt := 204) dL_law_197 (by decide) (fun _ => ?_) (fun h => absurd h (show ¬ nI u = 0 from nI_ne (b := 0) hu (by omega) z))
        refine lv_iconst hx hb dL_law_204 zci_0 ?_
        refine lv_iload hx hb dL_law_205 (z_look_at hl rfl) ?_
        refine lv_iload hx hb dL_law_207 (z_look_at hl rfl) ?_
        refine lv_iand hx hb dL_law_209 ?_
        refine lv_if_ne hx hb (tgt := 217) dL_law_210 (by decide) (fun _ => ?_) (fun h => absurd h (fun q => z (ls0.2 q)))
        refine lv_iconst hx hb dL_law_217 zci_0 ?_
        refine lv_icmp_ne hx hb (tgt := 226) dL_law_218 (by decide) (fun h => absurd h (fun q => q rfl)) (fun _ => ?_)
        refine lv_iload hx hb dL_law_221 (z_look_at hl rfl) ?_
        refine lv_if_ge hx hb (tgt := 228) dL_law_223 (by decide) (fun _ => ?_) (fun h => absurd (nI_pos' hu) h)
        refine z_iinc0 hx hb dL_law_228 hl (x := nI w) rfl (v := nI (w + 1)) (i_inc w) (by decide) (fun ls hl => ?_)
        have hl : lv_has ls 14 [(0, .ref b), (1, .ref (s.heap.size + 0)), (2, .int (nI hh)), (3, .int (nI k)), (4, .int al), (5, .int (nI i)), (6, .int (RvV T0 gg ww bb k i)), (7, .int x7), (8, .int (nI (w + 1))), (9, .int (sb w)), (10, .int (bst (FvV T0 gg ww bb i (sb w)))), (11, .int (nI u))] := z_sto1_has hl
        refine lv_goto hx hb (tgt := 93) dL_law_231 (by decide) ?_
        exact ih (w + 1) H locs μ2 ls (by omega) I CC (lv_sub hl [0, 1, 2, 3, 4, 5, 6, 7, 8] rfl)
    have at150 : ∀ (H : Heap) (locs : List Loc) (μ : z_M), q_I s D cI cL μ [] H locs → Cs μ T0 hh ww gg bb → W p l e room_1 s m #[Value.ref b] below meth c H locs 60 3000 Q (F0 m 150 ls []) := by
      intro H locs μ I CC
      refine lv_aload_n hx hb dL_law_150 rfl (z_look_at hl rfl) ?_
      refine lv_iload hx hb dL_law_151 (z_look_at hl rfl) ?_
      refine lv_iload hx hb dL_law_153 (z_look_at hl rfl) ?_
      refine lv_iload_n hx hb dL_law_155 rfl (z_look_at hl rfl) ?_
      refine lv_iconst hx hb dL_law_156 zci_2 ?_
      obtain ⟨k2, hk1, hk2, ek⟩ : ∃ k2, 1 ≤ k2 ∧ k2 ≤ 2 ∧ (if (2 : Int32) < nI k then 2 else nI k) = nI k2 := by
        by_cases z : 2 < k
        · exact ⟨2, by omega, by omega, by rw [if_pos (show (2 : Int32) < nI k from nI_lt (a := 2) z (by omega))]; rfl⟩
        · exact ⟨k, h1, by omega, by rw [if_neg (show ¬ (2 : Int32) < nI k from nI_nlt (a := 2) (by omega) (by omega))]⟩
      refine va_mmin hx hb (C.1.2.2.1.trans hl.1.symm) C.1.2.2.2.1 (C.1.2.2.2.2 _ z_minlink) (C.1.2.2.2.2 _ z_minstat) (C.1.2.2.2.2 _ z_minini) (C.1.2.2.2.2 _ z_mincode) (Nat.le_of_ble_eq_true rfl) (Nat.le_of_ble_eq_true rfl) (Nat.le_of_ble_eq_true rfl) (Nat.le_of_ble_eq_true rfl) dL_law_157 ?_
      rw [ek]
      obtain ⟨μ2, e2, k3⟩ := cOddsT CC hi hv hk1 (show k2 ≤ 4 by omega)
      refine q_callVl C I (q_zs C I) (As := [.int (nI i), .int (sb w), .int (nI k2)]) (S := []) (c_X8_odds 700000 (nI i) (sb w) (nI k2) μ) e2 zw_X8_odds zv_X8_odds zm_L_67 (n := 3) (by decide) rfl (z_recv gc_0 (T := TX8) (N := 11) rfl) rfl (Nat.le_of_ble_eq_true rfl) (by decide) (by decide) (q_lv hl) (Nat.le_of_ble_eq_true rfl) (Nat.le_of_ble_eq_true rfl) dL_law_160 (fun H locs I => ?_)
      have CC := CC.kc k3
      refine lv_lconst hx hb dL_law_163 zcl_0 ?_
      refine W.lcmp hx hb dL_law_164 ?_
      by_cases z : (0 : Int64) < (OvV T0 gg ww bb i (sb w) k2)
      · refine lv_if_le hx hb (tgt := 184) dL_law_165 (by decide) (fun h => absurd h (show ¬ lg_cmp (OvV T0 gg ww bb i (sb w) k2) 0 ≤ 0 by unfold lg_cmp; rw [if_pos z]; decide)) (fun _ => ?_)
        refine lv_aload_n hx hb dL_law_168 rfl (z_look_at hl rfl) ?_
        refine lv_iload hx hb dL_law_169 (z_look_at hl rfl) ?_
        refine lv_bipush hx hb dL_law_171 zcb_6 ?_
        obtain ⟨μ3, e3, k4⟩ := cReach CC hi (Nat.le_refl 6)
        refine q_callVi C I (q_zs C I) (As := [.int (nI i), .int 6]) (S := []) (c_X8_reach 700000 (nI i) (nI 6) μ2) e3 zw_X8_reach zv_X8_reach zm_L_56 (n := 2) (by decide) rfl (z_recv gc_0 (T := TX8) (N := 11) rfl) rfl (Nat.le_of_ble_eq_true rfl) (by decide) (by decide) (q_lv hl) (Nat.le_of_ble_eq_true rfl) (Nat.le_of_ble_eq_true rfl) dL_law_173 (fun H locs I => ?_)
        have CC := CC.kc k4
        refine lv_iload hx hb dL_law_176 (z_look_at hl rfl) ?_
        refine lv_iand hx hb dL_law_178 ?_
        refine lv_if_ne hx hb (tgt := 184) dL_law_179 (by decide) (fun _ => ?_) (fun h => absurd h (law_odds hw32 (show k2 ≤ 6 by omega) z))
        exact at184 H locs μ3 I CC
      · refine lv_if_le hx hb (tgt := 184) dL_law_165 (by decide) (fun _ => ?_) (fun h => absurd (show lg_cmp (OvV T0 gg ww bb i (sb w) k2) 0 ≤ 0 by unfold lg_cmp; rw [if_neg z]; exact zle_ite) h)
        exact at184 H locs μ2 I CC
    have lf := law_first (S := T0) (g := gg) (W := ww) (b := bb) (i := i) hw32 (show k ≤ 6 by omega)
    by_cases z : (RvV T0 gg ww bb k i) &&& sb w = 0
    · by_cases z2 : (bst (FvV T0 gg ww bb i (sb w))) < 0
      · refine lv_if_lt hx hb (tgt := 131) dL_law_118 (by decide) (fun _ => ?_) (fun h => absurd z2 h)
        refine lv_iconst hx hb dL_law_131 zci_0 ?_
        refine lv_iload hx hb dL_law_132 (z_look_at hl rfl) ?_
        refine lv_iload hx hb dL_law_134 (z_look_at hl rfl) ?_
        refine lv_iand hx hb dL_law_136 ?_
        refine lv_if_eq hx hb (tgt := 144) dL_law_137 (by decide) (fun _ => ?_) (fun h => absurd z h)
        refine lv_iconst hx hb dL_law_144 zci_0 ?_
        refine lv_icmp_eq hx hb (tgt := 150) dL_law_145 (by decide) (fun _ => ?_) (fun h => absurd rfl h)
        exact at150 H locs μ1 I CC
      · refine lv_if_lt hx hb (tgt := 131) dL_law_118 (by decide) (fun h => absurd h z2) (fun _ => ?_)
        refine lv_iload hx hb dL_law_121 (z_look_at hl rfl) ?_
        refine lv_iload_n hx hb dL_law_123 rfl (z_look_at hl rfl) ?_
        by_cases z3 : nI k < (bst (FvV T0 gg ww bb i (sb w)))
        · refine lv_icmp_gt hx hb (tgt := 131) dL_law_124 (by decide) (fun _ => ?_) (fun h => absurd z3 h)
          refine lv_iconst hx hb dL_law_131 zci_0 ?_
          refine lv_iload hx hb dL_law_132 (z_look_at hl rfl) ?_
          refine lv_iload hx hb dL_law_134 (z_look_at hl rfl) ?_
          refine lv_iand hx hb dL_law_136 ?_
          refine lv_if_eq hx hb (tgt := 144) dL_law_137 (by decide) (fun _ => ?_) (fun h => absurd z h)
          refine lv_iconst hx hb dL_law_144 zci_0 ?_
          refine lv_icmp_eq hx hb (tgt := 150) dL_law_145 (by decide) (fun _ => ?_) (fun h => absurd rfl h)
          exact at150 H locs μ1 I CC
        · exact absurd z (lf.1 ⟨z2, z3⟩)
    · have z4 := lf.2 z
      refine lv_if_lt hx hb (tgt := 131) dL_law_118 (by decide) (fun h => absurd h z4.1) (fun _ => ?_)
      refine lv_iload hx hb dL_law_121 (z_look_at hl rfl) ?_
      refine lv_iload_n hx hb dL_law_123 rfl (z_look_at hl rfl) ?_
      refine lv_icmp_gt hx hb (tgt := 131) dL_law_124 (by decide) (fun h => absurd h z4.2) (fun _ => ?_)
      refine lv_iconst hx hb dL_law_127 zci_1 ?_
      refine lv_goto hx hb (tgt := 132) dL_law_128 (by decide) ?_
      refine lv_iload hx hb dL_law_132 (z_look_at hl rfl) ?_
      refine lv_iload hx hb dL_law_134 (z_look_at hl rfl) ?_
      refine lv_iand hx hb dL_law_136 ?_
      refine lv_if_eq hx hb (tgt := 144) dL_law_137 (by decide) (fun h => absurd h z) (fun _ => ?_)
      refine lv_iconst hx hb dL_law_140 zci_1 ?_
      refine lv_goto hx hb (tgt := 145) dL_law_141 (by decide) ?_
      refine lv_icmp_eq hx hb (tgt := 150) dL_law_145 (by decide) (fun _ => ?_) (fun h => absurd rfl h)
      exact at150 H locs μ1 I CC
end QW
