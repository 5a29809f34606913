/-! the law: its static methods, over an array of ints that nobody writes -/
def f_L_pick (a0 : Int32) (a1 : Int32) (μ : z_M) : Option (Int32 × z_M) :=
  z_nz a1 (some ((z_rem (a0 &&& 2147483647) a1), μ))
set_option maxRecDepth 20000 in
theorem w_L_pick_0 {D : va_G} {cI cL : ClassId} {b : Nat} {Z : State → Heap → Prop}  (a0 : Int32) (a1 : Int32) (μ : z_M) : z_w (zEc D cI cL b Z) (RL, cL_pick, 2, (some .int), 0) z_ei 0 [(0, .int a0), (1, .int a1)] [] μ ((f_L_pick a0 a1 μ)) := by
  unfold f_L_pick
  refine z_iload_n (pc := 0) dL_pick_0 rfl ?_
  refine z_ldc (pc := 1) dL_pick_1 zc_L_7 ?_
  refine z_iand (pc := 3) dL_pick_3 ?_
  refine z_iload_n (pc := 4) dL_pick_4 rfl ?_
  refine z_irem (pc := 5) dL_pick_5 ?_
  exact z_iret (pc := 6) rfl dL_pick_6

set_option maxRecDepth 20000 in
theorem c_L_pick {D : va_G} {cI cL : ClassId} {b : Nat} {Z : State → Heap → Prop}  (a0 : Int32) (a1 : Int32) (μ : z_M) : z_S (zEc D cI cL b Z) 0 yL_pick cL_pick 2 (some .int) z_ei [.int a0, .int a1] μ ((f_L_pick a0 a1 μ)) :=
  z_entry (yn := yL_pick) (by decide) (Nat.le_of_ble_eq_true rfl) rfl (w_L_pick_0 a0 a1 μ)

def f_L_cell (nn : Nat) (xs : Nat → Int32) (a1 : Int32) (μ : z_M) : Option (Int32 × z_M) :=
  if a1 < (Int32.ofNat nn) then (z_chk a1 nn (some ((xs (z_ix a1)), μ))) else (some (((7919 * a1) + 12), μ))
set_option maxRecDepth 20000 in
theorem w_L_cell_0 {D : va_G} {cI cL : ClassId} {b : Nat} {Z : State → Heap → Prop} {ar nn : Nat} {xs : Nat → Int32} (hZ : ∀ s H, (zEc D cI cL b Z).2.1 s H → va_T .int ar nn (fun j => .int (xs j)) (zEc D cI cL b Z).2.2 s H) (a1 : Int32) (μ : z_M) : z_w (zEc D cI cL b Z) (RL, cL_cell, 2, (some .int), 0) z_ei 0 [(0, .ref ar), (1, .int a1)] [] μ ((f_L_cell nn xs a1 μ)) := by
  unfold f_L_cell
  refine z_iload_n (pc := 0) dL_cell_0 rfl ?_
  refine z_aload_n (pc := 1) dL_cell_1 rfl ?_
  refine z_tlen (pc := 2) (v := (Int32.ofNat nn)) hZ rfl dL_cell_2 ?_
  refine z_icmp_ge (pc := 3) (tgt := 12) dL_cell_3 (by decide) (fun _ => ?_) (fun _ => ?_)
  · refine z_aload_n (pc := 6) dL_cell_6 rfl ?_
    refine z_iload_n (pc := 7) dL_cell_7 rfl ?_
    refine z_tiald (pc := 8) (g := xs) hZ dL_cell_8 ?_
    refine z_goto (pc := 9) (tgt := 20) dL_cell_9 (by decide) ?_
    exact z_iret (pc := 20) rfl dL_cell_20
  · refine z_sipush (pc := 12) dL_cell_12 zcs_7919 ?_
    refine z_iload_n (pc := 15) dL_cell_15 rfl ?_
    refine z_imul (pc := 16) dL_cell_16 ?_
    refine z_bipush (pc := 17) dL_cell_17 zcb_12 ?_
    refine z_iadd (pc := 19) dL_cell_19 ?_
    exact z_iret (pc := 20) rfl dL_cell_20

set_option maxRecDepth 20000 in
theorem c_L_cell {D : va_G} {cI cL : ClassId} {b : Nat} {Z : State → Heap → Prop} {ar nn : Nat} {xs : Nat → Int32} (hZ : ∀ s H, (zEc D cI cL b Z).2.1 s H → va_T .int ar nn (fun j => .int (xs j)) (zEc D cI cL b Z).2.2 s H) (a1 : Int32) (μ : z_M) : z_S (zEc D cI cL b Z) 0 yL_cell cL_cell 2 (some .int) z_ei [.ref ar, .int a1] μ ((f_L_cell nn xs a1 μ)) :=
  z_entry (yn := yL_cell) (by decide) (Nat.le_of_ble_eq_true rfl) rfl (w_L_cell_0 hZ a1 μ)

def f_L_street_b80 (nn : Nat) (xs : Nat → Int32) (r17 : Int32 → Int32 → z_M → Option (Int32 × z_M)) (n : Nat) (l3 : Int32) (l4 : Int32) (s0 : Int32) (s1 : Int32) (s2 : Int32) (μ : z_M) : Option (Int32 × z_M) :=
  z_let (f_X8_house s2 s1 s0 μ) (fun p7 => r17 l3 (l4 + 1) p7.2)
def f_L_street_b182 (nn : Nat) (xs : Nat → Int32) (r93 : Int32 → Int32 → z_M → Option (Int32 × z_M)) (n : Nat) (l3 : Int32) (l4 : Int32) (μ : z_M) : Option (Int32 × z_M) :=
  r93 l3 (l4 + 1) μ
def f_L_street_b268 (nn : Nat) (xs : Nat → Int32) (r223 : Int32 → Int32 → z_M → Option (Int32 × z_M)) (n : Nat) (l3 : Int32) (l4 : Int32) (μ : z_M) : Option (Int32 × z_M) :=
  r223 l3 (l4 + 1) μ
def f_L_street_h223 (nn : Nat) (xs : Nat → Int32) : Nat → Int32 → Int32 → z_M → Option (Int32 × z_M)
  | 0, _, _, _ => none
  | n + 1, l3, l4, μ =>
    z_bind (f_L_cell nn xs 18 μ) (fun p24 => z_bind (f_L_pick p24.1 4 p24.2) (fun p25 => if l4 < p25.1 then (z_bind (f_X8_status n 1 p25.2) (fun p26 => if (0 : Int32) < p26.1 then (z_bind (f_L_cell nn xs (19 + l4) p26.2) (fun p27 => z_bind (f_X8_status n 1 p27.2) (fun p28 => z_bind (f_L_pick p27.1 p28.1 p28.2) (fun p29 => z_bind (f_X8_go n p29.1 p29.2) (fun p30 => f_L_street_b268 nn xs (f_L_street_h223 nn xs n) n l3 l4 p30.2))))) else (f_L_street_b268 nn xs (f_L_street_h223 nn xs n) n l3 l4 p26.2))) else (some (l3, p25.2))))
def f_L_street_h93 (nn : Nat) (xs : Nat → Int32) : Nat → Int32 → Int32 → z_M → Option (Int32 × z_M)
  | 0, _, _, _ => none
  | n + 1, l3, l4, μ =>
    if l4 < 7 then (z_bind (f_L_cell nn xs (9 + l4) μ) (fun p8 => z_bind (f_L_pick p8.1 l3 p8.2) (fun p9 => z_bind (f_L_pick (p8.1 >>> (3 &&& 31)) l3 p9.2) (fun p10 => z_bind (f_L_pick (p8.1 >>> (6 &&& 31)) 12 p10.2) (fun p11 => z_let (f_X8_way p9.1 p10.1 (1 + p11.1) p11.2) (fun p12 => z_bind (f_L_pick (p8.1 >>> (12 &&& 31)) 8 p12.2) (fun p13 => if p13.1 = 0 then (z_bind (f_X8_status n 1 p13.2) (fun p14 => if (0 : Int32) < p14.1 then (z_bind (f_X8_status n 1 p14.2) (fun p15 => z_bind (f_L_pick (p8.1 >>> (15 &&& 31)) p15.1 p15.2) (fun p16 => z_let (f_X8_shut p16.1 1 p16.2) (fun p17 => f_L_street_b182 nn xs (f_L_street_h93 nn xs n) n l3 l4 p17.2)))) else (f_L_street_b182 nn xs (f_L_street_h93 nn xs n) n l3 l4 p14.2))) else (f_L_street_b182 nn xs (f_L_street_h93 nn xs n) n l3 l4 p13.2)))))))) else (z_bind (f_L_cell nn xs 16 μ) (fun p18 => z_bind (f_L_pick p18.1 3 p18.2) (fun p19 => z_let (f_X8_lag (1 + p19.1) p19.2) (fun p20 => z_bind (f_L_cell nn xs 17 p20.2) (fun p21 => z_bind (f_L_pick p21.1 l3 p21.2) (fun p22 => z_bind (f_X8_put n p22.1 p22.2) (fun p23 => f_L_street_h223 nn xs n l3 0 p23.2)))))))
def f_L_street_h17 (nn : Nat) (xs : Nat → Int32) : Nat → Int32 → Int32 → z_M → Option (Int32 × z_M)
  | 0, _, _, _ => none
  | n + 1, l3, l4, μ =>
    if l4 < l3 then (z_bind (f_L_cell nn xs (1 + l4) μ) (fun p4 => z_bind (f_L_pick p4.1 7 p4.2) (fun p5 => if p5.1 = 6 then (z_bind (f_L_pick (p4.1 >>> (9 &&& 31)) 3 p5.2) (fun p6 => f_L_street_b80 nn xs (f_L_street_h17 nn xs n) n l3 l4 p6.1 ((p4.1 >>> (4 &&& 31)) &&& 15) p5.1 p6.2)) else (f_L_street_b80 nn xs (f_L_street_h17 nn xs n) n l3 l4 ((p4.1 >>> (9 &&& 31)) &&& 255) ((p4.1 >>> (4 &&& 31)) &&& 15) p5.1 p5.2)))) else (f_L_street_h93 nn xs n l3 0 μ)
def f_L_street (nn : Nat) (xs : Nat → Int32) (n : Nat) (a2 : Int32) (μ : z_M) : Option (Int32 × z_M) :=
  z_bind (f_L_cell nn xs 0 μ) (fun p1 => z_bind (f_L_pick p1.1 (a2 - 1) p1.2) (fun p2 => z_let ((2 + p2.1) : Int32) (fun x3 => f_L_street_h17 nn xs n x3 0 p2.2)))
set_option maxRecDepth 20000 in
theorem w_L_street_80 {D : va_G} {cI cL : ClassId} {b : Nat} {Z : State → Heap → Prop} {ar nn : Nat} {xs : Nat → Int32} (hZ : ∀ s H, (zEc D cI cL b Z).2.1 s H → va_T .int ar nn (fun j => .int (xs j)) (zEc D cI cL b Z).2.2 s H) (r17 : Int32 → Int32 → z_M → Option (Int32 × z_M)) (hr17 : ∀ (l3 : Int32) (l4 : Int32) (μ : z_M), z_w (zEc D cI cL b Z) (RL, cL_street, 7, (some .int), 6) z_ei 17 [(0, .ref (b + 0)), (1, .ref ar), (3, .int l3), (4, .int l4)] [] μ ((r17 l3 l4 μ))) (n : Nat) (l3 : Int32) (l4 : Int32) (s0 : Int32) (s1 : Int32) (s2 : Int32) (μ : z_M) : z_w (zEc D cI cL b Z) (RL, cL_street, 7, (some .int), 6) z_ei 80 [(0, .ref (b + 0)), (1, .ref ar), (3, .int l3), (4, .int l4)] [.int s0, .int s1, .int s2, .ref (b + 0)] μ ((f_L_street_b80 nn xs r17 n l3 l4 s0 s1 s2 μ)) := by
  unfold f_L_street_b80
  refine z_letPO (fun p7 hp7 => ?_)
  refine z_callVi (pc := 80) (As := [.int s2, .int s1, .int s0]) (S := []) (c_X8_house s2 s1 s0 μ) (z_pT hp7) zw_X8_house zv_X8_house zm_L_18 (n := 3) (by decide) rfl (z_recv gc_0 (T := TX8) (N := 11) rfl) rfl (Nat.le_of_ble_eq_true rfl) (by decide) (by decide) dL_street_80 ?_
  refine z_pop (pc := 83) dL_street_83 rfl ?_
  refine z_iinc (pc := 84) (v := (l4 + 1)) (L' := [(0, .ref (b + 0)), (1, .ref ar), (3, .int l3), (4, .int (l4 + 1))]) dL_street_84 rfl (by decide) rfl rfl ?_
  refine z_goto (pc := 87) (tgt := 17) dL_street_87 (by decide) ?_
  exact hr17 l3 (l4 + 1) p7.2

set_option maxRecDepth 20000 in
theorem w_L_street_182 {D : va_G} {cI cL : ClassId} {b : Nat} {Z : State → Heap → Prop} {ar nn : Nat} {xs : Nat → Int32} (hZ : ∀ s H, (zEc D cI cL b Z).2.1 s H → va_T .int ar nn (fun j => .int (xs j)) (zEc D cI cL b Z).2.2 s H) (r93 : Int32 → Int32 → z_M → Option (Int32 × z_M)) (hr93 : ∀ (l3 : Int32) (l4 : Int32) (μ : z_M), z_w (zEc D cI cL b Z) (RL, cL_street, 7, (some .int), 6) z_ei 93 [(0, .ref (b + 0)), (1, .ref ar), (3, .int l3), (4, .int l4)] [] μ ((r93 l3 l4 μ))) (n : Nat) (l3 : Int32) (l4 : Int32) (μ : z_M) : z_w (zEc D cI cL b Z) (RL, cL_street, 7, (some .int), 6) z_ei 182 [(0, .ref (b + 0)), (1, .ref ar), (3, .int l3), (4, .int l4)] [] μ ((f_L_street_b182 nn xs r93 n l3 l4 μ)) := by
  unfold f_L_street_b182
  refine z_iinc (pc := 182) (v := (l4 + 1)) (L' := [(0, .ref (b + 0)), (1, .ref ar), (3, .int l3), (4, .int (l4 + 1))]) dL_street_182 rfl (by decide) rfl rfl ?_
  refine z_goto (pc := 185) (tgt := 93) dL_street_185 (by decide) ?_
  exact hr93 l3 (l4 + 1) μ

set_option maxRecDepth 20000 in
theorem w_L_street_268 {D : va_G} {cI cL : ClassId} {b : Nat} {Z : State → Heap → Prop} {ar nn : Nat} {xs : Nat → Int32} (hZ : ∀ s H, (zEc D cI cL b Z).2.1 s H → va_T .int ar nn (fun j => .int (xs j)) (zEc D cI cL b Z).2.2 s H) (r223 : Int32 → Int32 → z_M → Option (Int32 × z_M)) (hr223 : ∀ (l3 : Int32) (l4 : Int32) (μ : z_M), z_w (zEc D cI cL b Z) (RL, cL_street, 7, (some .int), 6) z_ei 223 [(0, .ref (b + 0)), (1, .ref ar), (3, .int l3), (4, .int l4)] [] μ ((r223 l3 l4 μ))) (n : Nat) (l3 : Int32) (l4 : Int32) (μ : z_M) : z_w (zEc D cI cL b Z) (RL, cL_street, 7, (some .int), 6) z_ei 268 [(0, .ref (b + 0)), (1, .ref ar), (3, .int l3), (4, .int l4)] [] μ ((f_L_street_b268 nn xs r223 n l3 l4 μ)) := by
  unfold f_L_street_b268
  refine z_iinc (pc := 268) (v := (l4 + 1)) (L' := [(0, .ref (b + 0)), (1, .ref ar), (3, .int l3), (4, .int (l4 + 1))]) dL_street_268 rfl (by decide) rfl rfl ?_
  refine z_goto (pc := 271) (tgt := 223) dL_street_271 (by decide) ?_
  exact hr223 l3 (l4 + 1) μ

set_option maxRecDepth 20000 in
theorem w_L_street_223 {D : va_G} {cI cL : ClassId} {b : Nat} {Z : State → Heap → Prop} {ar nn : Nat} {xs : Nat → Int32} (hZ : ∀ s H, (zEc D cI cL b Z).2.1 s H → va_T .int ar nn (fun j => .int (xs j)) (zEc D cI cL b Z).2.2 s H) : ∀ (n : Nat) (l3 : Int32) (l4 : Int32) (μ : z_M), z_w (zEc D cI cL b Z) (RL, cL_street, 7, (some .int), 6) z_ei 223 [(0, .ref (b + 0)), (1, .ref ar), (3, .int l3), (4, .int l4)] [] μ (f_L_street_h223 nn xs n l3 l4 μ) := by
  intro n
  induction n with
  | zero =>
    intro l3 l4 μ
    exact z_none
  | succ n ih =>
    intro l3 l4 μ
    unfold f_L_street_h223
    refine z_iload (pc := 223) dL_street_223 rfl ?_
    refine z_aload_n (pc := 225) dL_street_225 rfl ?_
    refine z_bipush (pc := 226) dL_street_226 zcb_18 ?_
    refine z_bindP (fun p24 hp24 => ?_)
    refine z_callSi (pc := 228) (As := [.ref ar, .int 18]) (S := [.int l4]) (c_L_cell hZ 18 μ) hp24 zw_L_cell zs_L_cell zm_L_8 (n := 2) (by decide) rfl rfl (Nat.le_of_ble_eq_true rfl) (by decide) (by decide) dL_street_228 ?_
    refine z_iconst (pc := 231) dL_street_231 zci_4 ?_
    refine z_bindP (fun p25 hp25 => ?_)
    refine z_callSi (pc := 232) (As := [.int p24.1, .int 4]) (S := [.int l4]) (c_L_pick p24.1 4 p24.2) hp25 zw_L_pick zs_L_pick zm_L_14 (n := 2) (by decide) rfl rfl (Nat.le_of_ble_eq_true rfl) (by decide) (by decide) dL_street_232 ?_
    refine z_icmp_ge (pc := 235) (tgt := 274) dL_street_235 (by decide) (fun _ => ?_) (fun _ => ?_)
    · refine z_aload_n (pc := 238) dL_street_238 rfl ?_
      refine z_iconst (pc := 239) dL_street_239 zci_1 ?_
      refine z_bindP (fun p26 hp26 => ?_)
      refine z_callVi (pc := 240) (As := [.int 1]) (S := []) (c_X8_status n 1 p25.2) hp26 zw_X8_status zv_X8_status zm_L_27 (n := 1) (by decide) rfl (z_recv gc_0 (T := TX8) (N := 11) rfl) rfl (Nat.le_of_ble_eq_true rfl) (by decide) (by decide) dL_street_240 ?_
      refine z_if_le (pc := 243) (tgt := 268) dL_street_243 (by decide) (fun _ => ?_) (fun _ => ?_)
      · refine z_aload_n (pc := 246) dL_street_246 rfl ?_
        refine z_aload_n (pc := 247) dL_street_247 rfl ?_
        refine z_bipush (pc := 248) dL_street_248 zcb_19 ?_
        refine z_iload (pc := 250) dL_street_250 rfl ?_
        refine z_iadd (pc := 252) dL_street_252 ?_
        refine z_bindP (fun p27 hp27 => ?_)
        refine z_callSi (pc := 253) (As := [.ref ar, .int (19 + l4)]) (S := [.ref (b + 0)]) (c_L_cell hZ (19 + l4) p26.2) hp27 zw_L_cell zs_L_cell zm_L_8 (n := 2) (by decide) rfl rfl (Nat.le_of_ble_eq_true rfl) (by decide) (by decide) dL_street_253 ?_
        refine z_aload_n (pc := 256) dL_street_256 rfl ?_
        refine z_iconst (pc := 257) dL_street_257 zci_1 ?_
        refine z_bindP (fun p28 hp28 => ?_)
        refine z_callVi (pc := 258) (As := [.int 1]) (S := [.int p27.1, .ref (b + 0)]) (c_X8_status n 1 p27.2) hp28 zw_X8_status zv_X8_status zm_L_27 (n := 1) (by decide) rfl (z_recv gc_0 (T := TX8) (N := 11) rfl) rfl (Nat.le_of_ble_eq_true rfl) (by decide) (by decide) dL_street_258 ?_
        refine z_bindP (fun p29 hp29 => ?_)
        refine z_callSi (pc := 261) (As := [.int p27.1, .int p28.1]) (S := [.ref (b + 0)]) (c_L_pick p27.1 p28.1 p28.2) hp29 zw_L_pick zs_L_pick zm_L_14 (n := 2) (by decide) rfl rfl (Nat.le_of_ble_eq_true rfl) (by decide) (by decide) dL_street_261 ?_
        refine z_bindP (fun p30 hp30 => ?_)
        refine z_callVi (pc := 264) (As := [.int p29.1]) (S := []) (c_X8_go n p29.1 p29.2) hp30 zw_X8_go zv_X8_go zm_L_41 (n := 1) (by decide) rfl (z_recv gc_0 (T := TX8) (N := 11) rfl) rfl (Nat.le_of_ble_eq_true rfl) (by decide) (by decide) dL_street_264 ?_
        refine z_pop (pc := 267) dL_street_267 rfl ?_
        exact w_L_street_268 hZ _ ih n l3 l4 p30.2
      · exact w_L_street_268 hZ _ ih n l3 l4 p26.2
    · refine z_iload_n (pc := 274) dL_street_274 rfl ?_
      exact z_iret (pc := 275) rfl dL_street_275

set_option maxRecDepth 20000 in
theorem w_L_street_93 {D : va_G} {cI cL : ClassId} {b : Nat} {Z : State → Heap → Prop} {ar nn : Nat} {xs : Nat → Int32} (hZ : ∀ s H, (zEc D cI cL b Z).2.1 s H → va_T .int ar nn (fun j => .int (xs j)) (zEc D cI cL b Z).2.2 s H) : ∀ (n : Nat) (l3 : Int32) (l4 : Int32) (μ : z_M), z_w (zEc D cI cL b Z) (RL, cL_street, 7, (some .int), 6) z_ei 93 [(0, .ref (b + 0)), (1, .ref ar), (3, .int l3), (4, .int l4)] [] μ (f_L_street_h93 nn xs n l3 l4 μ) := by
  intro n
  induction n with
  | zero =>
    intro l3 l4 μ
    exact z_none
  | succ n ih =>
    intro l3 l4 μ
    unfold f_L_street_h93
    refine z_iload (pc := 93) dL_street_93 rfl ?_
    refine z_bipush (pc := 95) dL_street_95 zcb_7 ?_
    refine z_icmp_ge (pc := 97) (tgt := 188) dL_street_97 (by decide) (fun _ => ?_) (fun _ => ?_)
    · refine z_aload_n (pc := 100) dL_street_100 rfl ?_
      refine z_bipush (pc := 101) dL_street_101 zcb_9 ?_
      refine z_iload (pc := 103) dL_street_103 rfl ?_
      refine z_iadd (pc := 105) dL_street_105 ?_
      refine z_bindP (fun p8 hp8 => ?_)
      refine z_callSi (pc := 106) (As := [.ref ar, .int (9 + l4)]) (S := []) (c_L_cell hZ (9 + l4) μ) hp8 zw_L_cell zs_L_cell zm_L_8 (n := 2) (by decide) rfl rfl (Nat.le_of_ble_eq_true rfl) (by decide) (by decide) dL_street_106 ?_
      refine z_istore (pc := 109) (L' := [(0, .ref (b + 0)), (1, .ref ar), (3, .int l3), (4, .int l4), (5, .int p8.1)]) dL_street_109 (by decide) rfl ?_
      refine z_aload_n (pc := 111) dL_street_111 rfl ?_
      refine z_iload (pc := 112) dL_street_112 rfl ?_
      refine z_iload_n (pc := 114) dL_street_114 rfl ?_
      refine z_bindP (fun p9 hp9 => ?_)
      refine z_callSi (pc := 115) (As := [.int p8.1, .int l3]) (S := [.ref (b + 0)]) (c_L_pick p8.1 l3 p8.2) hp9 zw_L_pick zs_L_pick zm_L_14 (n := 2) (by decide) rfl rfl (Nat.le_of_ble_eq_true rfl) (by decide) (by decide) dL_street_115 ?_
      refine z_iload (pc := 118) dL_street_118 rfl ?_
      refine z_iconst (pc := 120) dL_street_120 zci_3 ?_
      refine z_ishr (pc := 121) dL_street_121 ?_
      refine z_iload_n (pc := 122) dL_street_122 rfl ?_
      refine z_bindP (fun p10 hp10 => ?_)
      refine z_callSi (pc := 123) (As := [.int (p8.1 >>> (3 &&& 31)), .int l3]) (S := [.int p9.1, .ref (b + 0)]) (c_L_pick (p8.1 >>> (3 &&& 31)) l3 p9.2) hp10 zw_L_pick zs_L_pick zm_L_14 (n := 2) (by decide) rfl rfl (Nat.le_of_ble_eq_true rfl) (by decide) (by decide) dL_street_123 ?_
      refine z_iconst (pc := 126) dL_street_126 zci_1 ?_
      refine z_iload (pc := 127) dL_street_127 rfl ?_
      refine z_bipush (pc := 129) dL_street_129 zcb_6 ?_
      refine z_ishr (pc := 131) dL_street_131 ?_
      refine z_bipush (pc := 132) dL_street_132 zcb_12 ?_
      refine z_bindP (fun p11 hp11 => ?_)
      refine z_callSi (pc := 134) (As := [.int (p8.1 >>> (6 &&& 31)), .int 12]) (S := [.int 1, .int p10.1, .int p9.1, .ref (b + 0)]) (c_L_pick (p8.1 >>> (6 &&& 31)) 12 p10.2) hp11 zw_L_pick zs_L_pick zm_L_14 (n := 2) (by decide) rfl rfl (Nat.le_of_ble_eq_true rfl) (by decide) (by decide) dL_street_134 ?_
      refine z_iadd (pc := 137) dL_street_137 ?_
      refine z_letPO (fun p12 hp12 => ?_)
      refine z_callVi (pc := 138) (As := [.int p9.1, .int p10.1, .int (1 + p11.1)]) (S := []) (c_X8_way p9.1 p10.1 (1 + p11.1) p11.2) (z_pT hp12) zw_X8_way zv_X8_way zm_L_24 (n := 3) (by decide) rfl (z_recv gc_0 (T := TX8) (N := 11) rfl) rfl (Nat.le_of_ble_eq_true rfl) (by decide) (by decide) dL_street_138 ?_
      refine z_pop (pc := 141) dL_street_141 rfl ?_
      refine z_iload (pc := 142) dL_street_142 rfl ?_
      refine z_bipush (pc := 144) dL_street_144 zcb_12 ?_
      refine z_ishr (pc := 146) dL_street_146 ?_
      refine z_bipush (pc := 147) dL_street_147 zcb_8 ?_
      refine z_bindP (fun p13 hp13 => ?_)
      refine z_callSi (pc := 149) (As := [.int (p8.1 >>> (12 &&& 31)), .int 8]) (S := []) (c_L_pick (p8.1 >>> (12 &&& 31)) 8 p12.2) hp13 zw_L_pick zs_L_pick zm_L_14 (n := 2) (by decide) rfl rfl (Nat.le_of_ble_eq_true rfl) (by decide) (by decide) dL_street_149 ?_
      refine z_if_ne (pc := 152) (tgt := 182) dL_street_152 (by decide) (fun _ => ?_) (fun _ => ?_)
      · refine z_aload_n (pc := 155) dL_street_155 rfl ?_
        refine z_iconst (pc := 156) dL_street_156 zci_1 ?_
        refine z_bindP (fun p14 hp14 => ?_)
        refine z_callVi (pc := 157) (As := [.int 1]) (S := []) (c_X8_status n 1 p13.2) hp14 zw_X8_status zv_X8_status zm_L_27 (n := 1) (by decide) rfl (z_recv gc_0 (T := TX8) (N := 11) rfl) rfl (Nat.le_of_ble_eq_true rfl) (by decide) (by decide) dL_street_157 ?_
        refine z_if_le (pc := 160) (tgt := 182) dL_street_160 (by decide) (fun _ => ?_) (fun _ => ?_)
        · refine z_aload_n (pc := 163) dL_street_163 rfl ?_
          refine z_iload (pc := 164) dL_street_164 rfl ?_
          refine z_bipush (pc := 166) dL_street_166 zcb_15 ?_
          refine z_ishr (pc := 168) dL_street_168 ?_
          refine z_aload_n (pc := 169) dL_street_169 rfl ?_
          refine z_iconst (pc := 170) dL_street_170 zci_1 ?_
          refine z_bindP (fun p15 hp15 => ?_)
          refine z_callVi (pc := 171) (As := [.int 1]) (S := [.int (p8.1 >>> (15 &&& 31)), .ref (b + 0)]) (c_X8_status n 1 p14.2) hp15 zw_X8_status zv_X8_status zm_L_27 (n := 1) (by decide) rfl (z_recv gc_0 (T := TX8) (N := 11) rfl) rfl (Nat.le_of_ble_eq_true rfl) (by decide) (by decide) dL_street_171 ?_
          refine z_bindP (fun p16 hp16 => ?_)
          refine z_callSi (pc := 174) (As := [.int (p8.1 >>> (15 &&& 31)), .int p15.1]) (S := [.ref (b + 0)]) (c_L_pick (p8.1 >>> (15 &&& 31)) p15.1 p15.2) hp16 zw_L_pick zs_L_pick zm_L_14 (n := 2) (by decide) rfl rfl (Nat.le_of_ble_eq_true rfl) (by decide) (by decide) dL_street_174 ?_
          refine z_iconst (pc := 177) dL_street_177 zci_1 ?_
          refine z_letPO (fun p17 hp17 => ?_)
          refine z_callVi (pc := 178) (As := [.int p16.1, .int 1]) (S := []) (c_X8_shut p16.1 1 p16.2) (z_pT hp17) zw_X8_shut zv_X8_shut zm_L_31 (n := 2) (by decide) rfl (z_recv gc_0 (T := TX8) (N := 11) rfl) rfl (Nat.le_of_ble_eq_true rfl) (by decide) (by decide) dL_street_178 ?_
          refine z_pop (pc := 181) dL_street_181 rfl ?_
          refine z_drop (L' := [(0, .ref (b + 0)), (1, .ref ar), (3, .int l3), (4, .int l4)]) [0, 1, 2, 3] rfl ?_
          exact w_L_street_182 hZ _ ih n l3 l4 p17.2
        · refine z_drop (L' := [(0, .ref (b + 0)), (1, .ref ar), (3, .int l3), (4, .int l4)]) [0, 1, 2, 3] rfl ?_
          exact w_L_street_182 hZ _ ih n l3 l4 p14.2
      · refine z_drop (L' := [(0, .ref (b + 0)), (1, .ref ar), (3, .int l3), (4, .int l4)]) [0, 1, 2, 3] rfl ?_
        exact w_L_street_182 hZ _ ih n l3 l4 p13.2
    · refine z_aload_n (pc := 188) dL_street_188 rfl ?_
      refine z_iconst (pc := 189) dL_street_189 zci_1 ?_
      refine z_aload_n (pc := 190) dL_street_190 rfl ?_
      refine z_bipush (pc := 191) dL_street_191 zcb_16 ?_
      refine z_bindP (fun p18 hp18 => ?_)
      refine z_callSi (pc := 193) (As := [.ref ar, .int 16]) (S := [.int 1, .ref (b + 0)]) (c_L_cell hZ 16 μ) hp18 zw_L_cell zs_L_cell zm_L_8 (n := 2) (by decide) rfl rfl (Nat.le_of_ble_eq_true rfl) (by decide) (by decide) dL_street_193 ?_
      refine z_iconst (pc := 196) dL_street_196 zci_3 ?_
      refine z_bindP (fun p19 hp19 => ?_)
      refine z_callSi (pc := 197) (As := [.int p18.1, .int 3]) (S := [.int 1, .ref (b + 0)]) (c_L_pick p18.1 3 p18.2) hp19 zw_L_pick zs_L_pick zm_L_14 (n := 2) (by decide) rfl rfl (Nat.le_of_ble_eq_true rfl) (by decide) (by decide) dL_street_197 ?_
      refine z_iadd (pc := 200) dL_street_200 ?_
      refine z_letPO (fun p20 hp20 => ?_)
      refine z_callVi (pc := 201) (As := [.int (1 + p19.1)]) (S := []) (c_X8_lag (1 + p19.1) p19.2) (z_pT hp20) zw_X8_lag zv_X8_lag zm_L_35 (n := 1) (by decide) rfl (z_recv gc_0 (T := TX8) (N := 11) rfl) rfl (Nat.le_of_ble_eq_true rfl) (by decide) (by decide) dL_street_201 ?_
      refine z_pop (pc := 204) dL_street_204 rfl ?_
      refine z_aload_n (pc := 205) dL_street_205 rfl ?_
      refine z_aload_n (pc := 206) dL_street_206 rfl ?_
      refine z_bipush (pc := 207) dL_street_207 zcb_17 ?_
      refine z_bindP (fun p21 hp21 => ?_)
      refine z_callSi (pc := 209) (As := [.ref ar, .int 17]) (S := [.ref (b + 0)]) (c_L_cell hZ 17 p20.2) hp21 zw_L_cell zs_L_cell zm_L_8 (n := 2) (by decide) rfl rfl (Nat.le_of_ble_eq_true rfl) (by decide) (by decide) dL_street_209 ?_
      refine z_iload_n (pc := 212) dL_street_212 rfl ?_
      refine z_bindP (fun p22 hp22 => ?_)
      refine z_callSi (pc := 213) (As := [.int p21.1, .int l3]) (S := [.ref (b + 0)]) (c_L_pick p21.1 l3 p21.2) hp22 zw_L_pick zs_L_pick zm_L_14 (n := 2) (by decide) rfl rfl (Nat.le_of_ble_eq_true rfl) (by decide) (by decide) dL_street_213 ?_
      refine z_bindP (fun p23 hp23 => ?_)
      refine z_callVi (pc := 216) (As := [.int p22.1]) (S := []) (c_X8_put n p22.1 p22.2) hp23 zw_X8_put zv_X8_put zm_L_38 (n := 1) (by decide) rfl (z_recv gc_0 (T := TX8) (N := 11) rfl) rfl (Nat.le_of_ble_eq_true rfl) (by decide) (by decide) dL_street_216 ?_
      refine z_pop (pc := 219) dL_street_219 rfl ?_
      refine z_iconst (pc := 220) dL_street_220 zci_0 ?_
      refine z_istore (pc := 221) (L' := [(0, .ref (b + 0)), (1, .ref ar), (3, .int l3), (4, .int 0)]) dL_street_221 (by decide) rfl ?_
      exact w_L_street_223 hZ n l3 0 p23.2

set_option maxRecDepth 20000 in
theorem w_L_street_17 {D : va_G} {cI cL : ClassId} {b : Nat} {Z : State → Heap → Prop} {ar nn : Nat} {xs : Nat → Int32} (hZ : ∀ s H, (zEc D cI cL b Z).2.1 s H → va_T .int ar nn (fun j => .int (xs j)) (zEc D cI cL b Z).2.2 s H) : ∀ (n : Nat) (l3 : Int32) (l4 : Int32) (μ : z_M), z_w (zEc D cI cL b Z) (RL, cL_street, 7, (some .int), 6) z_ei 17 [(0, .ref (b + 0)), (1, .ref ar), (3, .int l3), (4, .int l4)] [] μ (f_L_street_h17 nn xs n l3 l4 μ) := by
  intro n
  induction n with
  | zero =>
    intro l3 l4 μ
    exact z_none
  | succ n ih =>
    intro l3 l4 μ
    unfold f_L_street_h17
    refine z_iload (pc := 17) dL_street_17 rfl ?_
    refine z_iload_n (pc := 19) dL_street_19 rfl ?_
    refine z_icmp_ge (pc := 20) (tgt := 90) dL_street_20 (by decide) (fun _ => ?_) (fun _ => ?_)
    · refine z_aload_n (pc := 23) dL_street_23 rfl ?_
      refine z_iconst (pc := 24) dL_street_24 zci_1 ?_
      refine z_iload (pc := 25) dL_street_25 rfl ?_
      refine z_iadd (pc := 27) dL_street_27 ?_
      refine z_bindP (fun p4 hp4 => ?_)
      refine z_callSi (pc := 28) (As := [.ref ar, .int (1 + l4)]) (S := []) (c_L_cell hZ (1 + l4) μ) hp4 zw_L_cell zs_L_cell zm_L_8 (n := 2) (by decide) rfl rfl (Nat.le_of_ble_eq_true rfl) (by decide) (by decide) dL_street_28 ?_
      refine z_istore (pc := 31) (L' := [(0, .ref (b + 0)), (1, .ref ar), (3, .int l3), (4, .int l4), (5, .int p4.1)]) dL_street_31 (by decide) rfl ?_
      refine z_iload (pc := 33) dL_street_33 rfl ?_
      refine z_bipush (pc := 35) dL_street_35 zcb_7 ?_
      refine z_bindP (fun p5 hp5 => ?_)
      refine z_callSi (pc := 37) (As := [.int p4.1, .int 7]) (S := []) (c_L_pick p4.1 7 p4.2) hp5 zw_L_pick zs_L_pick zm_L_14 (n := 2) (by decide) rfl rfl (Nat.le_of_ble_eq_true rfl) (by decide) (by decide) dL_street_37 ?_
      refine z_istore (pc := 40) (L' := [(0, .ref (b + 0)), (1, .ref ar), (3, .int l3), (4, .int l4), (5, .int p4.1), (6, .int p5.1)]) dL_street_40 (by decide) rfl ?_
      refine z_aload_n (pc := 42) dL_street_42 rfl ?_
      refine z_iload (pc := 43) dL_street_43 rfl ?_
      refine z_iload (pc := 45) dL_street_45 rfl ?_
      refine z_iconst (pc := 47) dL_street_47 zci_4 ?_
      refine z_ishr (pc := 48) dL_street_48 ?_
      refine z_bipush (pc := 49) dL_street_49 zcb_15 ?_
      refine z_iand (pc := 51) dL_street_51 ?_
      refine z_iload (pc := 52) dL_street_52 rfl ?_
      refine z_bipush (pc := 54) dL_street_54 zcb_6 ?_
      refine z_icmp_ne (pc := 56) (tgt := 71) dL_street_56 (by decide) (fun _ => ?_) (fun _ => ?_)
      · refine z_iload (pc := 59) dL_street_59 rfl ?_
        refine z_bipush (pc := 61) dL_street_61 zcb_9 ?_
        refine z_ishr (pc := 63) dL_street_63 ?_
        refine z_iconst (pc := 64) dL_street_64 zci_3 ?_
        refine z_bindP (fun p6 hp6 => ?_)
        refine z_callSi (pc := 65) (As := [.int (p4.1 >>> (9 &&& 31)), .int 3]) (S := [.int ((p4.1 >>> (4 &&& 31)) &&& 15), .int p5.1, .ref (b + 0)]) (c_L_pick (p4.1 >>> (9 &&& 31)) 3 p5.2) hp6 zw_L_pick zs_L_pick zm_L_14 (n := 2) (by decide) rfl rfl (Nat.le_of_ble_eq_true rfl) (by decide) (by decide) dL_street_65 ?_
        refine z_goto (pc := 68) (tgt := 80) dL_street_68 (by decide) ?_
        refine z_drop (L' := [(0, .ref (b + 0)), (1, .ref ar), (3, .int l3), (4, .int l4)]) [0, 1, 2, 3] rfl ?_
        exact w_L_street_80 hZ _ ih n l3 l4 p6.1 ((p4.1 >>> (4 &&& 31)) &&& 15) p5.1 p6.2
      · refine z_iload (pc := 71) dL_street_71 rfl ?_
        refine z_bipush (pc := 73) dL_street_73 zcb_9 ?_
        refine z_ishr (pc := 75) dL_street_75 ?_
        refine z_sipush (pc := 76) dL_street_76 zcs_255 ?_
        refine z_iand (pc := 79) dL_street_79 ?_
        refine z_drop (L' := [(0, .ref (b + 0)), (1, .ref ar), (3, .int l3), (4, .int l4)]) [0, 1, 2, 3] rfl ?_
        exact w_L_street_80 hZ _ ih n l3 l4 ((p4.1 >>> (9 &&& 31)) &&& 255) ((p4.1 >>> (4 &&& 31)) &&& 15) p5.1 p5.2
    · refine z_iconst (pc := 90) dL_street_90 zci_0 ?_
      refine z_istore (pc := 91) (L' := [(0, .ref (b + 0)), (1, .ref ar), (3, .int l3), (4, .int 0)]) dL_street_91 (by decide) rfl ?_
      exact w_L_street_93 hZ n l3 0 μ

set_option maxRecDepth 20000 in
theorem w_L_street_0 {D : va_G} {cI cL : ClassId} {b : Nat} {Z : State → Heap → Prop} {ar nn : Nat} {xs : Nat → Int32} (hZ : ∀ s H, (zEc D cI cL b Z).2.1 s H → va_T .int ar nn (fun j => .int (xs j)) (zEc D cI cL b Z).2.2 s H) (n : Nat) (a2 : Int32) (μ : z_M) : z_w (zEc D cI cL b Z) (RL, cL_street, 7, (some .int), 6) z_ei 0 [(0, .ref (b + 0)), (1, .ref ar), (2, .int a2)] [] μ ((f_L_street nn xs n a2 μ)) := by
  unfold f_L_street
  refine z_iconst (pc := 0) dL_street_0 zci_2 ?_
  refine z_aload_n (pc := 1) dL_street_1 rfl ?_
  refine z_iconst (pc := 2) dL_street_2 zci_0 ?_
  refine z_bindP (fun p1 hp1 => ?_)
  refine z_callSi (pc := 3) (As := [.ref ar, .int 0]) (S := [.int 2]) (c_L_cell hZ 0 μ) hp1 zw_L_cell zs_L_cell zm_L_8 (n := 2) (by decide) rfl rfl (Nat.le_of_ble_eq_true rfl) (by decide) (by decide) dL_street_3 ?_
  refine z_iload_n (pc := 6) dL_street_6 rfl ?_
  refine z_iconst (pc := 7) dL_street_7 zci_1 ?_
  refine z_isub (pc := 8) dL_street_8 ?_
  refine z_bindP (fun p2 hp2 => ?_)
  refine z_callSi (pc := 9) (As := [.int p1.1, .int (a2 - 1)]) (S := [.int 2]) (c_L_pick p1.1 (a2 - 1) p1.2) hp2 zw_L_pick zs_L_pick zm_L_14 (n := 2) (by decide) rfl rfl (Nat.le_of_ble_eq_true rfl) (by decide) (by decide) dL_street_9 ?_
  refine z_iadd (pc := 12) dL_street_12 ?_
  refine z_letIO (fun x3 => ?_)
  refine z_istore_n (pc := 13) (L' := [(0, .ref (b + 0)), (1, .ref ar), (2, .int a2), (3, .int x3)]) dL_street_13 (by decide) rfl ?_
  refine z_iconst (pc := 14) dL_street_14 zci_0 ?_
  refine z_istore (pc := 15) (L' := [(0, .ref (b + 0)), (1, .ref ar), (2, .int a2), (3, .int x3), (4, .int 0)]) dL_street_15 (by decide) rfl ?_
  refine z_drop (L' := [(0, .ref (b + 0)), (1, .ref ar), (3, .int x3), (4, .int 0)]) [0, 1, 3, 4] rfl ?_
  exact w_L_street_17 hZ n x3 0 p2.2

set_option maxRecDepth 20000 in
theorem c_L_street {D : va_G} {cI cL : ClassId} {b : Nat} {Z : State → Heap → Prop} {ar nn : Nat} {xs : Nat → Int32} (hZ : ∀ s H, (zEc D cI cL b Z).2.1 s H → va_T .int ar nn (fun j => .int (xs j)) (zEc D cI cL b Z).2.2 s H) (n : Nat) (a2 : Int32) (μ : z_M) : z_S (zEc D cI cL b Z) 6 yL_street cL_street 7 (some .int) z_ei [.ref (b + 0), .ref ar, .int a2] μ ((f_L_street nn xs n a2 μ)) :=
  z_entry (yn := yL_street) (by decide) (Nat.le_of_ble_eq_true rfl) rfl (w_L_street_0 hZ n a2 μ)

def f_L_list_h11 (nn : Nat) (xs : Nat → Int32) : Nat → Int32 → Int32 → z_M → Option (Unit × z_M)
  | 0, _, _, _ => none
  | n + 1, l1, l3, μ =>
    if l3 < (Int32.ofNat nn) then (z_chk l3 nn (z_bind (f_X8_set l1 l3 (Int32.toInt64 (xs (z_ix l3))) μ) (fun p2 => f_L_list_h11 nn xs n l1 (l3 + 1) p2.2))) else (some ((), μ))
def f_L_list (nn : Nat) (xs : Nat → Int32) (n : Nat) (a1 : Int32) (μ : z_M) : Option (Unit × z_M) :=
  z_bind (f_X8_row n a1 2 (Int32.ofNat nn) μ) (fun p1 => f_L_list_h11 nn xs n a1 0 p1.2)
set_option maxRecDepth 20000 in
theorem w_L_list_11 {D : va_G} {cI cL : ClassId} {b : Nat} {Z : State → Heap → Prop} {ar nn : Nat} {xs : Nat → Int32} (hZ : ∀ s H, (zEc D cI cL b Z).2.1 s H → va_T .int ar nn (fun j => .int (xs j)) (zEc D cI cL b Z).2.2 s H) : ∀ (n : Nat) (l1 : Int32) (l3 : Int32) (μ : z_M), z_w (zEc D cI cL b Z) (RL, cL_list, 4, none, 5) z_ev 11 [(0, .ref (b + 0)), (1, .int l1), (2, .ref ar), (3, .int l3)] [] μ (f_L_list_h11 nn xs n l1 l3 μ) := by
  intro n
  induction n with
  | zero =>
    intro l1 l3 μ
    exact z_none
  | succ n ih =>
    intro l1 l3 μ
    unfold f_L_list_h11
    refine z_iload_n (pc := 11) dL_list_11 rfl ?_
    refine z_aload_n (pc := 12) dL_list_12 rfl ?_
    refine z_tlen (pc := 13) (v := (Int32.ofNat nn)) hZ rfl dL_list_13 ?_
    refine z_icmp_ge (pc := 14) (tgt := 34) dL_list_14 (by decide) (fun _ => ?_) (fun _ => ?_)
    · refine z_aload_n (pc := 17) dL_list_17 rfl ?_
      refine z_iload_n (pc := 18) dL_list_18 rfl ?_
      refine z_iload_n (pc := 19) dL_list_19 rfl ?_
      refine z_aload_n (pc := 20) dL_list_20 rfl ?_
      refine z_iload_n (pc := 21) dL_list_21 rfl ?_
      refine z_tiald (pc := 22) (g := xs) hZ dL_list_22 ?_
      refine z_i2l (pc := 23) dL_list_23 ?_
      refine z_bindP (fun p2 hp2 => ?_)
      refine z_callVi (pc := 24) (As := [.int l1, .int l3, .long (Int32.toInt64 (xs (z_ix l3)))]) (S := []) (c_X8_set l1 l3 (Int32.toInt64 (xs (z_ix l3))) μ) hp2 zw_X8_set zv_X8_set zm_L_47 (n := 3) (by decide) rfl (z_recv gc_0 (T := TX8) (N := 11) rfl) rfl (Nat.le_of_ble_eq_true rfl) (by decide) (by decide) dL_list_24 ?_
      refine z_pop (pc := 27) dL_list_27 rfl ?_
      refine z_iinc (pc := 28) (v := (l3 + 1)) (L' := [(0, .ref (b + 0)), (1, .int l1), (2, .ref ar), (3, .int (l3 + 1))]) dL_list_28 rfl (by decide) rfl rfl ?_
      refine z_goto (pc := 31) (tgt := 11) dL_list_31 (by decide) ?_
      exact ih l1 (l3 + 1) p2.2
    · exact z_vret (pc := 34) rfl dL_list_34

set_option maxRecDepth 20000 in
theorem w_L_list_0 {D : va_G} {cI cL : ClassId} {b : Nat} {Z : State → Heap → Prop} {ar nn : Nat} {xs : Nat → Int32} (hZ : ∀ s H, (zEc D cI cL b Z).2.1 s H → va_T .int ar nn (fun j => .int (xs j)) (zEc D cI cL b Z).2.2 s H) (n : Nat) (a1 : Int32) (μ : z_M) : z_w (zEc D cI cL b Z) (RL, cL_list, 4, none, 5) z_ev 0 [(0, .ref (b + 0)), (1, .int a1), (2, .ref ar)] [] μ ((f_L_list nn xs n a1 μ)) := by
  unfold f_L_list
  refine z_aload_n (pc := 0) dL_list_0 rfl ?_
  refine z_iload_n (pc := 1) dL_list_1 rfl ?_
  refine z_iconst (pc := 2) dL_list_2 zci_2 ?_
  refine z_aload_n (pc := 3) dL_list_3 rfl ?_
  refine z_tlen (pc := 4) (v := (Int32.ofNat nn)) hZ rfl dL_list_4 ?_
  refine z_bindP (fun p1 hp1 => ?_)
  refine z_callVi (pc := 5) (As := [.int a1, .int 2, .int (Int32.ofNat nn)]) (S := []) (c_X8_row n a1 2 (Int32.ofNat nn) μ) hp1 zw_X8_row zv_X8_row zm_L_44 (n := 3) (by decide) rfl (z_recv gc_0 (T := TX8) (N := 11) rfl) rfl (Nat.le_of_ble_eq_true rfl) (by decide) (by decide) dL_list_5 ?_
  refine z_pop (pc := 8) dL_list_8 rfl ?_
  refine z_iconst (pc := 9) dL_list_9 zci_0 ?_
  refine z_istore_n (pc := 10) (L' := [(0, .ref (b + 0)), (1, .int a1), (2, .ref ar), (3, .int 0)]) dL_list_10 (by decide) rfl ?_
  exact w_L_list_11 hZ n a1 0 p1.2

set_option maxRecDepth 20000 in
theorem c_L_list {D : va_G} {cI cL : ClassId} {b : Nat} {Z : State → Heap → Prop} {ar nn : Nat} {xs : Nat → Int32} (hZ : ∀ s H, (zEc D cI cL b Z).2.1 s H → va_T .int ar nn (fun j => .int (xs j)) (zEc D cI cL b Z).2.2 s H) (n : Nat) (a1 : Int32) (μ : z_M) : z_S (zEc D cI cL b Z) 5 yL_list cL_list 4 none z_ev [.ref (b + 0), .int a1, .ref ar] μ ((f_L_list nn xs n a1 μ)) :=
  z_entry (yn := yL_list) (by decide) (Nat.le_of_ble_eq_true rfl) rfl (w_L_list_0 hZ n a1 μ)
