def f_X9_takesWord_h2 (si : Nat) : Nat → Int32 → z_M → Option (Int32 × z_M)
  | 0, _, _ => none
  | n + 1, l2, μ =>
    if l2 < (Int32.ofNat (z_len.getD si 0)) then (z_chk l2 (z_len.getD si 0) (z_bind (f_X9_takes (z_byte si (z_ix l2)) μ) (fun p1 => if p1.1 = 0 then (some (0, p1.2)) else (f_X9_takesWord_h2 si n (l2 + 1) p1.2)))) else (some (1, μ))
def f_X9_takesWord (si : Nat) (n : Nat)  (μ : z_M) : Option (Int32 × z_M) :=
  f_X9_takesWord_h2 si n 0 μ
set_option maxRecDepth 20000 in
theorem w_X9_takesWord_2 {D : va_G} {cI cL : ClassId} {b : Nat} {Z : State → Heap → Prop} {tA : Nat → Nat} (hZ : ∀ s H, (zEm D cI cL b Z).2.1 s H → z_ZM tA (zEm D cI cL b Z).2.2 s H) {si : Nat} (hsi : si < 5) : ∀ (n : Nat) (l2 : Int32) (μ : z_M), z_w (zEm D cI cL b Z) (RX9, cX9_takesWord, 3, (some .boolean), 3) z_ei 2 [(0, .ref (b + 0)), (1, .ref (tA si)), (2, .int l2)] [] μ (f_X9_takesWord_h2 si n l2 μ) := by
  intro n
  induction n with
  | zero =>
    intro l2 μ
    exact z_none
  | succ n ih =>
    intro l2 μ
    unfold f_X9_takesWord_h2
    refine z_iload_n (pc := 2) dX9_takesWord_2 rfl ?_
    refine z_aload_n (pc := 3) dX9_takesWord_3 rfl ?_
    refine z_tlen (pc := 4) (v := (Int32.ofNat (z_len.getD si 0))) (fun s H h => (hZ s H h).2 si hsi) rfl dX9_takesWord_4 ?_
    refine z_icmp_ge (pc := 5) (tgt := 26) dX9_takesWord_5 (by decide) (fun _ => ?_) (fun _ => ?_)
    · refine z_aload_n (pc := 8) dX9_takesWord_8 rfl ?_
      refine z_aload_n (pc := 9) dX9_takesWord_9 rfl ?_
      refine z_iload_n (pc := 10) dX9_takesWord_10 rfl ?_
      refine z_tiald (pc := 11) (g := fun j => z_byte si j) (fun s H h => (hZ s H h).2 si hsi) dX9_takesWord_11 ?_
      refine z_bindP (fun p1 hp1 => ?_)
      refine z_callVi (pc := 12) (As := [.int (z_byte si (z_ix l2))]) (S := []) (c_X9_takes (z_byte si (z_ix l2)) μ) hp1 zw_X9_takes zv_X9_takes zm_X9_224 (n := 1) (by decide) rfl (z_recv gm_0 (T := TX9) (N := 52) rfl) rfl (Nat.le_of_ble_eq_true rfl) (by decide) (by decide) dX9_takesWord_12 ?_
      refine z_if_ne (pc := 15) (tgt := 20) dX9_takesWord_15 (by decide) (fun _ => ?_) (fun _ => ?_)
      · refine z_iconst (pc := 18) dX9_takesWord_18 zci_0 ?_
        exact z_zret (pc := 19) rfl dX9_takesWord_19 (by decide)
      · refine z_iinc (pc := 20) (v := (l2 + 1)) (L' := [(0, .ref (b + 0)), (1, .ref (tA si)), (2, .int (l2 + 1))]) dX9_takesWord_20 rfl (by decide) rfl rfl ?_
        refine z_goto (pc := 23) (tgt := 2) dX9_takesWord_23 (by decide) ?_
        exact ih (l2 + 1) p1.2
    · refine z_iconst (pc := 26) dX9_takesWord_26 zci_1 ?_
      exact z_zret (pc := 27) rfl dX9_takesWord_27 (by decide)

set_option maxRecDepth 20000 in
theorem w_X9_takesWord_0 {D : va_G} {cI cL : ClassId} {b : Nat} {Z : State → Heap → Prop} {tA : Nat → Nat} (hZ : ∀ s H, (zEm D cI cL b Z).2.1 s H → z_ZM tA (zEm D cI cL b Z).2.2 s H) {si : Nat} (hsi : si < 5) (n : Nat)  (μ : z_M) : z_w (zEm D cI cL b Z) (RX9, cX9_takesWord, 3, (some .boolean), 3) z_ei 0 [(0, .ref (b + 0)), (1, .ref (tA si))] [] μ ((f_X9_takesWord si n μ)) := by
  unfold f_X9_takesWord
  refine z_iconst (pc := 0) dX9_takesWord_0 zci_0 ?_
  refine z_istore_n (pc := 1) (L' := [(0, .ref (b + 0)), (1, .ref (tA si)), (2, .int 0)]) dX9_takesWord_1 (by decide) rfl ?_
  exact w_X9_takesWord_2 hZ hsi n 0 μ

set_option maxRecDepth 20000 in
theorem c_X9_takesWord {D : va_G} {cI cL : ClassId} {b : Nat} {Z : State → Heap → Prop} {tA : Nat → Nat} (hZ : ∀ s H, (zEm D cI cL b Z).2.1 s H → z_ZM tA (zEm D cI cL b Z).2.2 s H) {si : Nat} (hsi : si < 5) (n : Nat)  (μ : z_M) : z_S (zEm D cI cL b Z) 3 yX9_takesWord cX9_takesWord 3 (some .boolean) z_ei [.ref (b + 0), .ref (tA si)] μ ((f_X9_takesWord si n μ)) :=
  z_entry (yn := yX9_takesWord) (by decide) (Nat.le_of_ble_eq_true rfl) rfl (w_X9_takesWord_0 hZ hsi n  μ)

def f_X9_takesHouse (n : Nat)  (μ : z_M) : Option (Int32 × z_M) :=
  z_let ((μ.1 0 38) : Int32) (fun x1 => if (μ.1 0 8) = 8 then (some (0, μ)) else (z_bind (f_X9_takesWord 0 n μ) (fun p2 => if p2.1 = 0 then (some (0, p2.2)) else (z_bind (f_X9_takesNumber n 0 6 p2.2) (fun p3 => if p3.1 = 0 then (some (0, p3.2)) else (z_let ((p3.2.1 0 40) : Int32) (fun x4 => z_bind (f_X9_takesNumber n 0 255 p3.2) (fun p5 => if p5.1 = 0 then (some (0, p5.2)) else (z_let ((p5.2.1 0 40) : Int32) (fun x6 => z_bind (f_X9_takesNumber n 0 255 p5.2) (fun p7 => if p7.1 = 0 then (some (0, p7.2)) else (z_bind (f_X9_makesHouse x4 x6 (p7.2.1 0 40) p7.2) (fun p8 => if x1 < (p8.2.1 0 38) then (some (1, p8.2)) else (some (0, p8.2)))))))))))))))
set_option maxRecDepth 20000 in
theorem w_X9_takesHouse_0 {D : va_G} {cI cL : ClassId} {b : Nat} {Z : State → Heap → Prop} {tA : Nat → Nat} (hZ : ∀ s H, (zEm D cI cL b Z).2.1 s H → z_ZM tA (zEm D cI cL b Z).2.2 s H) (n : Nat)  (μ : z_M) : z_w (zEm D cI cL b Z) (RX9, cX9_takesHouse, 4, (some .boolean), 4) z_ei 0 [(0, .ref (b + 0))] [] μ ((f_X9_takesHouse n μ)) := by
  unfold f_X9_takesHouse
  refine z_aload_n (pc := 0) dX9_takesHouse_0 rfl ?_
  refine zgI_X9_214 (pc := 1) gm_0 rfl dX9_takesHouse_1 ?_
  refine z_letIO (fun x1 => ?_)
  refine z_istore_n (pc := 4) (L' := [(0, .ref (b + 0)), (1, .int x1)]) dX9_takesHouse_4 (by decide) rfl ?_
  refine z_aload_n (pc := 5) dX9_takesHouse_5 rfl ?_
  refine zgI_X9_102 (pc := 6) gm_0 rfl dX9_takesHouse_6 ?_
  refine z_bipush (pc := 9) dX9_takesHouse_9 zcb_8 ?_
  refine z_icmp_ne (pc := 11) (tgt := 16) dX9_takesHouse_11 (by decide) (fun _ => ?_) (fun _ => ?_)
  · refine z_iconst (pc := 14) dX9_takesHouse_14 zci_0 ?_
    exact z_zret (pc := 15) rfl dX9_takesHouse_15 (by decide)
  · refine z_aload_n (pc := 16) dX9_takesHouse_16 rfl ?_
    refine z_gets (pc := 17) (fun s H h => (hZ s H h).1.1) zf_X9_233 rfl dX9_takesHouse_17 ?_
    refine z_bindP (fun p2 hp2 => ?_)
    refine z_callVi (pc := 20) (As := [.ref (tA 0)]) (S := []) (c_X9_takesWord hZ (by decide) n μ) hp2 zw_X9_takesWord zv_X9_takesWord zm_X9_236 (n := 1) (by decide) rfl (z_recv gm_0 (T := TX9) (N := 52) rfl) rfl (Nat.le_of_ble_eq_true rfl) (by decide) (by decide) dX9_takesHouse_20 ?_
    refine z_if_eq (pc := 23) (tgt := 36) dX9_takesHouse_23 (by decide) (fun _ => ?_) (fun _ => ?_)
    · refine z_iconst (pc := 36) dX9_takesHouse_36 zci_0 ?_
      exact z_zret (pc := 37) rfl dX9_takesHouse_37 (by decide)
    · refine z_aload_n (pc := 26) dX9_takesHouse_26 rfl ?_
      refine z_iconst (pc := 27) dX9_takesHouse_27 zci_0 ?_
      refine z_bipush (pc := 28) dX9_takesHouse_28 zcb_6 ?_
      refine z_bindP (fun p3 hp3 => ?_)
      refine z_callVi (pc := 30) (As := [.int 0, .int 6]) (S := []) (c_X9_takesNumber n 0 6 p2.2) hp3 zw_X9_takesNumber zv_X9_takesNumber zm_X9_240 (n := 2) (by decide) rfl (z_recv gm_0 (T := TX9) (N := 52) rfl) rfl (Nat.le_of_ble_eq_true rfl) (by decide) (by decide) dX9_takesHouse_30 ?_
      refine z_if_ne (pc := 33) (tgt := 38) dX9_takesHouse_33 (by decide) (fun _ => ?_) (fun _ => ?_)
      · refine z_iconst (pc := 36) dX9_takesHouse_36 zci_0 ?_
        exact z_zret (pc := 37) rfl dX9_takesHouse_37 (by decide)
      · refine z_aload_n (pc := 38) dX9_takesHouse_38 rfl ?_
        refine zgI_X9_230 (pc := 39) gm_0 rfl dX9_takesHouse_39 ?_
        refine z_letIO (fun x4 => ?_)
        refine z_istore_n (pc := 42) (L' := [(0, .ref (b + 0)), (1, .int x1), (2, .int x4)]) dX9_takesHouse_42 (by decide) rfl ?_
        refine z_aload_n (pc := 43) dX9_takesHouse_43 rfl ?_
        refine z_iconst (pc := 44) dX9_takesHouse_44 zci_0 ?_
        refine z_sipush (pc := 45) dX9_takesHouse_45 zcs_255 ?_
        refine z_bindP (fun p5 hp5 => ?_)
        refine z_callVi (pc := 48) (As := [.int 0, .int 255]) (S := []) (c_X9_takesNumber n 0 255 p3.2) hp5 zw_X9_takesNumber zv_X9_takesNumber zm_X9_240 (n := 2) (by decide) rfl (z_recv gm_0 (T := TX9) (N := 52) rfl) rfl (Nat.le_of_ble_eq_true rfl) (by decide) (by decide) dX9_takesHouse_48 ?_
        refine z_if_ne (pc := 51) (tgt := 56) dX9_takesHouse_51 (by decide) (fun _ => ?_) (fun _ => ?_)
        · refine z_iconst (pc := 54) dX9_takesHouse_54 zci_0 ?_
          exact z_zret (pc := 55) rfl dX9_takesHouse_55 (by decide)
        · refine z_aload_n (pc := 56) dX9_takesHouse_56 rfl ?_
          refine zgI_X9_230 (pc := 57) gm_0 rfl dX9_takesHouse_57 ?_
          refine z_letIO (fun x6 => ?_)
          refine z_istore_n (pc := 60) (L' := [(0, .ref (b + 0)), (1, .int x1), (2, .int x4), (3, .int x6)]) dX9_takesHouse_60 (by decide) rfl ?_
          refine z_aload_n (pc := 61) dX9_takesHouse_61 rfl ?_
          refine z_iconst (pc := 62) dX9_takesHouse_62 zci_0 ?_
          refine z_sipush (pc := 63) dX9_takesHouse_63 zcs_255 ?_
          refine z_bindP (fun p7 hp7 => ?_)
          refine z_callVi (pc := 66) (As := [.int 0, .int 255]) (S := []) (c_X9_takesNumber n 0 255 p5.2) hp7 zw_X9_takesNumber zv_X9_takesNumber zm_X9_240 (n := 2) (by decide) rfl (z_recv gm_0 (T := TX9) (N := 52) rfl) rfl (Nat.le_of_ble_eq_true rfl) (by decide) (by decide) dX9_takesHouse_66 ?_
          refine z_if_ne (pc := 69) (tgt := 74) dX9_takesHouse_69 (by decide) (fun _ => ?_) (fun _ => ?_)
          · refine z_iconst (pc := 72) dX9_takesHouse_72 zci_0 ?_
            exact z_zret (pc := 73) rfl dX9_takesHouse_73 (by decide)
          · refine z_aload_n (pc := 74) dX9_takesHouse_74 rfl ?_
            refine z_iload_n (pc := 75) dX9_takesHouse_75 rfl ?_
            refine z_iload_n (pc := 76) dX9_takesHouse_76 rfl ?_
            refine z_aload_n (pc := 77) dX9_takesHouse_77 rfl ?_
            refine zgI_X9_230 (pc := 78) gm_0 rfl dX9_takesHouse_78 ?_
            refine z_bindP (fun p8 hp8 => ?_)
            refine z_callVv (pc := 81) (As := [.int x4, .int x6, .int (p7.2.1 0 40)]) (S := []) (c_X9_makesHouse x4 x6 (p7.2.1 0 40) p7.2) hp8 zw_X9_makesHouse zv_X9_makesHouse zm_X9_198 (n := 3) (by decide) rfl (z_recv gm_0 (T := TX9) (N := 52) rfl) rfl (Nat.le_of_ble_eq_true rfl) (by decide) (by decide) dX9_takesHouse_81 ?_
            refine z_aload_n (pc := 84) dX9_takesHouse_84 rfl ?_
            refine zgI_X9_214 (pc := 85) gm_0 rfl dX9_takesHouse_85 ?_
            refine z_iload_n (pc := 88) dX9_takesHouse_88 rfl ?_
            refine z_icmp_le (pc := 89) (tgt := 96) dX9_takesHouse_89 (by decide) (fun _ => ?_) (fun _ => ?_)
            · refine z_iconst (pc := 92) dX9_takesHouse_92 zci_1 ?_
              refine z_goto (pc := 93) (tgt := 97) dX9_takesHouse_93 (by decide) ?_
              exact z_zret (pc := 97) rfl dX9_takesHouse_97 (by decide)
            · refine z_iconst (pc := 96) dX9_takesHouse_96 zci_0 ?_
              exact z_zret (pc := 97) rfl dX9_takesHouse_97 (by decide)

set_option maxRecDepth 20000 in
theorem c_X9_takesHouse {D : va_G} {cI cL : ClassId} {b : Nat} {Z : State → Heap → Prop} {tA : Nat → Nat} (hZ : ∀ s H, (zEm D cI cL b Z).2.1 s H → z_ZM tA (zEm D cI cL b Z).2.2 s H) (n : Nat)  (μ : z_M) : z_S (zEm D cI cL b Z) 4 yX9_takesHouse cX9_takesHouse 4 (some .boolean) z_ei [.ref (b + 0)] μ ((f_X9_takesHouse n μ)) :=
  z_entry (yn := yX9_takesHouse) (by decide) (Nat.le_of_ble_eq_true rfl) rfl (w_X9_takesHouse_0 hZ n  μ)

def f_X9_takesWay (n : Nat)  (μ : z_M) : Option (Int32 × z_M) :=
  if (μ.1 0 9) = 12 then (some (0, μ)) else (z_bind (f_X9_takesWord 1 n μ) (fun p1 => if p1.1 = 0 then (some (0, p1.2)) else (z_bind (f_X9_takesNumber n 0 ((p1.2.1 0 8) - 1) p1.2) (fun p2 => if p2.1 = 0 then (some (0, p2.2)) else (z_let ((p2.2.1 0 40) : Int32) (fun x3 => z_bind (f_X9_takesNumber n 0 ((p2.2.1 0 8) - 1) p2.2) (fun p4 => if p4.1 = 0 then (some (0, p4.2)) else (z_let ((p4.2.1 0 40) : Int32) (fun x5 => if x3 = x5 then (z_let (z_sI p4.2 0 38 (p4.2.1 0 39)) (fun m6 => some (0, m6))) else (z_bind (f_X9_takesNumber n 1 60 p4.2) (fun p7 => if p7.1 = 0 then (some (0, p7.2)) else (z_bind (f_X9_makesWay x3 x5 (p7.2.1 0 40) p7.2) (fun p8 => some (1, p8.2))))))))))))))
set_option maxRecDepth 20000 in
theorem w_X9_takesWay_0 {D : va_G} {cI cL : ClassId} {b : Nat} {Z : State → Heap → Prop} {tA : Nat → Nat} (hZ : ∀ s H, (zEm D cI cL b Z).2.1 s H → z_ZM tA (zEm D cI cL b Z).2.2 s H) (n : Nat)  (μ : z_M) : z_w (zEm D cI cL b Z) (RX9, cX9_takesWay, 3, (some .boolean), 4) z_ei 0 [(0, .ref (b + 0))] [] μ ((f_X9_takesWay n μ)) := by
  unfold f_X9_takesWay
  refine z_aload_n (pc := 0) dX9_takesWay_0 rfl ?_
  refine zgI_X9_105 (pc := 1) gm_0 rfl dX9_takesWay_1 ?_
  refine z_bipush (pc := 4) dX9_takesWay_4 zcb_12 ?_
  refine z_icmp_ne (pc := 6) (tgt := 11) dX9_takesWay_6 (by decide) (fun _ => ?_) (fun _ => ?_)
  · refine z_iconst (pc := 9) dX9_takesWay_9 zci_0 ?_
    exact z_zret (pc := 10) rfl dX9_takesWay_10 (by decide)
  · refine z_aload_n (pc := 11) dX9_takesWay_11 rfl ?_
    refine z_gets (pc := 12) (fun s H h => (hZ s H h).1.2.1) zf_X9_243 rfl dX9_takesWay_12 ?_
    refine z_bindP (fun p1 hp1 => ?_)
    refine z_callVi (pc := 15) (As := [.ref (tA 1)]) (S := []) (c_X9_takesWord hZ (by decide) n μ) hp1 zw_X9_takesWord zv_X9_takesWord zm_X9_236 (n := 1) (by decide) rfl (z_recv gm_0 (T := TX9) (N := 52) rfl) rfl (Nat.le_of_ble_eq_true rfl) (by decide) (by decide) dX9_takesWay_15 ?_
    refine z_if_eq (pc := 18) (tgt := 35) dX9_takesWay_18 (by decide) (fun _ => ?_) (fun _ => ?_)
    · refine z_iconst (pc := 35) dX9_takesWay_35 zci_0 ?_
      exact z_zret (pc := 36) rfl dX9_takesWay_36 (by decide)
    · refine z_aload_n (pc := 21) dX9_takesWay_21 rfl ?_
      refine z_iconst (pc := 22) dX9_takesWay_22 zci_0 ?_
      refine z_aload_n (pc := 23) dX9_takesWay_23 rfl ?_
      refine zgI_X9_102 (pc := 24) gm_0 rfl dX9_takesWay_24 ?_
      refine z_iconst (pc := 27) dX9_takesWay_27 zci_1 ?_
      refine z_isub (pc := 28) dX9_takesWay_28 ?_
      refine z_bindP (fun p2 hp2 => ?_)
      refine z_callVi (pc := 29) (As := [.int 0, .int ((p1.2.1 0 8) - 1)]) (S := []) (c_X9_takesNumber n 0 ((p1.2.1 0 8) - 1) p1.2) hp2 zw_X9_takesNumber zv_X9_takesNumber zm_X9_240 (n := 2) (by decide) rfl (z_recv gm_0 (T := TX9) (N := 52) rfl) rfl (Nat.le_of_ble_eq_true rfl) (by decide) (by decide) dX9_takesWay_29 ?_
      refine z_if_ne (pc := 32) (tgt := 37) dX9_takesWay_32 (by decide) (fun _ => ?_) (fun _ => ?_)
      · refine z_iconst (pc := 35) dX9_takesWay_35 zci_0 ?_
        exact z_zret (pc := 36) rfl dX9_takesWay_36 (by decide)
      · refine z_aload_n (pc := 37) dX9_takesWay_37 rfl ?_
        refine zgI_X9_230 (pc := 38) gm_0 rfl dX9_takesWay_38 ?_
        refine z_letIO (fun x3 => ?_)
        refine z_istore_n (pc := 41) (L' := [(0, .ref (b + 0)), (1, .int x3)]) dX9_takesWay_41 (by decide) rfl ?_
        refine z_aload_n (pc := 42) dX9_takesWay_42 rfl ?_
        refine z_iconst (pc := 43) dX9_takesWay_43 zci_0 ?_
        refine z_aload_n (pc := 44) dX9_takesWay_44 rfl ?_
        refine zgI_X9_102 (pc := 45) gm_0 rfl dX9_takesWay_45 ?_
        refine z_iconst (pc := 48) dX9_takesWay_48 zci_1 ?_
        refine z_isub (pc := 49) dX9_takesWay_49 ?_
        refine z_bindP (fun p4 hp4 => ?_)
        refine z_callVi (pc := 50) (As := [.int 0, .int ((p2.2.1 0 8) - 1)]) (S := []) (c_X9_takesNumber n 0 ((p2.2.1 0 8) - 1) p2.2) hp4 zw_X9_takesNumber zv_X9_takesNumber zm_X9_240 (n := 2) (by decide) rfl (z_recv gm_0 (T := TX9) (N := 52) rfl) rfl (Nat.le_of_ble_eq_true rfl) (by decide) (by decide) dX9_takesWay_50 ?_
        refine z_if_ne (pc := 53) (tgt := 58) dX9_takesWay_53 (by decide) (fun _ => ?_) (fun _ => ?_)
        · refine z_iconst (pc := 56) dX9_takesWay_56 zci_0 ?_
          exact z_zret (pc := 57) rfl dX9_takesWay_57 (by decide)
        · refine z_aload_n (pc := 58) dX9_takesWay_58 rfl ?_
          refine zgI_X9_230 (pc := 59) gm_0 rfl dX9_takesWay_59 ?_
          refine z_letIO (fun x5 => ?_)
          refine z_istore_n (pc := 62) (L' := [(0, .ref (b + 0)), (1, .int x3), (2, .int x5)]) dX9_takesWay_62 (by decide) rfl ?_
          refine z_iload_n (pc := 63) dX9_takesWay_63 rfl ?_
          refine z_iload_n (pc := 64) dX9_takesWay_64 rfl ?_
          refine z_icmp_ne (pc := 65) (tgt := 78) dX9_takesWay_65 (by decide) (fun _ => ?_) (fun _ => ?_)
          · refine z_aload_n (pc := 68) dX9_takesWay_68 rfl ?_
            refine z_aload_n (pc := 69) dX9_takesWay_69 rfl ?_
            refine zgI_X9_227 (pc := 70) gm_0 rfl dX9_takesWay_70 ?_
            refine zpI_X9_214 (pc := 73) gm_0 rfl dX9_takesWay_73 ?_
            refine z_letMO (fun m6 => ?_)
            refine z_iconst (pc := 76) dX9_takesWay_76 zci_0 ?_
            exact z_zret (pc := 77) rfl dX9_takesWay_77 (by decide)
          · refine z_aload_n (pc := 78) dX9_takesWay_78 rfl ?_
            refine z_iconst (pc := 79) dX9_takesWay_79 zci_1 ?_
            refine z_bipush (pc := 80) dX9_takesWay_80 zcb_60 ?_
            refine z_bindP (fun p7 hp7 => ?_)
            refine z_callVi (pc := 82) (As := [.int 1, .int 60]) (S := []) (c_X9_takesNumber n 1 60 p4.2) hp7 zw_X9_takesNumber zv_X9_takesNumber zm_X9_240 (n := 2) (by decide) rfl (z_recv gm_0 (T := TX9) (N := 52) rfl) rfl (Nat.le_of_ble_eq_true rfl) (by decide) (by decide) dX9_takesWay_82 ?_
            refine z_if_ne (pc := 85) (tgt := 90) dX9_takesWay_85 (by decide) (fun _ => ?_) (fun _ => ?_)
            · refine z_iconst (pc := 88) dX9_takesWay_88 zci_0 ?_
              exact z_zret (pc := 89) rfl dX9_takesWay_89 (by decide)
            · refine z_aload_n (pc := 90) dX9_takesWay_90 rfl ?_
              refine z_iload_n (pc := 91) dX9_takesWay_91 rfl ?_
              refine z_iload_n (pc := 92) dX9_takesWay_92 rfl ?_
              refine z_aload_n (pc := 93) dX9_takesWay_93 rfl ?_
              refine zgI_X9_230 (pc := 94) gm_0 rfl dX9_takesWay_94 ?_
              refine z_bindP (fun p8 hp8 => ?_)
              refine z_callVv (pc := 97) (As := [.int x3, .int x5, .int (p7.2.1 0 40)]) (S := []) (c_X9_makesWay x3 x5 (p7.2.1 0 40) p7.2) hp8 zw_X9_makesWay zv_X9_makesWay zm_X9_205 (n := 3) (by decide) rfl (z_recv gm_0 (T := TX9) (N := 52) rfl) rfl (Nat.le_of_ble_eq_true rfl) (by decide) (by decide) dX9_takesWay_97 ?_
              refine z_iconst (pc := 100) dX9_takesWay_100 zci_1 ?_
              exact z_zret (pc := 101) rfl dX9_takesWay_101 (by decide)

set_option maxRecDepth 20000 in
theorem c_X9_takesWay {D : va_G} {cI cL : ClassId} {b : Nat} {Z : State → Heap → Prop} {tA : Nat → Nat} (hZ : ∀ s H, (zEm D cI cL b Z).2.1 s H → z_ZM tA (zEm D cI cL b Z).2.2 s H) (n : Nat)  (μ : z_M) : z_S (zEm D cI cL b Z) 4 yX9_takesWay cX9_takesWay 3 (some .boolean) z_ei [.ref (b + 0)] μ ((f_X9_takesWay n μ)) :=
  z_entry (yn := yX9_takesWay) (by decide) (Nat.le_of_ble_eq_true rfl) rfl (w_X9_takesWay_0 hZ n  μ)

def f_X9_takesItem (n : Nat)  (μ : z_M) : Option (Int32 × z_M) :=
  z_bind (f_X9_letter μ) (fun p1 => if p1.1 = 98 then (z_bind (f_X9_takesWord 4 n p1.2) (fun p2 => if p2.1 = 0 then (some (0, p2.2)) else (z_bind (f_X9_takesNumber n 0 ((p2.2.1 0 8) - 1) p2.2) (fun p3 => if p3.1 = 0 then (some (0, p3.2)) else (z_chk 0 9 (z_let (z_sI p3.2 9 (z_ix 0) (p3.2.1 0 40)) (fun m4 => z_chk 0 9 (z_let (z_sI m4 14 (z_ix 0) 0) (fun m5 => some (1, m5)))))))))) else (if p1.1 = 104 then (z_bind (f_X9_takesHouse n p1.2) (fun p6 => z_bool p6.1 (some (p6.1, p6.2)))) else (if p1.1 = 108 then (z_bind (f_X9_takesWord 3 n p1.2) (fun p7 => if p7.1 = 0 then (some (0, p7.2)) else (z_bind (f_X9_takesNumber n 1 3 p7.2) (fun p8 => if p8.1 = 0 then (some (0, p8.2)) else (z_let (z_sI p8.2 0 10 (p8.2.1 0 40)) (fun m9 => z_let (z_sI m9 0 23 (m9.1 0 40)) (fun m10 => z_chk 0 9 (z_let (z_sI m10 14 (z_ix 0) 0) (fun m11 => some (1, m11)))))))))) else (if p1.1 = 115 then (z_bind (f_X9_takesWord 2 n p1.2) (fun p12 => if p12.1 = 0 then (some (0, p12.2)) else (z_bind (f_X9_takesNumber n 0 ((p12.2.1 0 9) - 1) p12.2) (fun p13 => if p13.1 = 0 then (some (0, p13.2)) else (z_chk (p13.2.1 0 40) 12 (z_let (z_sI p13.2 8 (z_ix (p13.2.1 0 40)) 1) (fun m14 => some (1, m14)))))))) else (if p1.1 = 119 then (z_bind (f_X9_takesWay n p1.2) (fun p15 => z_bool p15.1 (some (p15.1, p15.2)))) else (some (0, p1.2)))))))
set_option maxRecDepth 20000 in
theorem w_X9_takesItem_0 {D : va_G} {cI cL : ClassId} {b : Nat} {Z : State → Heap → Prop} {tA : Nat → Nat} (hZ : ∀ s H, (zEm D cI cL b Z).2.1 s H → z_ZM tA (zEm D cI cL b Z).2.2 s H) (n : Nat)  (μ : z_M) : z_w (zEm D cI cL b Z) (RX9, cX9_takesItem, 1, (some .boolean), 5) z_ei 0 [(0, .ref (b + 0))] [] μ ((f_X9_takesItem n μ)) := by
  unfold f_X9_takesItem
  refine z_aload_n (pc := 0) dX9_takesItem_0 rfl ?_
  refine z_bindP (fun p1 hp1 => ?_)
  refine z_callVi (pc := 1) (As := []) (S := []) (c_X9_letter μ) hp1 zw_X9_letter zv_X9_letter zm_X9_220 (n := 0) (by decide) rfl (z_recv gm_0 (T := TX9) (N := 52) rfl) rfl (Nat.le_of_ble_eq_true rfl) (by decide) (by decide) dX9_takesItem_1 ?_
  refine z_split (fun hx => ?_) (fun hs4_0 => ?_)
  · refine z_lookup (pc := 4) (off := 146) (tgt := 150) dX9_takesItem_4 (by decide) (by rw [hx]; decide) (by decide) ?_
    refine z_aload_n (pc := 150) dX9_takesItem_150 rfl ?_
    refine z_gets (pc := 151) (fun s H h => (hZ s H h).1.2.2.2.2) zf_X9_259 rfl dX9_takesItem_151 ?_
    refine z_bindP (fun p2 hp2 => ?_)
    refine z_callVi (pc := 154) (As := [.ref (tA 4)]) (S := []) (c_X9_takesWord hZ (by decide) n p1.2) hp2 zw_X9_takesWord zv_X9_takesWord zm_X9_236 (n := 1) (by decide) rfl (z_recv gm_0 (T := TX9) (N := 52) rfl) rfl (Nat.le_of_ble_eq_true rfl) (by decide) (by decide) dX9_takesItem_154 ?_
    refine z_if_eq (pc := 157) (tgt := 174) dX9_takesItem_157 (by decide) (fun _ => ?_) (fun _ => ?_)
    · refine z_iconst (pc := 174) dX9_takesItem_174 zci_0 ?_
      exact z_zret (pc := 175) rfl dX9_takesItem_175 (by decide)
    · refine z_aload_n (pc := 160) dX9_takesItem_160 rfl ?_
      refine z_iconst (pc := 161) dX9_takesItem_161 zci_0 ?_
      refine z_aload_n (pc := 162) dX9_takesItem_162 rfl ?_
      refine zgI_X9_102 (pc := 163) gm_0 rfl dX9_takesItem_163 ?_
      refine z_iconst (pc := 166) dX9_takesItem_166 zci_1 ?_
      refine z_isub (pc := 167) dX9_takesItem_167 ?_
      refine z_bindP (fun p3 hp3 => ?_)
      refine z_callVi (pc := 168) (As := [.int 0, .int ((p2.2.1 0 8) - 1)]) (S := []) (c_X9_takesNumber n 0 ((p2.2.1 0 8) - 1) p2.2) hp3 zw_X9_takesNumber zv_X9_takesNumber zm_X9_240 (n := 2) (by decide) rfl (z_recv gm_0 (T := TX9) (N := 52) rfl) rfl (Nat.le_of_ble_eq_true rfl) (by decide) (by decide) dX9_takesItem_168 ?_
      refine z_if_ne (pc := 171) (tgt := 176) dX9_takesItem_171 (by decide) (fun _ => ?_) (fun _ => ?_)
      · refine z_iconst (pc := 174) dX9_takesItem_174 zci_0 ?_
        exact z_zret (pc := 175) rfl dX9_takesItem_175 (by decide)
      · refine z_aload_n (pc := 176) dX9_takesItem_176 rfl ?_
        refine zgR_X9_41 (pc := 177) gm_0 rfl dX9_takesItem_177 ?_
        refine z_iconst (pc := 180) dX9_takesItem_180 zci_0 ?_
        refine z_aload_n (pc := 181) dX9_takesItem_181 rfl ?_
        refine zgI_X9_230 (pc := 182) gm_0 rfl dX9_takesItem_182 ?_
        refine z_iast (pc := 185) gm_9 dX9_takesItem_185 ?_
        refine z_letMO (fun m4 => ?_)
        refine z_aload_n (pc := 186) dX9_takesItem_186 rfl ?_
        refine zgR_X9_56 (pc := 187) gm_0 rfl dX9_takesItem_187 ?_
        refine z_iconst (pc := 190) dX9_takesItem_190 zci_0 ?_
        refine z_iconst (pc := 191) dX9_takesItem_191 zci_0 ?_
        refine z_iast (pc := 192) gm_14 dX9_takesItem_192 ?_
        refine z_letMO (fun m5 => ?_)
        refine z_iconst (pc := 193) dX9_takesItem_193 zci_1 ?_
        exact z_zret (pc := 194) rfl dX9_takesItem_194 (by decide)
  · refine z_split (fun hx => ?_) (fun hs4_1 => ?_)
    · refine z_lookup (pc := 4) (off := 52) (tgt := 56) dX9_takesItem_4 (by decide) (by rw [hx]; decide) (by decide) ?_
      refine z_aload_n (pc := 56) dX9_takesItem_56 rfl ?_
      refine z_bindP (fun p6 hp6 => ?_)
      refine z_callVi (pc := 57) (As := []) (S := []) (c_X9_takesHouse hZ n p1.2) hp6 zw_X9_takesHouse zv_X9_takesHouse zm_X9_246 (n := 0) (by decide) rfl (z_recv gm_0 (T := TX9) (N := 52) rfl) rfl (Nat.le_of_ble_eq_true rfl) (by decide) (by decide) dX9_takesItem_57 ?_
      exact z_zretG (pc := 60) rfl dX9_takesItem_60
    · refine z_split (fun hx => ?_) (fun hs4_2 => ?_)
      · refine z_lookup (pc := 4) (off := 100) (tgt := 104) dX9_takesItem_4 (by decide) (by rw [hx]; decide) (by decide) ?_
        refine z_aload_n (pc := 104) dX9_takesItem_104 rfl ?_
        refine z_gets (pc := 105) (fun s H h => (hZ s H h).1.2.2.2.1) zf_X9_256 rfl dX9_takesItem_105 ?_
        refine z_bindP (fun p7 hp7 => ?_)
        refine z_callVi (pc := 108) (As := [.ref (tA 3)]) (S := []) (c_X9_takesWord hZ (by decide) n p1.2) hp7 zw_X9_takesWord zv_X9_takesWord zm_X9_236 (n := 1) (by decide) rfl (z_recv gm_0 (T := TX9) (N := 52) rfl) rfl (Nat.le_of_ble_eq_true rfl) (by decide) (by decide) dX9_takesItem_108 ?_
        refine z_if_eq (pc := 111) (tgt := 123) dX9_takesItem_111 (by decide) (fun _ => ?_) (fun _ => ?_)
        · refine z_iconst (pc := 123) dX9_takesItem_123 zci_0 ?_
          exact z_zret (pc := 124) rfl dX9_takesItem_124 (by decide)
        · refine z_aload_n (pc := 114) dX9_takesItem_114 rfl ?_
          refine z_iconst (pc := 115) dX9_takesItem_115 zci_1 ?_
          refine z_iconst (pc := 116) dX9_takesItem_116 zci_3 ?_
          refine z_bindP (fun p8 hp8 => ?_)
          refine z_callVi (pc := 117) (As := [.int 1, .int 3]) (S := []) (c_X9_takesNumber n 1 3 p7.2) hp8 zw_X9_takesNumber zv_X9_takesNumber zm_X9_240 (n := 2) (by decide) rfl (z_recv gm_0 (T := TX9) (N := 52) rfl) rfl (Nat.le_of_ble_eq_true rfl) (by decide) (by decide) dX9_takesItem_117 ?_
          refine z_if_ne (pc := 120) (tgt := 125) dX9_takesItem_120 (by decide) (fun _ => ?_) (fun _ => ?_)
          · refine z_iconst (pc := 123) dX9_takesItem_123 zci_0 ?_
            exact z_zret (pc := 124) rfl dX9_takesItem_124 (by decide)
          · refine z_aload_n (pc := 125) dX9_takesItem_125 rfl ?_
            refine z_aload_n (pc := 126) dX9_takesItem_126 rfl ?_
            refine zgI_X9_230 (pc := 127) gm_0 rfl dX9_takesItem_127 ?_
            refine zpI_X9_34 (pc := 130) gm_0 rfl dX9_takesItem_130 ?_
            refine z_letMO (fun m9 => ?_)
            refine z_aload_n (pc := 133) dX9_takesItem_133 rfl ?_
            refine z_aload_n (pc := 134) dX9_takesItem_134 rfl ?_
            refine zgI_X9_230 (pc := 135) gm_0 rfl dX9_takesItem_135 ?_
            refine zpI_X9_69 (pc := 138) gm_0 rfl dX9_takesItem_138 ?_
            refine z_letMO (fun m10 => ?_)
            refine z_aload_n (pc := 141) dX9_takesItem_141 rfl ?_
            refine zgR_X9_56 (pc := 142) gm_0 rfl dX9_takesItem_142 ?_
            refine z_iconst (pc := 145) dX9_takesItem_145 zci_0 ?_
            refine z_iconst (pc := 146) dX9_takesItem_146 zci_0 ?_
            refine z_iast (pc := 147) gm_14 dX9_takesItem_147 ?_
            refine z_letMO (fun m11 => ?_)
            refine z_iconst (pc := 148) dX9_takesItem_148 zci_1 ?_
            exact z_zret (pc := 149) rfl dX9_takesItem_149 (by decide)
      · refine z_split (fun hx => ?_) (fun hs4_3 => ?_)
        · refine z_lookup (pc := 4) (off := 62) (tgt := 66) dX9_takesItem_4 (by decide) (by rw [hx]; decide) (by decide) ?_
          refine z_aload_n (pc := 66) dX9_takesItem_66 rfl ?_
          refine z_gets (pc := 67) (fun s H h => (hZ s H h).1.2.2.1) zf_X9_253 rfl dX9_takesItem_67 ?_
          refine z_bindP (fun p12 hp12 => ?_)
          refine z_callVi (pc := 70) (As := [.ref (tA 2)]) (S := []) (c_X9_takesWord hZ (by decide) n p1.2) hp12 zw_X9_takesWord zv_X9_takesWord zm_X9_236 (n := 1) (by decide) rfl (z_recv gm_0 (T := TX9) (N := 52) rfl) rfl (Nat.le_of_ble_eq_true rfl) (by decide) (by decide) dX9_takesItem_70 ?_
          refine z_if_eq (pc := 73) (tgt := 90) dX9_takesItem_73 (by decide) (fun _ => ?_) (fun _ => ?_)
          · refine z_iconst (pc := 90) dX9_takesItem_90 zci_0 ?_
            exact z_zret (pc := 91) rfl dX9_takesItem_91 (by decide)
          · refine z_aload_n (pc := 76) dX9_takesItem_76 rfl ?_
            refine z_iconst (pc := 77) dX9_takesItem_77 zci_0 ?_
            refine z_aload_n (pc := 78) dX9_takesItem_78 rfl ?_
            refine zgI_X9_105 (pc := 79) gm_0 rfl dX9_takesItem_79 ?_
            refine z_iconst (pc := 82) dX9_takesItem_82 zci_1 ?_
            refine z_isub (pc := 83) dX9_takesItem_83 ?_
            refine z_bindP (fun p13 hp13 => ?_)
            refine z_callVi (pc := 84) (As := [.int 0, .int ((p12.2.1 0 9) - 1)]) (S := []) (c_X9_takesNumber n 0 ((p12.2.1 0 9) - 1) p12.2) hp13 zw_X9_takesNumber zv_X9_takesNumber zm_X9_240 (n := 2) (by decide) rfl (z_recv gm_0 (T := TX9) (N := 52) rfl) rfl (Nat.le_of_ble_eq_true rfl) (by decide) (by decide) dX9_takesItem_84 ?_
            refine z_if_ne (pc := 87) (tgt := 92) dX9_takesItem_87 (by decide) (fun _ => ?_) (fun _ => ?_)
            · refine z_iconst (pc := 90) dX9_takesItem_90 zci_0 ?_
              exact z_zret (pc := 91) rfl dX9_takesItem_91 (by decide)
            · refine z_aload_n (pc := 92) dX9_takesItem_92 rfl ?_
              refine zgR_X9_31 (pc := 93) gm_0 rfl dX9_takesItem_93 ?_
              refine z_aload_n (pc := 96) dX9_takesItem_96 rfl ?_
              refine zgI_X9_230 (pc := 97) gm_0 rfl dX9_takesItem_97 ?_
              refine z_iconst (pc := 100) dX9_takesItem_100 zci_1 ?_
              refine z_iast (pc := 101) gm_8 dX9_takesItem_101 ?_
              refine z_letMO (fun m14 => ?_)
              refine z_iconst (pc := 102) dX9_takesItem_102 zci_1 ?_
              exact z_zret (pc := 103) rfl dX9_takesItem_103 (by decide)
        · refine z_split (fun hx => ?_) (fun hs4_4 => ?_)
          · refine z_lookup (pc := 4) (off := 57) (tgt := 61) dX9_takesItem_4 (by decide) (by rw [hx]; decide) (by decide) ?_
            refine z_aload_n (pc := 61) dX9_takesItem_61 rfl ?_
            refine z_bindP (fun p15 hp15 => ?_)
            refine z_callVi (pc := 62) (As := []) (S := []) (c_X9_takesWay hZ n p1.2) hp15 zw_X9_takesWay zv_X9_takesWay zm_X9_250 (n := 0) (by decide) rfl (z_recv gm_0 (T := TX9) (N := 52) rfl) rfl (Nat.le_of_ble_eq_true rfl) (by decide) (by decide) dX9_takesItem_62 ?_
            exact z_zretG (pc := 65) rfl dX9_takesItem_65
          · refine z_lookup (pc := 4) (off := 191) (tgt := 195) dX9_takesItem_4 (by decide) (by rw [lv_osw hs4_0 (by decide), lv_osw hs4_1 (by decide), lv_osw hs4_2 (by decide), lv_osw hs4_3 (by decide), lv_osw hs4_4 (by decide)]; rfl) (by decide) ?_
            refine z_iconst (pc := 195) dX9_takesItem_195 zci_0 ?_
            exact z_zret (pc := 196) rfl dX9_takesItem_196 (by decide)

set_option maxRecDepth 20000 in
theorem c_X9_takesItem {D : va_G} {cI cL : ClassId} {b : Nat} {Z : State → Heap → Prop} {tA : Nat → Nat} (hZ : ∀ s H, (zEm D cI cL b Z).2.1 s H → z_ZM tA (zEm D cI cL b Z).2.2 s H) (n : Nat)  (μ : z_M) : z_S (zEm D cI cL b Z) 5 yX9_takesItem cX9_takesItem 1 (some .boolean) z_ei [.ref (b + 0)] μ ((f_X9_takesItem n μ)) :=
  z_entry (yn := yX9_takesItem) (by decide) (Nat.le_of_ble_eq_true rfl) rfl (w_X9_takesItem_0 hZ n  μ)

def f_X9_street_b124 (n : Nat) (l3 : Int32) (l4 : Int32) (s0 : Int32) (μ : z_M) : Option (Int32 × z_M) :=
  z_let (z_sI μ 0 36 s0) (fun m7 => if l4 = 0 then (z_bind (f_X9_passesAll n 1 0 m7) (fun p8 => z_bind (f_X9_no (-6) p8.2) (fun p9 => some (p9.1, p9.2)))) else (some (l3, m7)))
def f_X9_street_b110 (n : Nat) (l3 : Int32) (l4 : Int32) (μ : z_M) : Option (Int32 × z_M) :=
  if l4 = 0 then (f_X9_street_b124 n l3 l4 (μ.1 0 38) μ) else (f_X9_street_b124 n l3 l4 (-1) μ)
def f_X9_street_b105 (r53 : Int32 → Int32 → Int32 → z_M → Option (Int32 × z_M)) (n : Nat) (l1 : Int32) (l4 : Int32) (s0 : Int32) (s1 : Int32) (μ : z_M) : Option (Int32 × z_M) :=
  z_let ((s1 + s0) : Int32) (fun x11 => r53 l1 x11 l4 μ)
def f_X9_street_b92 (r53 : Int32 → Int32 → Int32 → z_M → Option (Int32 × z_M)) (n : Nat) (l1 : Int32) (l3 : Int32) (s0 : Int32) (μ : z_M) : Option (Int32 × z_M) :=
  if s0 = 0 then (f_X9_street_b105 r53 n l1 s0 0 l3 μ) else (f_X9_street_b105 r53 n l1 s0 1 l3 μ)
def f_X9_street_b91 (r53 : Int32 → Int32 → Int32 → z_M → Option (Int32 × z_M)) (n : Nat) (l1 : Int32) (l3 : Int32) (μ : z_M) : Option (Int32 × z_M) :=
  f_X9_street_b92 r53 n l1 l3 0 μ
def f_X9_street_h53 : Nat → Int32 → Int32 → Int32 → z_M → Option (Int32 × z_M)
  | 0, _, _, _, _ => none
  | n + 1, l1, l3, l4, μ =>
    if l4 = 0 then (f_X9_street_b110 n l3 l4 μ) else (z_chk l1 8 (if (μ.1 0 38) < (μ.1 20 (z_ix l1)) then (z_bind (f_X9_takes 59 μ) (fun p10 => if p10.1 = 0 then (f_X9_street_b91 (f_X9_street_h53 n) n l1 l3 p10.2) else (z_bind (f_X9_takesItem n p10.2) (fun p12 => if p12.1 = 0 then (f_X9_street_b91 (f_X9_street_h53 n) n l1 l3 p12.2) else (f_X9_street_b92 (f_X9_street_h53 n) n l1 l3 1 p12.2))))) else (f_X9_street_b110 n l3 l4 μ)))
def f_X9_street_b51 (n : Nat) (l1 : Int32) (l4 : Int32) (s0 : Int32) (s1 : Int32) (μ : z_M) : Option (Int32 × z_M) :=
  z_let ((s1 + s0) : Int32) (fun x6 => f_X9_street_h53 n l1 x6 l4 μ)
def f_X9_street (n : Nat) (a1 : Int32) (μ : z_M) : Option (Int32 × z_M) :=
  z_bind (f_X9_notRow a1 μ) (fun p1 => if p1.1 = 0 then (z_let (z_sI p1.2 0 37 a1) (fun m2 => z_let (z_sI m2 0 38 0) (fun m3 => z_bind (f_X9_passesAll n 1 1 m3) (fun p4 => z_bind (f_X9_takesItem n p4.2) (fun p5 => if p5.1 = 0 then (f_X9_street_b51 n a1 p5.1 0 0 p5.2) else (f_X9_street_b51 n a1 p5.1 1 0 p5.2)))))) else (z_bind (f_X9_no p1.1 p1.2) (fun p13 => some (p13.1, p13.2))))
set_option maxRecDepth 20000 in
theorem w_X9_street_124 {D : va_G} {cI cL : ClassId} {b : Nat} {Z : State → Heap → Prop} {tA : Nat → Nat} (hZ : ∀ s H, (zEm D cI cL b Z).2.1 s H → z_ZM tA (zEm D cI cL b Z).2.2 s H) (n : Nat) (l3 : Int32) (l4 : Int32) (s0 : Int32) (μ : z_M) : z_w (zEm D cI cL b Z) (RX9, cX9_street, 5, (some .int), 6) z_ei 124 [(0, .ref (b + 0)), (3, .int l3), (4, .int l4)] [.int s0, .ref (b + 0)] μ ((f_X9_street_b124 n l3 l4 s0 μ)) := by
  unfold f_X9_street_b124
  refine zpI_X9_90 (pc := 124) gm_0 rfl dX9_street_124 ?_
  refine z_letMO (fun m7 => ?_)
  refine z_iload (pc := 127) dX9_street_127 rfl ?_
  refine z_if_eq (pc := 129) (tgt := 134) dX9_street_129 (by decide) (fun _ => ?_) (fun _ => ?_)
  · refine z_aload_n (pc := 134) dX9_street_134 rfl ?_
    refine z_iconst (pc := 135) dX9_street_135 zci_1 ?_
    refine z_iconst (pc := 136) dX9_street_136 zci_0 ?_
    refine z_bindP (fun p8 hp8 => ?_)
    refine z_callVv (pc := 137) (As := [.int 1, .int 0]) (S := []) (c_X9_passesAll n 1 0 m7) hp8 zw_X9_passesAll zv_X9_passesAll zm_X9_262 (n := 2) (by decide) rfl (z_recv gm_0 (T := TX9) (N := 52) rfl) rfl (Nat.le_of_ble_eq_true rfl) (by decide) (by decide) dX9_street_137 ?_
    refine z_aload_n (pc := 140) dX9_street_140 rfl ?_
    refine z_bipush (pc := 141) dX9_street_141 zcb_m6 ?_
    refine z_bindP (fun p9 hp9 => ?_)
    refine z_callVi (pc := 143) (As := [.int (-6)]) (S := []) (c_X9_no (-6) p8.2) hp9 zw_X9_no zv_X9_no zm_X9_171 (n := 1) (by decide) rfl (z_recv gm_0 (T := TX9) (N := 52) rfl) rfl (Nat.le_of_ble_eq_true rfl) (by decide) (by decide) dX9_street_143 ?_
    exact z_iret (pc := 146) rfl dX9_street_146
  · refine z_iload_n (pc := 132) dX9_street_132 rfl ?_
    exact z_iret (pc := 133) rfl dX9_street_133

set_option maxRecDepth 20000 in
theorem w_X9_street_110 {D : va_G} {cI cL : ClassId} {b : Nat} {Z : State → Heap → Prop} {tA : Nat → Nat} (hZ : ∀ s H, (zEm D cI cL b Z).2.1 s H → z_ZM tA (zEm D cI cL b Z).2.2 s H) (n : Nat) (l3 : Int32) (l4 : Int32) (μ : z_M) : z_w (zEm D cI cL b Z) (RX9, cX9_street, 5, (some .int), 6) z_ei 110 [(0, .ref (b + 0)), (3, .int l3), (4, .int l4)] [] μ ((f_X9_street_b110 n l3 l4 μ)) := by
  unfold f_X9_street_b110
  refine z_aload_n (pc := 110) dX9_street_110 rfl ?_
  refine z_iload (pc := 111) dX9_street_111 rfl ?_
  refine z_if_eq (pc := 113) (tgt := 120) dX9_street_113 (by decide) (fun _ => ?_) (fun _ => ?_)
  · refine z_aload_n (pc := 120) dX9_street_120 rfl ?_
    refine zgI_X9_214 (pc := 121) gm_0 rfl dX9_street_121 ?_
    exact w_X9_street_124 hZ n l3 l4 (μ.1 0 38) μ
  · refine z_iconst (pc := 116) dX9_street_116 zci_m1 ?_
    refine z_goto (pc := 117) (tgt := 124) dX9_street_117 (by decide) ?_
    exact w_X9_street_124 hZ n l3 l4 (-1) μ

set_option maxRecDepth 20000 in
theorem w_X9_street_105 {D : va_G} {cI cL : ClassId} {b : Nat} {Z : State → Heap → Prop} {tA : Nat → Nat} (hZ : ∀ s H, (zEm D cI cL b Z).2.1 s H → z_ZM tA (zEm D cI cL b Z).2.2 s H) (r53 : Int32 → Int32 → Int32 → z_M → Option (Int32 × z_M)) (hr53 : ∀ (l1 : Int32) (l3 : Int32) (l4 : Int32) (μ : z_M), z_w (zEm D cI cL b Z) (RX9, cX9_street, 5, (some .int), 6) z_ei 53 [(0, .ref (b + 0)), (1, .int l1), (3, .int l3), (4, .int l4)] [] μ ((r53 l1 l3 l4 μ))) (n : Nat) (l1 : Int32) (l4 : Int32) (s0 : Int32) (s1 : Int32) (μ : z_M) : z_w (zEm D cI cL b Z) (RX9, cX9_street, 5, (some .int), 6) z_ei 105 [(0, .ref (b + 0)), (1, .int l1), (4, .int l4)] [.int s0, .int s1] μ ((f_X9_street_b105 r53 n l1 l4 s0 s1 μ)) := by
  unfold f_X9_street_b105
  refine z_iadd (pc := 105) dX9_street_105 ?_
  refine z_letIO (fun x11 => ?_)
  refine z_istore_n (pc := 106) (L' := [(0, .ref (b + 0)), (1, .int l1), (3, .int x11), (4, .int l4)]) dX9_street_106 (by decide) rfl ?_
  refine z_goto (pc := 107) (tgt := 53) dX9_street_107 (by decide) ?_
  exact hr53 l1 x11 l4 μ

set_option maxRecDepth 20000 in
theorem w_X9_street_92 {D : va_G} {cI cL : ClassId} {b : Nat} {Z : State → Heap → Prop} {tA : Nat → Nat} (hZ : ∀ s H, (zEm D cI cL b Z).2.1 s H → z_ZM tA (zEm D cI cL b Z).2.2 s H) (r53 : Int32 → Int32 → Int32 → z_M → Option (Int32 × z_M)) (hr53 : ∀ (l1 : Int32) (l3 : Int32) (l4 : Int32) (μ : z_M), z_w (zEm D cI cL b Z) (RX9, cX9_street, 5, (some .int), 6) z_ei 53 [(0, .ref (b + 0)), (1, .int l1), (3, .int l3), (4, .int l4)] [] μ ((r53 l1 l3 l4 μ))) (n : Nat) (l1 : Int32) (l3 : Int32) (s0 : Int32) (μ : z_M) : z_w (zEm D cI cL b Z) (RX9, cX9_street, 5, (some .int), 6) z_ei 92 [(0, .ref (b + 0)), (1, .int l1), (3, .int l3)] [.int s0] μ ((f_X9_street_b92 r53 n l1 l3 s0 μ)) := by
  unfold f_X9_street_b92
  refine z_istore (pc := 92) (L' := [(0, .ref (b + 0)), (1, .int l1), (3, .int l3), (4, .int s0)]) dX9_street_92 (by decide) rfl ?_
  refine z_iload_n (pc := 94) dX9_street_94 rfl ?_
  refine z_iload (pc := 95) dX9_street_95 rfl ?_
  refine z_if_eq (pc := 97) (tgt := 104) dX9_street_97 (by decide) (fun _ => ?_) (fun _ => ?_)
  · refine z_iconst (pc := 104) dX9_street_104 zci_0 ?_
    refine z_drop (L' := [(0, .ref (b + 0)), (1, .int l1), (4, .int s0)]) [0, 1, 3] rfl ?_
    exact w_X9_street_105 hZ _ hr53 n l1 s0 0 l3 μ
  · refine z_iconst (pc := 100) dX9_street_100 zci_1 ?_
    refine z_goto (pc := 101) (tgt := 105) dX9_street_101 (by decide) ?_
    refine z_drop (L' := [(0, .ref (b + 0)), (1, .int l1), (4, .int s0)]) [0, 1, 3] rfl ?_
    exact w_X9_street_105 hZ _ hr53 n l1 s0 1 l3 μ

set_option maxRecDepth 20000 in
theorem w_X9_street_91 {D : va_G} {cI cL : ClassId} {b : Nat} {Z : State → Heap → Prop} {tA : Nat → Nat} (hZ : ∀ s H, (zEm D cI cL b Z).2.1 s H → z_ZM tA (zEm D cI cL b Z).2.2 s H) (r53 : Int32 → Int32 → Int32 → z_M → Option (Int32 × z_M)) (hr53 : ∀ (l1 : Int32) (l3 : Int32) (l4 : Int32) (μ : z_M), z_w (zEm D cI cL b Z) (RX9, cX9_street, 5, (some .int), 6) z_ei 53 [(0, .ref (b + 0)), (1, .int l1), (3, .int l3), (4, .int l4)] [] μ ((r53 l1 l3 l4 μ))) (n : Nat) (l1 : Int32) (l3 : Int32) (μ : z_M) : z_w (zEm D cI cL b Z) (RX9, cX9_street, 5, (some .int), 6) z_ei 91 [(0, .ref (b + 0)), (1, .int l1), (3, .int l3)] [] μ ((f_X9_street_b91 r53 n l1 l3 μ)) := by
  unfold f_X9_street_b91
  refine z_iconst (pc := 91) dX9_street_91 zci_0 ?_
  exact w_X9_street_92 hZ _ hr53 n l1 l3 0 μ

set_option maxRecDepth 20000 in
theorem w_X9_street_53 {D : va_G} {cI cL : ClassId} {b : Nat} {Z : State → Heap → Prop} {tA : Nat → Nat} (hZ : ∀ s H, (zEm D cI cL b Z).2.1 s H → z_ZM tA (zEm D cI cL b Z).2.2 s H) : ∀ (n : Nat) (l1 : Int32) (l3 : Int32) (l4 : Int32) (μ : z_M), z_w (zEm D cI cL b Z) (RX9, cX9_street, 5, (some .int), 6) z_ei 53 [(0, .ref (b + 0)), (1, .int l1), (3, .int l3), (4, .int l4)] [] μ (f_X9_street_h53 n l1 l3 l4 μ) := by
  intro n
  induction n with
  | zero =>
    intro l1 l3 l4 μ
    exact z_none
  | succ n ih =>
    intro l1 l3 l4 μ
    unfold f_X9_street_h53
    refine z_iload (pc := 53) dX9_street_53 rfl ?_
    refine z_if_eq (pc := 55) (tgt := 110) dX9_street_55 (by decide) (fun _ => ?_) (fun _ => ?_)
    · refine z_drop (L' := [(0, .ref (b + 0)), (3, .int l3), (4, .int l4)]) [0, 2, 3] rfl ?_
      exact w_X9_street_110 hZ n l3 l4 μ
    · refine z_aload_n (pc := 58) dX9_street_58 rfl ?_
      refine zgI_X9_214 (pc := 59) gm_0 rfl dX9_street_59 ?_
      refine z_aload_n (pc := 62) dX9_street_62 rfl ?_
      refine zgR_X9_78 (pc := 63) gm_0 rfl dX9_street_63 ?_
      refine z_iload_n (pc := 66) dX9_street_66 rfl ?_
      refine z_iald (pc := 67) gm_20 dX9_street_67 ?_
      refine z_icmp_ge (pc := 68) (tgt := 110) dX9_street_68 (by decide) (fun _ => ?_) (fun _ => ?_)
      · refine z_aload_n (pc := 71) dX9_street_71 rfl ?_
        refine z_bipush (pc := 72) dX9_street_72 zcb_59 ?_
        refine z_bindP (fun p10 hp10 => ?_)
        refine z_callVi (pc := 74) (As := [.int 59]) (S := []) (c_X9_takes 59 μ) hp10 zw_X9_takes zv_X9_takes zm_X9_224 (n := 1) (by decide) rfl (z_recv gm_0 (T := TX9) (N := 52) rfl) rfl (Nat.le_of_ble_eq_true rfl) (by decide) (by decide) dX9_street_74 ?_
        refine z_if_eq (pc := 77) (tgt := 91) dX9_street_77 (by decide) (fun _ => ?_) (fun _ => ?_)
        · refine z_drop (L' := [(0, .ref (b + 0)), (1, .int l1), (3, .int l3)]) [0, 1, 2] rfl ?_
          exact w_X9_street_91 hZ _ ih n l1 l3 p10.2
        · refine z_aload_n (pc := 80) dX9_street_80 rfl ?_
          refine z_bindP (fun p12 hp12 => ?_)
          refine z_callVi (pc := 81) (As := []) (S := []) (c_X9_takesItem hZ n p10.2) hp12 zw_X9_takesItem zv_X9_takesItem zm_X9_266 (n := 0) (by decide) rfl (z_recv gm_0 (T := TX9) (N := 52) rfl) rfl (Nat.le_of_ble_eq_true rfl) (by decide) (by decide) dX9_street_81 ?_
          refine z_if_eq (pc := 84) (tgt := 91) dX9_street_84 (by decide) (fun _ => ?_) (fun _ => ?_)
          · refine z_drop (L' := [(0, .ref (b + 0)), (1, .int l1), (3, .int l3)]) [0, 1, 2] rfl ?_
            exact w_X9_street_91 hZ _ ih n l1 l3 p12.2
          · refine z_iconst (pc := 87) dX9_street_87 zci_1 ?_
            refine z_goto (pc := 88) (tgt := 92) dX9_street_88 (by decide) ?_
            refine z_drop (L' := [(0, .ref (b + 0)), (1, .int l1), (3, .int l3)]) [0, 1, 2] rfl ?_
            exact w_X9_street_92 hZ _ ih n l1 l3 1 p12.2
      · refine z_drop (L' := [(0, .ref (b + 0)), (3, .int l3), (4, .int l4)]) [0, 2, 3] rfl ?_
        exact w_X9_street_110 hZ n l3 l4 μ

set_option maxRecDepth 20000 in
theorem w_X9_street_51 {D : va_G} {cI cL : ClassId} {b : Nat} {Z : State → Heap → Prop} {tA : Nat → Nat} (hZ : ∀ s H, (zEm D cI cL b Z).2.1 s H → z_ZM tA (zEm D cI cL b Z).2.2 s H) (n : Nat) (l1 : Int32) (l4 : Int32) (s0 : Int32) (s1 : Int32) (μ : z_M) : z_w (zEm D cI cL b Z) (RX9, cX9_street, 5, (some .int), 6) z_ei 51 [(0, .ref (b + 0)), (1, .int l1), (4, .int l4)] [.int s0, .int s1] μ ((f_X9_street_b51 n l1 l4 s0 s1 μ)) := by
  unfold f_X9_street_b51
  refine z_iadd (pc := 51) dX9_street_51 ?_
  refine z_letIO (fun x6 => ?_)
  refine z_istore_n (pc := 52) (L' := [(0, .ref (b + 0)), (1, .int l1), (3, .int x6), (4, .int l4)]) dX9_street_52 (by decide) rfl ?_
  exact w_X9_street_53 hZ n l1 x6 l4 μ

set_option maxRecDepth 20000 in
theorem w_X9_street_0 {D : va_G} {cI cL : ClassId} {b : Nat} {Z : State → Heap → Prop} {tA : Nat → Nat} (hZ : ∀ s H, (zEm D cI cL b Z).2.1 s H → z_ZM tA (zEm D cI cL b Z).2.2 s H) (n : Nat) (a1 : Int32) (μ : z_M) : z_w (zEm D cI cL b Z) (RX9, cX9_street, 5, (some .int), 6) z_ei 0 [(0, .ref (b + 0)), (1, .int a1)] [] μ ((f_X9_street n a1 μ)) := by
  unfold f_X9_street
  refine z_aload_n (pc := 0) dX9_street_0 rfl ?_
  refine z_iload_n (pc := 1) dX9_street_1 rfl ?_
  refine z_bindP (fun p1 hp1 => ?_)
  refine z_callVi (pc := 2) (As := [.int a1]) (S := []) (c_X9_notRow a1 μ) hp1 zw_X9_notRow zv_X9_notRow zm_X9_174 (n := 1) (by decide) rfl (z_recv gm_0 (T := TX9) (N := 52) rfl) rfl (Nat.le_of_ble_eq_true rfl) (by decide) (by decide) dX9_street_2 ?_
  refine z_istore_n (pc := 5) (L' := [(0, .ref (b + 0)), (1, .int a1), (2, .int p1.1)]) dX9_street_5 (by decide) rfl ?_
  refine z_iload_n (pc := 6) dX9_street_6 rfl ?_
  refine z_if_eq (pc := 7) (tgt := 16) dX9_street_7 (by decide) (fun _ => ?_) (fun _ => ?_)
  · refine z_aload_n (pc := 16) dX9_street_16 rfl ?_
    refine z_iload_n (pc := 17) dX9_street_17 rfl ?_
    refine zpI_X9_217 (pc := 18) gm_0 rfl dX9_street_18 ?_
    refine z_letMO (fun m2 => ?_)
    refine z_aload_n (pc := 21) dX9_street_21 rfl ?_
    refine z_iconst (pc := 22) dX9_street_22 zci_0 ?_
    refine zpI_X9_214 (pc := 23) gm_0 rfl dX9_street_23 ?_
    refine z_letMO (fun m3 => ?_)
    refine z_aload_n (pc := 26) dX9_street_26 rfl ?_
    refine z_iconst (pc := 27) dX9_street_27 zci_1 ?_
    refine z_iconst (pc := 28) dX9_street_28 zci_1 ?_
    refine z_bindP (fun p4 hp4 => ?_)
    refine z_callVv (pc := 29) (As := [.int 1, .int 1]) (S := []) (c_X9_passesAll n 1 1 m3) hp4 zw_X9_passesAll zv_X9_passesAll zm_X9_262 (n := 2) (by decide) rfl (z_recv gm_0 (T := TX9) (N := 52) rfl) rfl (Nat.le_of_ble_eq_true rfl) (by decide) (by decide) dX9_street_29 ?_
    refine z_iconst (pc := 32) dX9_street_32 zci_0 ?_
    refine z_istore_n (pc := 33) (L' := [(0, .ref (b + 0)), (1, .int a1), (2, .int p1.1), (3, .int 0)]) dX9_street_33 (by decide) rfl ?_
    refine z_aload_n (pc := 34) dX9_street_34 rfl ?_
    refine z_bindP (fun p5 hp5 => ?_)
    refine z_callVi (pc := 35) (As := []) (S := []) (c_X9_takesItem hZ n p4.2) hp5 zw_X9_takesItem zv_X9_takesItem zm_X9_266 (n := 0) (by decide) rfl (z_recv gm_0 (T := TX9) (N := 52) rfl) rfl (Nat.le_of_ble_eq_true rfl) (by decide) (by decide) dX9_street_35 ?_
    refine z_istore (pc := 38) (L' := [(0, .ref (b + 0)), (1, .int a1), (2, .int p1.1), (3, .int 0), (4, .int p5.1)]) dX9_street_38 (by decide) rfl ?_
    refine z_iload_n (pc := 40) dX9_street_40 rfl ?_
    refine z_iload (pc := 41) dX9_street_41 rfl ?_
    refine z_if_eq (pc := 43) (tgt := 50) dX9_street_43 (by decide) (fun _ => ?_) (fun _ => ?_)
    · refine z_iconst (pc := 50) dX9_street_50 zci_0 ?_
      refine z_drop (L' := [(0, .ref (b + 0)), (1, .int a1), (4, .int p5.1)]) [0, 1, 4] rfl ?_
      exact w_X9_street_51 hZ n a1 p5.1 0 0 p5.2
    · refine z_iconst (pc := 46) dX9_street_46 zci_1 ?_
      refine z_goto (pc := 47) (tgt := 51) dX9_street_47 (by decide) ?_
      refine z_drop (L' := [(0, .ref (b + 0)), (1, .int a1), (4, .int p5.1)]) [0, 1, 4] rfl ?_
      exact w_X9_street_51 hZ n a1 p5.1 1 0 p5.2
  · refine z_aload_n (pc := 10) dX9_street_10 rfl ?_
    refine z_iload_n (pc := 11) dX9_street_11 rfl ?_
    refine z_bindP (fun p13 hp13 => ?_)
    refine z_callVi (pc := 12) (As := [.int p1.1]) (S := []) (c_X9_no p1.1 p1.2) hp13 zw_X9_no zv_X9_no zm_X9_171 (n := 1) (by decide) rfl (z_recv gm_0 (T := TX9) (N := 52) rfl) rfl (Nat.le_of_ble_eq_true rfl) (by decide) (by decide) dX9_street_12 ?_
    exact z_iret (pc := 15) rfl dX9_street_15

set_option maxRecDepth 20000 in
theorem c_X9_street {D : va_G} {cI cL : ClassId} {b : Nat} {Z : State → Heap → Prop} {tA : Nat → Nat} (hZ : ∀ s H, (zEm D cI cL b Z).2.1 s H → z_ZM tA (zEm D cI cL b Z).2.2 s H) (n : Nat) (a1 : Int32) (μ : z_M) : z_S (zEm D cI cL b Z) 6 yX9_street cX9_street 5 (some .int) z_ei [.ref (b + 0), .int a1] μ ((f_X9_street n a1 μ)) :=
  z_entry (yn := yX9_street) (by decide) (Nat.le_of_ble_eq_true rfl) rfl (w_X9_street_0 hZ n a1 μ)
