/-! what nobody writes: statics, tables, String constants -/
theorem z_gets {M α : Type} {E : z_E M} {y : z_Y} {em : α → Option Value} {pc : Nat} {L : List (Nat × Value)} {S : List Value} {μ : M} {F : Option (α × M)} {C n d ref : String} {index : Nat} {v : Value} (hZ : ∀ s H, E.2.1 s H → va_Z C n d v E.2.2 s H) (hlink : Cond.fieldLink y.1 index ref n d ∈ z_tbl) (hC : C = ref) (hd : decode y.2.1 pc = .ok (.getstatic index, 3)) (k : z_w E y em (pc + 3) L (v :: S) μ F) : z_w E y em pc L S μ F :=
  fun r μ' hF p l e s m args below meth c H locs ls hX hE hK hW hS hl => va_gets hX.1.1 hX.1.2.1 (hZ _ _ hK) hS hX.1.2.2.2.1 (hX.1.2.2.2.2 _ hlink) (fun x hx => by rw [← hC]; exact hx) hd (k r μ' hF p l e s m args below meth c H locs ls hX hE hK hW hS hl)
theorem z_ogetf {M α : Type} {E : z_E M} {y : z_Y} {em : α → Option Value} {pc : Nat} {L : List (Nat × Value)} {S : List Value} {μ : M} {F : Option (α × M)} {o n d ref : String} {index q : Nat} {v : Value} (hZ : ∀ s H, E.2.1 s H → va_OF o n d v q E.2.2 s H) (hlink : Cond.fieldLink y.1 index ref n d ∈ z_tbl) (hC : o = ref) (hd : decode y.2.1 pc = .ok (.getfield index, 3)) (k : z_w E y em (pc + 3) L (v :: S) μ F) : z_w E y em pc L (.ref q :: S) μ F :=
  fun r μ' hF p l e s m args below meth c H locs ls hX hE hK hW hS hl => vk_getf hX.1.1 hX.1.2.1 (hZ _ _ hK) hS hX.1.2.2.2.1 (hX.1.2.2.2.2 _ hlink) (fun x hx => by rw [← hC]; exact hx) hd (k r μ' hF p l e s m args below meth c H locs ls hX hE hK hW hS hl)
theorem z_tbald {M α : Type} {E : z_E M} {y : z_Y} {em : α → Option Value} {pc : Nat} {L : List (Nat × Value)} {S : List Value} {μ : M} {F : Option (α × M)} {t N : Nat} {g : Nat → Int32} {i : Int32} (hZ : ∀ s H, E.2.1 s H → va_T .byte t N (fun j => .int (g j)) E.2.2 s H) (hd : decode y.2.1 pc = .ok (.baload, 1)) (kk : z_w E y em (pc + 1) L (.int (g (z_ix i)) :: S) μ F) : z_w E y em pc L (.int i :: .ref t :: S) μ (z_chk i N F) :=
  fun r μ' hF p l e s m args below meth c H locs ls hX hE hK hW hS hl => by
  have h2 := z_chk_some hF
  exact va_tb hX.1.1 hX.1.2.1 (hZ _ _ hK) hS h2.1 rfl hd (kk r μ' h2.2 p l e s m args below meth c H locs ls hX hE hK hW hS hl)
theorem z_tiald {M α : Type} {E : z_E M} {y : z_Y} {em : α → Option Value} {pc : Nat} {L : List (Nat × Value)} {S : List Value} {μ : M} {F : Option (α × M)} {t N : Nat} {g : Nat → Int32} {i : Int32} (hZ : ∀ s H, E.2.1 s H → va_T .int t N (fun j => .int (g j)) E.2.2 s H) (hd : decode y.2.1 pc = .ok (.iaload, 1)) (kk : z_w E y em (pc + 1) L (.int (g (z_ix i)) :: S) μ F) : z_w E y em pc L (.int i :: .ref t :: S) μ (z_chk i N F) :=
  fun r μ' hF p l e s m args below meth c H locs ls hX hE hK hW hS hl => by
  have h2 := z_chk_some hF
  exact va_ti hX.1.1 hX.1.2.1 (hZ _ _ hK) hS h2.1 rfl hd (kk r μ' h2.2 p l e s m args below meth c H locs ls hX hE hK hW hS hl)
theorem z_tlen {M α : Type} {E : z_E M} {y : z_Y} {em : α → Option Value} {pc : Nat} {L : List (Nat × Value)} {S : List Value} {μ : M} {F : Option (α × M)} {t N : Nat} {ty : FieldType} {g : Nat → Value} {v : Int32} (hZ : ∀ s H, E.2.1 s H → va_T ty t N g E.2.2 s H) (hv : Int32.ofNat N = v) (hd : decode y.2.1 pc = .ok (.arraylength, 1)) (kk : z_w E y em (pc + 1) L (.int v :: S) μ F) : z_w E y em pc L (.ref t :: S) μ F :=
  fun r μ' hF p l e s m args below meth c H locs ls hX hE hK hW hS hl => va_tlen hX.1.1 hX.1.2.1 (hZ _ _ hK) hS hv hd (kk r μ' hF p l e s m args below meth c H locs ls hX hE hK hW hS hl)
theorem z_ldcS {M α : Type} {E : z_E M} {y : z_Y} {em : α → Option Value} {pc : Nat} {L : List (Nat × Value)} {S : List Value} {μ : M} {F : Option (α × M)} {tx : String} {index q : Nat} (hZ : ∀ s H, E.2.1 s H → vk_R y.1 index tx q s) (hd : decode y.2.1 pc = .ok (.ldc index, 2)) (kk : z_w E y em (pc + 2) L (.ref q :: S) μ F) : z_w E y em pc L S μ F :=
  fun r μ' hF p l e s m args below meth c H locs ls hX hE hK hW hS hl => va_ldcS hX.1.1 hX.1.2.1 hX.1.2.2.2.1 (hZ _ _ hK) hd (kk r μ' hF p l e s m args below meth c H locs ls hX hE hK hW hS hl)
theorem z_i2c {M α : Type} {E : z_E M} {y : z_Y} {em : α → Option Value} {pc : Nat} {L : List (Nat × Value)} {S : List Value} {μ : M} {F : Option (α × M)} {x : Int32} (hd : decode y.2.1 pc = .ok (.i2c, 1)) (kk : z_w E y em (pc + 1) L (.int ((x.toUInt32 % 65536).toInt32) :: S) μ F) : z_w E y em pc L (.int x :: S) μ F :=
  fun r μ' hF p l e s m args below meth c H locs ls hX hE hK hW hS hl => lv_i2c hX.1.1 hX.1.2.1 hd rfl (kk r μ' hF p l e s m args below meth c H locs ls hX hE hK hW hS hl)
theorem z_cret {M : Type} {E : z_E M} {y : z_Y} {pc : Nat} {L : List (Nat × Value)} {μ : M} {v v' : Int32} {ty : FieldType} (hr : y.2.2.2.1 = some ty) (hn : narrow ty (.int v) = .int v') (hd : decode y.2.1 pc = .ok (.ireturn, 1)) : z_w E y z_ei pc L [.int v] μ (some (v', μ)) :=
  fun r μ' hF p l e s m args below meth c H locs ls hX hE hK hW hS hl => by
  cases hF
  exact z_nret hX.1.1 hX.1.2.1 (hX.2.1.trans hr) hn (fun t ht hWm => ⟨rfl, by rw [ht]; exact hW, hS.F ht⟩) hS.2.2 hd hX.2.2
theorem z_same {M α : Type} {E : z_E M} {y : z_Y} {em : α → Option Value} {pc : Nat} {L : List (Nat × Value)} {S : List Value} {μ : M} {F : Option (α × M)} (C : Prop) (hC : Decidable C) (k : z_w E y em pc L S μ (@ite _ C hC F F)) : z_w E y em pc L S μ F := by
  rw [ite_self] at k; exact k
/-- the String constants of the reader: house, way, shut, lag, bird -/
def z_len : List Nat := [5, 3, 4, 3, 4]
def z_byt : List (List Int32) := [[104, 111, 117, 115, 101], [119, 97, 121], [115, 104, 117, 116], [108, 97, 103], [98, 105, 114, 100]]
def z_byte (i j : Nat) : Int32 := (z_byt.getD i []).getD j 0
def z_ZS (adK adV : Nat → Nat) (w : Option Nat) (A : Nat → Prop) (s : State) (H : Heap) : Prop :=
  vk_S 5 z_len z_byt adK adV A s H ∧ (vk_R RX3 91 "house" (adK 0) s ∧ vk_R RX3 111 "way" (adK 1) s ∧ vk_R RX3 122 "shut" (adK 2) s ∧ vk_R RX3 131 "lag" (adK 3) s ∧ vk_R RX3 136 "bird" (adK 4) s) ∧ va_Z "java/lang/String" "COMPACT_STRINGS" "Z" (.int 1) A s H ∧ va_Z "jdk/internal/util/Preconditions" "SIOOBE_FORMATTER" "Ljava/util/function/BiFunction;" (va_rf w) A s H
theorem z_strRecv {M : Type} {E : z_E M} {adK adV : Nat → Nat} {w : Option Nat} (hZ : ∀ s H, E.2.1 s H → z_ZS adK adV w E.2.2 s H) {i : Nat} (hi : i < 5) (μ : M) : z_Recv E "java/lang/String" (adK i) μ := by
  intro s H hK _
  obtain ⟨cell, h1, h2, h3, -⟩ := ((hZ s H hK).1.1 i hi).1
  exact ⟨cell, h1, h2, h3⟩
theorem c_strcoder {M : Type} {E : z_E M} {adK adV : Nat → Nat} {w : Option Nat} (hZ : ∀ s H, E.2.1 s H → z_ZS adK adV w E.2.2 s H) {i : Nat} (hi : i < 5) (μ : M) : z_S E 0 yJ0_coder_7d493 cJ0_coder_7d493 1 (some .byte) z_ei [.ref (adK i)] μ (some (0, μ)) :=
  z_entry (yn := yJ0_coder_7d493) (by decide) (Nat.le_of_ble_eq_true rfl) rfl (by
  refine z_gets (pc := 0) (fun s H h => (hZ s H h).2.2.1) zf_J0_38 rfl dJ0_coder_7d493_0 ?_
  refine z_same ((1 : Int32) = 0) inferInstance ?_
  refine z_if_eq (pc := 3) (tgt := 13) dJ0_coder_7d493_3 (by decide) (fun h => absurd h (by decide)) (fun _ => ?_)
  refine z_aload_n (pc := 6) dJ0_coder_7d493_6 rfl ?_
  refine z_ogetf (pc := 7) (fun s H h => ((hZ s H h).1.1 i hi).2.1) zf_J0_15 rfl dJ0_coder_7d493_7 ?_
  refine z_goto (pc := 10) (tgt := 14) dJ0_coder_7d493_10 (by decide) ?_
  exact z_cret (pc := 14) rfl rfl dJ0_coder_7d493_14)
theorem c_strlatin {M : Type} {E : z_E M} {adK adV : Nat → Nat} {w : Option Nat} (hZ : ∀ s H, E.2.1 s H → z_ZS adK adV w E.2.2 s H) {i : Nat} (hi : i < 5) (μ : M) : z_S E 0 yJ0_isLatin1_aae02 cJ0_isLatin1_aae02 1 (some .boolean) z_ei [.ref (adK i)] μ (some (1, μ)) :=
  z_entry (yn := yJ0_isLatin1_aae02) (by decide) (Nat.le_of_ble_eq_true rfl) rfl (by
  refine z_gets (pc := 0) (fun s H h => (hZ s H h).2.2.1) zf_J0_38 rfl dJ0_isLatin1_aae02_0 ?_
  refine z_same ((1 : Int32) = 0) inferInstance ?_
  refine z_if_eq (pc := 3) (tgt := 17) dJ0_isLatin1_aae02_3 (by decide) (fun h => absurd h (by decide)) (fun _ => ?_)
  refine z_aload_n (pc := 6) dJ0_isLatin1_aae02_6 rfl ?_
  refine z_ogetf (pc := 7) (fun s H h => ((hZ s H h).1.1 i hi).2.1) zf_J0_15 rfl dJ0_isLatin1_aae02_7 ?_
  refine z_same ((0 : Int32) = 0) inferInstance ?_
  refine z_if_ne (pc := 10) (tgt := 17) dJ0_isLatin1_aae02_10 (by decide) (fun _ => ?_) (fun h => absurd rfl h)
  refine z_iconst (pc := 13) dJ0_isLatin1_aae02_13 zci_1 ?_
  refine z_goto (pc := 14) (tgt := 18) dJ0_isLatin1_aae02_14 (by decide) ?_
  exact z_zret (pc := 18) rfl dJ0_isLatin1_aae02_18 (by decide))
theorem c_strlen {M : Type} {E : z_E M} {adK adV : Nat → Nat} {w : Option Nat} (hZ : ∀ s H, E.2.1 s H → z_ZS adK adV w E.2.2 s H) {i : Nat} (hi : i < 5) (μ : M) : z_S E 1 yJ0_length_8abf5 cJ0_length_8abf5 1 (some .int) z_ei [.ref (adK i)] μ (some (Int32.ofNat (z_len.getD i 0) >>> ((0 : Int32) &&& 31), μ)) :=
  z_entry (yn := yJ0_length_8abf5) (by decide) (Nat.le_of_ble_eq_true rfl) rfl (by
  refine z_aload_n (pc := 0) dJ0_length_8abf5_0 rfl ?_
  refine z_ogetf (pc := 1) (fun s H h => ((hZ s H h).1.1 i hi).2.2.1) zf_J0_9 rfl dJ0_length_8abf5_1 ?_
  refine z_tlen (pc := 4) (fun s H h => ((hZ s H h).1.1 i hi).2.2.2) rfl dJ0_length_8abf5_4 ?_
  refine z_aload_n (pc := 5) dJ0_length_8abf5_5 rfl ?_
  refine z_callVi (pc := 6) (As := []) (S := [.int (Int32.ofNat (z_len.getD i 0))]) (c_strcoder hZ hi μ) rfl zw_J0_coder_7d493 zv_J0_coder_7d493 zm_J0_335 (n := 0) (by decide) rfl (z_strRecv hZ hi μ) rfl (Nat.le_of_ble_eq_true rfl) (by decide) (by decide) dJ0_length_8abf5_6 ?_
  refine z_ishr (pc := 9) dJ0_length_8abf5_9 ?_
  exact z_iret (pc := 10) rfl dJ0_length_8abf5_10)
theorem c_strcheck {M : Type} {E : z_E M} (w : Option Nat) (i : Int32) {n : Nat} (hn : n ≤ 2000000000) (μ : M) : z_S E 0 yJ3_checkIndex_8e157 cJ3_checkIndex_8e157 3 (some .int) z_ei [.int i, .int (Int32.ofNat n), va_rf w] μ (z_chk i n (some (i, μ))) := by
  have key : ∀ L, z_look L 0 = some (.int i) → z_look L 1 = some (.int (Int32.ofNat n)) → z_w E (RJ3, cJ3_checkIndex_8e157, 3, some .int, 0) z_ei 0 L [] μ (z_chk i n (some (i, μ))) := by
    intro L h0 h1
    refine z_iload_n (pc := 0) dJ3_checkIndex_8e157_0 h0 ?_
    refine z_same (i < 0) inferInstance ?_
    refine z_if_lt (pc := 1) (tgt := 9) dJ3_checkIndex_8e157_1 (by decide) (fun h => ?_) (fun hh0 => ?_)
    · refine z_guardW (P := False) (F := none) (fun x hx => ?_) (fun h => h.elim)
      have := (z_chk_some hx).1
      exact absurd h (fun q => this (Or.inl q))
    · refine z_iload_n (pc := 4) dJ3_checkIndex_8e157_4 h0 ?_
      refine z_iload_n (pc := 5) dJ3_checkIndex_8e157_5 h1 ?_
      refine z_same (i < Int32.ofNat n) inferInstance ?_
      refine z_icmp_lt (pc := 6) (tgt := 16) dJ3_checkIndex_8e157_6 (by decide) (fun hh1 => ?_) (fun h => ?_)
      · refine z_guardW (P := True) (F := some (i, μ)) (fun x hx => ⟨trivial, (z_chk_some hx).2⟩) (fun _ => ?_)
        refine z_iload_n (pc := 16) dJ3_checkIndex_8e157_16 h0 ?_
        exact z_iret (pc := 17) rfl dJ3_checkIndex_8e157_17
      · refine z_guardW (P := False) (F := none) (fun x hx => ?_) (fun h => h.elim)
        rw [z_chk] at hx
        by_cases hc : 0 ≤ i.toInt ∧ i.toInt < n
        · exact absurd ((z_lt_ofNat hn).2 hc.2) h
        · rw [if_neg hc] at hx; cases hx
  cases w with
  | none => exact z_entry (yn := yJ3_checkIndex_8e157) (by decide) (Nat.le_of_ble_eq_true rfl) rfl (key _ rfl rfl)
  | some a => exact z_entry (yn := yJ3_checkIndex_8e157) (by decide) (Nat.le_of_ble_eq_true rfl) rfl (key _ rfl rfl)
theorem c_strchk {M : Type} {E : z_E M} {adK adV : Nat → Nat} {w : Option Nat} (hZ : ∀ s H, E.2.1 s H → z_ZS adK adV w E.2.2 s H) (i : Int32) {n : Nat} (hn : n ≤ 2000000000) (μ : M) : z_S E 1 yJ0_checkIndex_df160 cJ0_checkIndex_df160 2 none z_ev [.int i, .int (Int32.ofNat n)] μ (z_chk i n (some ((), μ))) :=
  z_entry (yn := yJ0_checkIndex_df160) (by decide) (Nat.le_of_ble_eq_true rfl) rfl (by
  refine z_iload_n (pc := 0) dJ0_checkIndex_df160_0 rfl ?_
  refine z_iload_n (pc := 1) dJ0_checkIndex_df160_1 rfl ?_
  refine z_gets (pc := 2) (fun s H h => (hZ s H h).2.2.2) zf_J0_1053 rfl dJ0_checkIndex_df160_2 ?_
  refine z_guardW (P := 0 ≤ i.toInt ∧ i.toInt < n) (F := some ((), μ)) (fun x hx => ?_) (fun hc => ?_)
  · rw [z_chk] at hx
    by_cases hc : 0 ≤ i.toInt ∧ i.toInt < n
    · rw [if_pos hc] at hx; exact ⟨hc, hx⟩
    · rw [if_neg hc] at hx; cases hx
  refine z_callSi (pc := 5) (As := [.int i, .int (Int32.ofNat n), va_rf w]) (S := []) (c_strcheck w i hn μ) (z_chk_in hc) zw_J3_checkIndex_8e157 zs_J3_checkIndex_8e157 zm_J0_1059 (n := 3) (by decide) rfl rfl (Nat.le_of_ble_eq_true rfl) (by decide) (by decide) dJ0_checkIndex_df160_5 ?_
  refine z_pop (pc := 8) dJ0_checkIndex_df160_8 rfl ?_
  exact z_vret (pc := 9) rfl dJ0_checkIndex_df160_9)
def z_ch (b : Int32) : Int32 := vp_nar .char (vp_nar .char (((b &&& 255).toUInt32 % 65536).toInt32))
theorem z_lenB {i : Nat} (hi : i < 5) : z_len.getD i 0 ≤ 2000000000 := by
  have : ∀ i, i < 5 → z_len.getD i 0 ≤ 10 := by decide
  have := this i hi; omega
theorem c_strat1 {M : Type} {E : z_E M} {adK adV : Nat → Nat} {w : Option Nat} (hZ : ∀ s H, E.2.1 s H → z_ZS adK adV w E.2.2 s H) {i : Nat} (hi : i < 5) (k : Int32) (μ : M) : z_S E 2 yJ1_charAt_3b067 cJ1_charAt_3b067 2 (some .char) z_ei [.ref (adV i), .int k] μ (z_chk k (z_len.getD i 0) (some (vp_nar .char (((z_byte i (z_ix k) &&& 255).toUInt32 % 65536).toInt32), μ))) :=
  z_entry (yn := yJ1_charAt_3b067) (by decide) (Nat.le_of_ble_eq_true rfl) rfl (by
  refine z_iload_n (pc := 0) dJ1_charAt_3b067_0 rfl ?_
  refine z_aload_n (pc := 1) dJ1_charAt_3b067_1 rfl ?_
  refine z_tlen (pc := 2) (fun s H h => ((hZ s H h).1.1 i hi).2.2.2) rfl dJ1_charAt_3b067_2 ?_
  refine z_guardW (P := 0 ≤ k.toInt ∧ k.toInt < z_len.getD i 0) (F := z_chk k (z_len.getD i 0) (some (vp_nar .char (((z_byte i (z_ix k) &&& 255).toUInt32 % 65536).toInt32), μ))) (fun x hx => ?_) (fun hc => ?_)
  · rw [z_chk] at hx
    by_cases hc : 0 ≤ k.toInt ∧ k.toInt < z_len.getD i 0
    · exact ⟨hc, by rw [z_chk]; exact hx⟩
    · rw [if_neg hc] at hx; cases hx
  refine z_callSv (pc := 3) (As := [.int k, .int (Int32.ofNat (z_len.getD i 0))]) (S := []) (c_strchk hZ k (z_lenB hi) μ) (z_chk_in hc) zw_J0_checkIndex_df160 zs_J0_checkIndex_df160 zm_J1_9 (n := 2) (by decide) rfl rfl (Nat.le_of_ble_eq_true rfl) (by decide) (by decide) dJ1_charAt_3b067_3 ?_
  refine z_aload_n (pc := 6) dJ1_charAt_3b067_6 rfl ?_
  refine z_iload_n (pc := 7) dJ1_charAt_3b067_7 rfl ?_
  refine z_tbald (pc := 8) (g := fun j => z_byte i j) (fun s H h => ((hZ s H h).1.1 i hi).2.2.2) dJ1_charAt_3b067_8 ?_
  refine z_sipush (pc := 9) dJ1_charAt_3b067_9 zcs_255 ?_
  refine z_iand (pc := 12) dJ1_charAt_3b067_12 ?_
  refine z_i2c (pc := 13) dJ1_charAt_3b067_13 ?_
  exact z_cret (pc := 14) rfl rfl dJ1_charAt_3b067_14)
theorem c_strat {M : Type} {E : z_E M} {adK adV : Nat → Nat} {w : Option Nat} (hZ : ∀ s H, E.2.1 s H → z_ZS adK adV w E.2.2 s H) {i : Nat} (hi : i < 5) (k : Int32) (μ : M) : z_S E 3 yJ0_charAt_5068e cJ0_charAt_5068e 2 (some .char) z_ei [.ref (adK i), .int k] μ (z_chk k (z_len.getD i 0) (some (z_ch (z_byte i (z_ix k)), μ))) :=
  z_entry (yn := yJ0_charAt_5068e) (by decide) (Nat.le_of_ble_eq_true rfl) rfl (by
  refine z_aload_n (pc := 0) dJ0_charAt_5068e_0 rfl ?_
  refine z_callVi (pc := 1) (As := []) (S := []) (c_strlatin hZ hi μ) rfl zw_J0_isLatin1_aae02 zv_J0_isLatin1_aae02 zm_J0_492 (n := 0) (by decide) rfl (z_strRecv hZ hi μ) rfl (Nat.le_of_ble_eq_true rfl) (by decide) (by decide) dJ0_charAt_5068e_1 ?_
  refine z_same ((1 : Int32) = 0) inferInstance ?_
  refine z_if_eq (pc := 4) (tgt := 16) dJ0_charAt_5068e_4 (by decide) (fun h => absurd h (by decide)) (fun _ => ?_)
  refine z_aload_n (pc := 7) dJ0_charAt_5068e_7 rfl ?_
  refine z_ogetf (pc := 8) (fun s H h => ((hZ s H h).1.1 i hi).2.2.1) zf_J0_9 rfl dJ0_charAt_5068e_8 ?_
  refine z_iload_n (pc := 11) dJ0_charAt_5068e_11 rfl ?_
  refine z_guardW (P := 0 ≤ k.toInt ∧ k.toInt < z_len.getD i 0) (F := some (z_ch (z_byte i (z_ix k)), μ)) (fun x hx => ?_) (fun hc => ?_)
  · rw [z_chk] at hx
    by_cases hc : 0 ≤ k.toInt ∧ k.toInt < z_len.getD i 0
    · rw [if_pos hc] at hx; exact ⟨hc, hx⟩
    · rw [if_neg hc] at hx; cases hx
  refine z_callSi (pc := 12) (As := [.ref (adV i), .int k]) (S := []) (c_strat1 hZ hi k μ) (z_chk_in hc) zw_J1_charAt_3b067 zs_J1_charAt_3b067 zm_J0_495 (n := 2) (by decide) rfl rfl (Nat.le_of_ble_eq_true rfl) (by decide) (by decide) dJ0_charAt_5068e_12 ?_
  exact z_cret (pc := 15) rfl rfl dJ0_charAt_5068e_15)
def z_slen (i : Nat) (μ : z_M) : Int32 := Int32.ofNat (z_len.getD i 0) >>> ((0 : Int32) &&& 31)
def z_sch (i : Nat) (k : Int32) (μ : z_M) : Option (Int32 × z_M) := z_chk k (z_len.getD i 0) (some (z_ch (z_byte i (z_ix k)), μ))
theorem c_slen {E : z_E z_M} {adK adV : Nat → Nat} {w : Option Nat} (hZ : ∀ s H, E.2.1 s H → z_ZS adK adV w E.2.2 s H) {i : Nat} (hi : i < 5) (μ : z_M) : z_S E 1 yJ0_length_8abf5 cJ0_length_8abf5 1 (some .int) z_ei [.ref (adK i)] μ (z_oP μ (z_slen i μ)) := c_strlen hZ hi μ
theorem c_sch {E : z_E z_M} {adK adV : Nat → Nat} {w : Option Nat} (hZ : ∀ s H, E.2.1 s H → z_ZS adK adV w E.2.2 s H) {i : Nat} (hi : i < 5) (k : Int32) (μ : z_M) : z_S E 3 yJ0_charAt_5068e cJ0_charAt_5068e 2 (some .char) z_ei [.ref (adK i), .int k] μ (z_sch i k μ) := c_strat hZ hi k μ
/-- the model's words: its static tables -/
def z_ZM (tA : Nat → Nat) (A : Nat → Prop) (s : State) (H : Heap) : Prop :=
  (va_Z RX9 "HOUSE_WORD" "[I" (.ref (tA 0)) A s H ∧ va_Z RX9 "WAY_WORD" "[I" (.ref (tA 1)) A s H ∧ va_Z RX9 "SHUT_WORD" "[I" (.ref (tA 2)) A s H ∧ va_Z RX9 "LAG_WORD" "[I" (.ref (tA 3)) A s H ∧ va_Z RX9 "BIRD_WORD" "[I" (.ref (tA 4)) A s H) ∧ ∀ k, k < 5 → va_T .int (tA k) (z_len.getD k 0) (fun j => .int (z_byte k j)) A s H
