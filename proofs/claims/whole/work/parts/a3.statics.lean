/-! what the statics hold -/
def z_tm (i : Nat) : Term := .string RX3 (([91, 111, 122, 131, 136] : List Nat).getD i 0)
def z_tn (i : Nat) : Term := .static RX9 ((["HOUSE_WORD", "WAY_WORD", "SHUT_WORD", "LAG_WORD", "BIRD_WORD"] : List String).getD i "") "[I"
def z_pre : Cond := Jvm.Cond.and given_1 narrow_1
theorem zq_ex_0 : Cond.exactly (z_tm 0) "java/lang/String" ∈ flatC z_pre := by decide +kernel
theorem zq_co_0 : Cond.eq (.field (z_tm 0) "java/lang/String" "coder" "B") (.int 0) ∈ flatC z_pre := by decide +kernel
theorem zq_ar_0 : Cond.arrayOf (.field (z_tm 0) "java/lang/String" "value" "[B") .byte ∈ flatC z_pre := by decide +kernel
theorem zq_le_0 : Cond.eq (.length (.field (z_tm 0) "java/lang/String" "value" "[B")) (.int (Int32.ofNat (z_len.getD 0 0))) ∈ flatC z_pre := by decide +kernel
theorem zq_el_0_0 : Cond.eq (.elem (.field (z_tm 0) "java/lang/String" "value" "[B") (.int (Int32.ofNat 0))) (.int ((z_byt.getD 0 []).getD 0 0)) ∈ flatC z_pre := by decide +kernel
theorem zq_tl_0_0 : Cond.eq (.elem (z_tn 0) (.int (Int32.ofNat 0))) (.int (z_byte 0 0)) ∈ flatC z_pre := by decide +kernel
theorem zq_el_0_1 : Cond.eq (.elem (.field (z_tm 0) "java/lang/String" "value" "[B") (.int (Int32.ofNat 1))) (.int ((z_byt.getD 0 []).getD 1 0)) ∈ flatC z_pre := by decide +kernel
theorem zq_tl_0_1 : Cond.eq (.elem (z_tn 0) (.int (Int32.ofNat 1))) (.int (z_byte 0 1)) ∈ flatC z_pre := by decide +kernel
theorem zq_el_0_2 : Cond.eq (.elem (.field (z_tm 0) "java/lang/String" "value" "[B") (.int (Int32.ofNat 2))) (.int ((z_byt.getD 0 []).getD 2 0)) ∈ flatC z_pre := by decide +kernel
theorem zq_tl_0_2 : Cond.eq (.elem (z_tn 0) (.int (Int32.ofNat 2))) (.int (z_byte 0 2)) ∈ flatC z_pre := by decide +kernel
theorem zq_el_0_3 : Cond.eq (.elem (.field (z_tm 0) "java/lang/String" "value" "[B") (.int (Int32.ofNat 3))) (.int ((z_byt.getD 0 []).getD 3 0)) ∈ flatC z_pre := by decide +kernel
theorem zq_tl_0_3 : Cond.eq (.elem (z_tn 0) (.int (Int32.ofNat 3))) (.int (z_byte 0 3)) ∈ flatC z_pre := by decide +kernel
theorem zq_el_0_4 : Cond.eq (.elem (.field (z_tm 0) "java/lang/String" "value" "[B") (.int (Int32.ofNat 4))) (.int ((z_byt.getD 0 []).getD 4 0)) ∈ flatC z_pre := by decide +kernel
theorem zq_tl_0_4 : Cond.eq (.elem (z_tn 0) (.int (Int32.ofNat 4))) (.int (z_byte 0 4)) ∈ flatC z_pre := by decide +kernel
theorem zq_ta_0 : Cond.arrayOf (z_tn 0) .int ∈ flatC z_pre := by decide +kernel
theorem zq_tn_0 : Cond.eq (.length (z_tn 0)) (.int (Int32.ofNat (z_len.getD 0 0))) ∈ flatC z_pre := by decide +kernel
theorem zq_ne_0_1 : Cond.not (Cond.eq (z_tm 0) (z_tm 1)) ∈ flatC z_pre := by decide +kernel
theorem zq_ne_0_2 : Cond.not (Cond.eq (z_tm 0) (z_tm 2)) ∈ flatC z_pre := by decide +kernel
theorem zq_ne_0_3 : Cond.not (Cond.eq (z_tm 0) (z_tm 3)) ∈ flatC z_pre := by decide +kernel
theorem zq_ne_0_4 : Cond.not (Cond.eq (z_tm 0) (z_tm 4)) ∈ flatC z_pre := by decide +kernel
theorem zq_ex_1 : Cond.exactly (z_tm 1) "java/lang/String" ∈ flatC z_pre := by decide +kernel
theorem zq_co_1 : Cond.eq (.field (z_tm 1) "java/lang/String" "coder" "B") (.int 0) ∈ flatC z_pre := by decide +kernel
theorem zq_ar_1 : Cond.arrayOf (.field (z_tm 1) "java/lang/String" "value" "[B") .byte ∈ flatC z_pre := by decide +kernel
theorem zq_le_1 : Cond.eq (.length (.field (z_tm 1) "java/lang/String" "value" "[B")) (.int (Int32.ofNat (z_len.getD 1 0))) ∈ flatC z_pre := by decide +kernel
theorem zq_el_1_0 : Cond.eq (.elem (.field (z_tm 1) "java/lang/String" "value" "[B") (.int (Int32.ofNat 0))) (.int ((z_byt.getD 1 []).getD 0 0)) ∈ flatC z_pre := by decide +kernel
theorem zq_tl_1_0 : Cond.eq (.elem (z_tn 1) (.int (Int32.ofNat 0))) (.int (z_byte 1 0)) ∈ flatC z_pre := by decide +kernel
theorem zq_el_1_1 : Cond.eq (.elem (.field (z_tm 1) "java/lang/String" "value" "[B") (.int (Int32.ofNat 1))) (.int ((z_byt.getD 1 []).getD 1 0)) ∈ flatC z_pre := by decide +kernel
theorem zq_tl_1_1 : Cond.eq (.elem (z_tn 1) (.int (Int32.ofNat 1))) (.int (z_byte 1 1)) ∈ flatC z_pre := by decide +kernel
theorem zq_el_1_2 : Cond.eq (.elem (.field (z_tm 1) "java/lang/String" "value" "[B") (.int (Int32.ofNat 2))) (.int ((z_byt.getD 1 []).getD 2 0)) ∈ flatC z_pre := by decide +kernel
theorem zq_tl_1_2 : Cond.eq (.elem (z_tn 1) (.int (Int32.ofNat 2))) (.int (z_byte 1 2)) ∈ flatC z_pre := by decide +kernel
theorem zq_ta_1 : Cond.arrayOf (z_tn 1) .int ∈ flatC z_pre := by decide +kernel
theorem zq_tn_1 : Cond.eq (.length (z_tn 1)) (.int (Int32.ofNat (z_len.getD 1 0))) ∈ flatC z_pre := by decide +kernel
theorem zq_ne_1_2 : Cond.not (Cond.eq (z_tm 1) (z_tm 2)) ∈ flatC z_pre := by decide +kernel
theorem zq_ne_1_3 : Cond.not (Cond.eq (z_tm 1) (z_tm 3)) ∈ flatC z_pre := by decide +kernel
theorem zq_ne_1_4 : Cond.not (Cond.eq (z_tm 1) (z_tm 4)) ∈ flatC z_pre := by decide +kernel
theorem zq_ex_2 : Cond.exactly (z_tm 2) "java/lang/String" ∈ flatC z_pre := by decide +kernel
theorem zq_co_2 : Cond.eq (.field (z_tm 2) "java/lang/String" "coder" "B") (.int 0) ∈ flatC z_pre := by decide +kernel
theorem zq_ar_2 : Cond.arrayOf (.field (z_tm 2) "java/lang/String" "value" "[B") .byte ∈ flatC z_pre := by decide +kernel
theorem zq_le_2 : Cond.eq (.length (.field (z_tm 2) "java/lang/String" "value" "[B")) (.int (Int32.ofNat (z_len.getD 2 0))) ∈ flatC z_pre := by decide +kernel
theorem zq_el_2_0 : Cond.eq (.elem (.field (z_tm 2) "java/lang/String" "value" "[B") (.int (Int32.ofNat 0))) (.int ((z_byt.getD 2 []).getD 0 0)) ∈ flatC z_pre := by decide +kernel
theorem zq_tl_2_0 : Cond.eq (.elem (z_tn 2) (.int (Int32.ofNat 0))) (.int (z_byte 2 0)) ∈ flatC z_pre := by decide +kernel
theorem zq_el_2_1 : Cond.eq (.elem (.field (z_tm 2) "java/lang/String" "value" "[B") (.int (Int32.ofNat 1))) (.int ((z_byt.getD 2 []).getD 1 0)) ∈ flatC z_pre := by decide +kernel
theorem zq_tl_2_1 : Cond.eq (.elem (z_tn 2) (.int (Int32.ofNat 1))) (.int (z_byte 2 1)) ∈ flatC z_pre := by decide +kernel
theorem zq_el_2_2 : Cond.eq (.elem (.field (z_tm 2) "java/lang/String" "value" "[B") (.int (Int32.ofNat 2))) (.int ((z_byt.getD 2 []).getD 2 0)) ∈ flatC z_pre := by decide +kernel
theorem zq_tl_2_2 : Cond.eq (.elem (z_tn 2) (.int (Int32.ofNat 2))) (.int (z_byte 2 2)) ∈ flatC z_pre := by decide +kernel
theorem zq_el_2_3 : Cond.eq (.elem (.field (z_tm 2) "java/lang/String" "value" "[B") (.int (Int32.ofNat 3))) (.int ((z_byt.getD 2 []).getD 3 0)) ∈ flatC z_pre := by decide +kernel
theorem zq_tl_2_3 : Cond.eq (.elem (z_tn 2) (.int (Int32.ofNat 3))) (.int (z_byte 2 3)) ∈ flatC z_pre := by decide +kernel
theorem zq_ta_2 : Cond.arrayOf (z_tn 2) .int ∈ flatC z_pre := by decide +kernel
theorem zq_tn_2 : Cond.eq (.length (z_tn 2)) (.int (Int32.ofNat (z_len.getD 2 0))) ∈ flatC z_pre := by decide +kernel
theorem zq_ne_2_3 : Cond.not (Cond.eq (z_tm 2) (z_tm 3)) ∈ flatC z_pre := by decide +kernel
theorem zq_ne_2_4 : Cond.not (Cond.eq (z_tm 2) (z_tm 4)) ∈ flatC z_pre := by decide +kernel
theorem zq_ex_3 : Cond.exactly (z_tm 3) "java/lang/String" ∈ flatC z_pre := by decide +kernel
theorem zq_co_3 : Cond.eq (.field (z_tm 3) "java/lang/String" "coder" "B") (.int 0) ∈ flatC z_pre := by decide +kernel
theorem zq_ar_3 : Cond.arrayOf (.field (z_tm 3) "java/lang/String" "value" "[B") .byte ∈ flatC z_pre := by decide +kernel
theorem zq_le_3 : Cond.eq (.length (.field (z_tm 3) "java/lang/String" "value" "[B")) (.int (Int32.ofNat (z_len.getD 3 0))) ∈ flatC z_pre := by decide +kernel
theorem zq_el_3_0 : Cond.eq (.elem (.field (z_tm 3) "java/lang/String" "value" "[B") (.int (Int32.ofNat 0))) (.int ((z_byt.getD 3 []).getD 0 0)) ∈ flatC z_pre := by decide +kernel
theorem zq_tl_3_0 : Cond.eq (.elem (z_tn 3) (.int (Int32.ofNat 0))) (.int (z_byte 3 0)) ∈ flatC z_pre := by decide +kernel
theorem zq_el_3_1 : Cond.eq (.elem (.field (z_tm 3) "java/lang/String" "value" "[B") (.int (Int32.ofNat 1))) (.int ((z_byt.getD 3 []).getD 1 0)) ∈ flatC z_pre := by decide +kernel
theorem zq_tl_3_1 : Cond.eq (.elem (z_tn 3) (.int (Int32.ofNat 1))) (.int (z_byte 3 1)) ∈ flatC z_pre := by decide +kernel
theorem zq_el_3_2 : Cond.eq (.elem (.field (z_tm 3) "java/lang/String" "value" "[B") (.int (Int32.ofNat 2))) (.int ((z_byt.getD 3 []).getD 2 0)) ∈ flatC z_pre := by decide +kernel
theorem zq_tl_3_2 : Cond.eq (.elem (z_tn 3) (.int (Int32.ofNat 2))) (.int (z_byte 3 2)) ∈ flatC z_pre := by decide +kernel
theorem zq_ta_3 : Cond.arrayOf (z_tn 3) .int ∈ flatC z_pre := by decide +kernel
theorem zq_tn_3 : Cond.eq (.length (z_tn 3)) (.int (Int32.ofNat (z_len.getD 3 0))) ∈ flatC z_pre := by decide +kernel
theorem zq_ne_3_4 : Cond.not (Cond.eq (z_tm 3) (z_tm 4)) ∈ flatC z_pre := by decide +kernel
theorem zq_ex_4 : Cond.exactly (z_tm 4) "java/lang/String" ∈ flatC z_pre := by decide +kernel
theorem zq_co_4 : Cond.eq (.field (z_tm 4) "java/lang/String" "coder" "B") (.int 0) ∈ flatC z_pre := by decide +kernel
theorem zq_ar_4 : Cond.arrayOf (.field (z_tm 4) "java/lang/String" "value" "[B") .byte ∈ flatC z_pre := by decide +kernel
theorem zq_le_4 : Cond.eq (.length (.field (z_tm 4) "java/lang/String" "value" "[B")) (.int (Int32.ofNat (z_len.getD 4 0))) ∈ flatC z_pre := by decide +kernel
theorem zq_el_4_0 : Cond.eq (.elem (.field (z_tm 4) "java/lang/String" "value" "[B") (.int (Int32.ofNat 0))) (.int ((z_byt.getD 4 []).getD 0 0)) ∈ flatC z_pre := by decide +kernel
theorem zq_tl_4_0 : Cond.eq (.elem (z_tn 4) (.int (Int32.ofNat 0))) (.int (z_byte 4 0)) ∈ flatC z_pre := by decide +kernel
theorem zq_el_4_1 : Cond.eq (.elem (.field (z_tm 4) "java/lang/String" "value" "[B") (.int (Int32.ofNat 1))) (.int ((z_byt.getD 4 []).getD 1 0)) ∈ flatC z_pre := by decide +kernel
theorem zq_tl_4_1 : Cond.eq (.elem (z_tn 4) (.int (Int32.ofNat 1))) (.int (z_byte 4 1)) ∈ flatC z_pre := by decide +kernel
theorem zq_el_4_2 : Cond.eq (.elem (.field (z_tm 4) "java/lang/String" "value" "[B") (.int (Int32.ofNat 2))) (.int ((z_byt.getD 4 []).getD 2 0)) ∈ flatC z_pre := by decide +kernel
theorem zq_tl_4_2 : Cond.eq (.elem (z_tn 4) (.int (Int32.ofNat 2))) (.int (z_byte 4 2)) ∈ flatC z_pre := by decide +kernel
theorem zq_el_4_3 : Cond.eq (.elem (.field (z_tm 4) "java/lang/String" "value" "[B") (.int (Int32.ofNat 3))) (.int ((z_byt.getD 4 []).getD 3 0)) ∈ flatC z_pre := by decide +kernel
theorem zq_tl_4_3 : Cond.eq (.elem (z_tn 4) (.int (Int32.ofNat 3))) (.int (z_byte 4 3)) ∈ flatC z_pre := by decide +kernel
theorem zq_ta_4 : Cond.arrayOf (z_tn 4) .int ∈ flatC z_pre := by decide +kernel
theorem zq_tn_4 : Cond.eq (.length (z_tn 4)) (.int (Int32.ofNat (z_len.getD 4 0))) ∈ flatC z_pre := by decide +kernel
theorem zq_cs : Cond.eq (.static "java/lang/String" "COMPACT_STRINGS" "Z") (.int 1) ∈ flatC z_pre := by decide +kernel
theorem zq_sf : Cond.isRef (.static "jdk/internal/util/Preconditions" "SIOOBE_FORMATTER" "Ljava/util/function/BiFunction;") ∈ flatC z_pre := by decide +kernel
theorem zr_0 : Cond.stringRef RX3 91 "house" ∈ lw_tbl := List.mem_of_getElem? (i := 610) (by decide +kernel)
theorem zls_0 : Cond.laysStatic RX9 "HOUSE_WORD" "[I" ∈ lw_tbl := List.mem_of_getElem? (i := 1462) (by decide +kernel)
theorem zr_1 : Cond.stringRef RX3 111 "way" ∈ lw_tbl := List.mem_of_getElem? (i := 685) (by decide +kernel)
theorem zls_1 : Cond.laysStatic RX9 "WAY_WORD" "[I" ∈ lw_tbl := List.mem_of_getElem? (i := 1480) (by decide +kernel)
theorem zr_2 : Cond.stringRef RX3 122 "shut" ∈ lw_tbl := List.mem_of_getElem? (i := 696) (by decide +kernel)
theorem zls_2 : Cond.laysStatic RX9 "SHUT_WORD" "[I" ∈ lw_tbl := List.mem_of_getElem? (i := 1482) (by decide +kernel)
theorem zr_3 : Cond.stringRef RX3 131 "lag" ∈ lw_tbl := List.mem_of_getElem? (i := 706) (by decide +kernel)
theorem zls_3 : Cond.laysStatic RX9 "LAG_WORD" "[I" ∈ lw_tbl := List.mem_of_getElem? (i := 1484) (by decide +kernel)
theorem zr_4 : Cond.stringRef RX3 136 "bird" ∈ lw_tbl := List.mem_of_getElem? (i := 712) (by decide +kernel)
theorem zls_4 : Cond.laysStatic RX9 "BIRD_WORD" "[I" ∈ lw_tbl := List.mem_of_getElem? (i := 1486) (by decide +kernel)
theorem zls_cs : Cond.laysStatic "java/lang/String" "COMPACT_STRINGS" "Z" ∈ lw_tbl := List.mem_of_getElem? (i := 629) (by decide +kernel)
theorem zls_sf : Cond.laysStatic "jdk/internal/util/Preconditions" "SIOOBE_FORMATTER" "Ljava/util/function/BiFunction;" ∈ lw_tbl := List.mem_of_getElem? (i := 645) (by decide +kernel)
theorem zlz_s : Cond.initialized "java/lang/String" ∈ lw_tbl := List.mem_of_getElem? (i := 102) (by decide +kernel)
theorem zlz_p : Cond.initialized "jdk/internal/util/Preconditions" ∈ lw_tbl := List.mem_of_getElem? (i := 104) (by decide +kernel)
theorem zlz_m : Cond.initialized RX9 ∈ lw_tbl := List.mem_of_getElem? (i := 98) (by decide +kernel)
theorem z_five {P : Nat → Prop} (h0 : P 0) (h1 : P 1) (h2 : P 2) (h3 : P 3) (h4 : P 4) : ∀ i, i < 5 → P i := by
  intro i hi
  rcases (show i = 0 ∨ i = 1 ∨ i = 2 ∨ i = 3 ∨ i = 4 by omega) with rfl | rfl | rfl | rfl | rfl
  · exact h0
  · exact h1
  · exact h2
  · exact h3
  · exact h4
theorem z_upto {P : Nat → Prop} {n : Nat} (l : List Nat) (hl : ∀ j ∈ l, P j) (h : ∀ j, j < n → j ∈ l) : ∀ j, j < n → P j := fun j hj => hl j (h j hj)
section ZST
variable {args : Array Value} {s : State}
theorem zq_el : ∀ i, i < 5 → ∀ j, j < z_len.getD i 0 → Cond.eq (.elem (.field (z_tm i) "java/lang/String" "value" "[B") (.int (Int32.ofNat j))) (.int ((z_byt.getD i []).getD j 0)) ∈ flatC z_pre := by
  refine z_five ?_ ?_ ?_ ?_ ?_
  · exact fun j hj => by
      rcases (show j = 0 ∨ j = 1 ∨ j = 2 ∨ j = 3 ∨ j = 4 by have h : z_len.getD 0 0 = 5 := rfl; omega) with rfl | rfl | rfl | rfl | rfl
      · exact zq_el_0_0
      · exact zq_el_0_1
      · exact zq_el_0_2
      · exact zq_el_0_3
      · exact zq_el_0_4
  · exact fun j hj => by
      rcases (show j = 0 ∨ j = 1 ∨ j = 2 by have h : z_len.getD 1 0 = 3 := rfl; omega) with rfl | rfl | rfl
      · exact zq_el_1_0
      · exact zq_el_1_1
      · exact zq_el_1_2
  · exact fun j hj => by
      rcases (show j = 0 ∨ j = 1 ∨ j = 2 ∨ j = 3 by have h : z_len.getD 2 0 = 4 := rfl; omega) with rfl | rfl | rfl | rfl
      · exact zq_el_2_0
      · exact zq_el_2_1
      · exact zq_el_2_2
      · exact zq_el_2_3
  · exact fun j hj => by
      rcases (show j = 0 ∨ j = 1 ∨ j = 2 by have h : z_len.getD 3 0 = 3 := rfl; omega) with rfl | rfl | rfl
      · exact zq_el_3_0
      · exact zq_el_3_1
      · exact zq_el_3_2
  · exact fun j hj => by
      rcases (show j = 0 ∨ j = 1 ∨ j = 2 ∨ j = 3 by have h : z_len.getD 4 0 = 4 := rfl; omega) with rfl | rfl | rfl | rfl
      · exact zq_el_4_0
      · exact zq_el_4_1
      · exact zq_el_4_2
      · exact zq_el_4_3
theorem zq_tl : ∀ i, i < 5 → ∀ j, j < z_len.getD i 0 → Cond.eq (.elem (z_tn i) (.int (Int32.ofNat j))) (.int (z_byte i j)) ∈ flatC z_pre := by
  refine z_five ?_ ?_ ?_ ?_ ?_
  · exact fun j hj => by
      rcases (show j = 0 ∨ j = 1 ∨ j = 2 ∨ j = 3 ∨ j = 4 by have h : z_len.getD 0 0 = 5 := rfl; omega) with rfl | rfl | rfl | rfl | rfl
      · exact zq_tl_0_0
      · exact zq_tl_0_1
      · exact zq_tl_0_2
      · exact zq_tl_0_3
      · exact zq_tl_0_4
  · exact fun j hj => by
      rcases (show j = 0 ∨ j = 1 ∨ j = 2 by have h : z_len.getD 1 0 = 3 := rfl; omega) with rfl | rfl | rfl
      · exact zq_tl_1_0
      · exact zq_tl_1_1
      · exact zq_tl_1_2
  · exact fun j hj => by
      rcases (show j = 0 ∨ j = 1 ∨ j = 2 ∨ j = 3 by have h : z_len.getD 2 0 = 4 := rfl; omega) with rfl | rfl | rfl | rfl
      · exact zq_tl_2_0
      · exact zq_tl_2_1
      · exact zq_tl_2_2
      · exact zq_tl_2_3
  · exact fun j hj => by
      rcases (show j = 0 ∨ j = 1 ∨ j = 2 by have h : z_len.getD 3 0 = 3 := rfl; omega) with rfl | rfl | rfl
      · exact zq_tl_3_0
      · exact zq_tl_3_1
      · exact zq_tl_3_2
  · exact fun j hj => by
      rcases (show j = 0 ∨ j = 1 ∨ j = 2 ∨ j = 3 by have h : z_len.getD 4 0 = 4 := rfl; omega) with rfl | rfl | rfl | rfl
      · exact zq_tl_4_0
      · exact zq_tl_4_1
      · exact zq_tl_4_2
      · exact zq_tl_4_3
theorem zq_ne : ∀ i, i < 5 → ∀ j, j < 5 → i ≠ j → (Cond.not (Cond.eq (z_tm i) (z_tm j)) ∈ flatC z_pre ∨ Cond.not (Cond.eq (z_tm j) (z_tm i)) ∈ flatC z_pre) :=
  z_five (z_five (fun h => absurd rfl h) (fun _ => Or.inl zq_ne_0_1) (fun _ => Or.inl zq_ne_0_2) (fun _ => Or.inl zq_ne_0_3) (fun _ => Or.inl zq_ne_0_4)) (z_five (fun _ => Or.inr zq_ne_0_1) (fun h => absurd rfl h) (fun _ => Or.inl zq_ne_1_2) (fun _ => Or.inl zq_ne_1_3) (fun _ => Or.inl zq_ne_1_4)) (z_five (fun _ => Or.inr zq_ne_0_2) (fun _ => Or.inr zq_ne_1_2) (fun h => absurd rfl h) (fun _ => Or.inl zq_ne_2_3) (fun _ => Or.inl zq_ne_2_4)) (z_five (fun _ => Or.inr zq_ne_0_3) (fun _ => Or.inr zq_ne_1_3) (fun _ => Or.inr zq_ne_2_3) (fun h => absurd rfl h) (fun _ => Or.inl zq_ne_3_4)) (z_five (fun _ => Or.inr zq_ne_0_4) (fun _ => Or.inr zq_ne_1_4) (fun _ => Or.inr zq_ne_2_4) (fun _ => Or.inr zq_ne_3_4) (fun h => absurd rfl h))
theorem zs_strings (h : z_pre.before args s = true) (hts : ∀ w ∈ lw_tbl, w.before args s = true) {A : Nat → Prop} (hA : ∀ a : Nat, a < s.heap.size → ¬ A a) : ∃ (adK adV : Nat → Nat) (w : Option Nat), z_ZS adK adV w A s s.heap := by
  have hs := flat_of_before _ h
  obtain ⟨adK, adV, h1, h2⟩ := vk_Sof (args := args) (s := s) (N := 5) (tm := z_tm) (len := z_len) (byt := z_byt) (A := A) (by decide)
    (fun i hi => hs _ (z_five (P := fun i => Cond.exactly (z_tm i) "java/lang/String" ∈ flatC z_pre) zq_ex_0 zq_ex_1 zq_ex_2 zq_ex_3 zq_ex_4 i hi))
    (fun i hi => hs _ (z_five (P := fun i => Cond.eq (.field (z_tm i) "java/lang/String" "coder" "B") (.int 0) ∈ flatC z_pre) zq_co_0 zq_co_1 zq_co_2 zq_co_3 zq_co_4 i hi))
    (fun i hi => hs _ (z_five (P := fun i => Cond.arrayOf (.field (z_tm i) "java/lang/String" "value" "[B") .byte ∈ flatC z_pre) zq_ar_0 zq_ar_1 zq_ar_2 zq_ar_3 zq_ar_4 i hi))
    (fun i hi => hs _ (z_five (P := fun i => Cond.eq (.length (.field (z_tm i) "java/lang/String" "value" "[B")) (.int (Int32.ofNat (z_len.getD i 0))) ∈ flatC z_pre) zq_le_0 zq_le_1 zq_le_2 zq_le_3 zq_le_4 i hi))
    (fun i hi j hj => hs _ (zq_el i hi j hj))
    (fun i j hi hj hne => (zq_ne i hi j hj hne).imp (hs _) (hs _)) hA
  have hr : ∀ i k tx, i < 5 → z_tm i = .string RX3 k → Cond.stringRef RX3 k tx ∈ lw_tbl → vk_R RX3 k tx (adK i) s := fun i k tx hi e hw => vk_R.of (hts _ hw) (by rw [← e]; exact h2 i hi)
  have hq := va_Zqof (args := args) (A := A) (hts _ zls_sf) (hts _ zlz_p) (hs _ zq_sf) hA
  have hc := va_Zof (args := args) (A := A) (hts _ zls_cs) (hts _ zlz_s) (va_eqi (hs _ zq_cs)) hA
  have hR : vk_R RX3 91 "house" (adK 0) s ∧ vk_R RX3 111 "way" (adK 1) s ∧ vk_R RX3 122 "shut" (adK 2) s ∧ vk_R RX3 131 "lag" (adK 3) s ∧ vk_R RX3 136 "bird" (adK 4) s := ⟨hr 0 91 _ (by omega) rfl zr_0, hr 1 111 _ (by omega) rfl zr_1, hr 2 122 _ (by omega) rfl zr_2, hr 3 131 _ (by omega) rfl zr_3, hr 4 136 _ (by omega) rfl zr_4⟩
  rcases hq with hq | ⟨t, hq⟩
  · exact ⟨adK, adV, none, h1, hR, hc, hq⟩
  · exact ⟨adK, adV, some t, h1, hR, hc, hq⟩
theorem zs_words (h : z_pre.before args s = true) (hts : ∀ w ∈ lw_tbl, w.before args s = true) {A : Nat → Prop} (hA : ∀ a : Nat, a < s.heap.size → ¬ A a) : ∃ tA : Nat → Nat, z_ZM tA A s s.heap := by
  have hs := flat_of_before _ h
  have key : ∀ i, ∃ t : Nat, i < 5 → (z_tn i).eval args s none [] s = some (.ref t) ∧ va_T .int t (z_len.getD i 0) (fun j => .int (z_byte i j)) A s s.heap := by
    intro i
    by_cases hi : i < 5
    · obtain ⟨t, h1, h2⟩ := va_Tof (args := args) (s := s) (tm := z_tn i) (ty := .int) (N := z_len.getD i 0) (f := fun j => .int (z_byte i j)) (A := A)
        (z_five (P := fun i => z_len.getD i 0 < 2 ^ 31) (by decide) (by decide) (by decide) (by decide) (by decide) i hi)
        (hs _ (z_five (P := fun i => Cond.arrayOf (z_tn i) .int ∈ flatC z_pre) zq_ta_0 zq_ta_1 zq_ta_2 zq_ta_3 zq_ta_4 i hi))
        (va_eqt (hs _ (z_five (P := fun i => Cond.eq (.length (z_tn i)) (.int (Int32.ofNat (z_len.getD i 0))) ∈ flatC z_pre) zq_tn_0 zq_tn_1 zq_tn_2 zq_tn_3 zq_tn_4 i hi)))
        (fun j hj => va_eqt (hs _ (zq_tl i hi j hj))) hA
      exact ⟨t, fun _ => ⟨h1, h2⟩⟩
    · exact ⟨0, fun h => absurd h hi⟩
  obtain ⟨tA, hT⟩ := Classical.axiomOfChoice key
  refine ⟨tA, ⟨va_Zref (args := args) (hts _ zls_0) (hts _ zlz_m) (hT 0 (by omega)).1 hA, va_Zref (args := args) (hts _ zls_1) (hts _ zlz_m) (hT 1 (by omega)).1 hA, va_Zref (args := args) (hts _ zls_2) (hts _ zlz_m) (hT 2 (by omega)).1 hA, va_Zref (args := args) (hts _ zls_3) (hts _ zlz_m) (hT 3 (by omega)).1 hA, va_Zref (args := args) (hts _ zls_4) (hts _ zlz_m) (hT 4 (by omega)).1 hA⟩, fun k hk => (hT k hk).2⟩
end ZST
theorem z_ZS.moved {adK adV : Nat → Nat} {w : Option Nat} {A : Nat → Prop} {s U : State} {H : Heap} (hW : s.WarmedH U.vm) (h : z_ZS adK adV w A s H) : z_ZS adK adV w A U H := by
  obtain ⟨h1, ⟨r0, r1, r2, r3, r4⟩, h3, h4⟩ := h
  exact ⟨h1.moved hW.alike, ⟨r0.warm hW, r1.warm hW, r2.warm hW, r3.warm hW, r4.warm hW⟩, h3.moved hW.alike, h4.moved hW.alike⟩
theorem z_ZS.same {adK adV : Nat → Nat} {w : Option Nat} {A : Nat → Prop} {u U : State} {H : Heap} (hv : U.vm = u.vm) (h : z_ZS adK adV w A u H) : z_ZS adK adV w A U H := by
  obtain ⟨h1, ⟨r0, r1, r2, r3, r4⟩, h3, h4⟩ := h
  have ha : u.vm.Alike U.vm := by rw [hv]; exact Vm.Alike.refl _
  exact ⟨h1.moved ha, ⟨r0.same hv, r1.same hv, r2.same hv, r3.same hv, r4.same hv⟩, h3.moved ha, h4.moved ha⟩
theorem z_ZS.kept {adK adV : Nat → Nat} {w : Option Nat} {A : Nat → Prop} {U : State} {H H1 : Heap} (h : z_ZS adK adV w A U H) (hq : ∀ a : Nat, a < H.size → ¬ A a → H1[a]? = H[a]?) : z_ZS adK adV w A U H1 :=
  ⟨h.1.kept hq, h.2.1, h.2.2.1.kept hq, h.2.2.2.kept hq⟩
theorem z_ZS.narrow {adK adV : Nat → Nat} {w : Option Nat} {A B : Nat → Prop} {U : State} {H : Heap} (h : z_ZS adK adV w A U H) (hAB : ∀ q, B q → A q) : z_ZS adK adV w B U H :=
  ⟨h.1.narrow hAB, h.2.1, h.2.2.1.narrow hAB, h.2.2.2.narrow hAB⟩
theorem z_ZM.moved {tA : Nat → Nat} {A : Nat → Prop} {u U : State} {H : Heap} (ha : u.vm.Alike U.vm) (h : z_ZM tA A u H) : z_ZM tA A U H :=
  ⟨⟨h.1.1.moved ha, h.1.2.1.moved ha, h.1.2.2.1.moved ha, h.1.2.2.2.1.moved ha, h.1.2.2.2.2.moved ha⟩, fun k hk => (h.2 k hk).moved ha⟩
theorem z_ZM.kept {tA : Nat → Nat} {A : Nat → Prop} {U : State} {H H1 : Heap} (h : z_ZM tA A U H) (hq : ∀ a : Nat, a < H.size → ¬ A a → H1[a]? = H[a]?) : z_ZM tA A U H1 :=
  ⟨⟨h.1.1.kept hq, h.1.2.1.kept hq, h.1.2.2.1.kept hq, h.1.2.2.2.1.kept hq, h.1.2.2.2.2.kept hq⟩, fun k hk => (h.2 k hk).kept hq⟩
theorem z_ZM.narrow {tA : Nat → Nat} {A B : Nat → Prop} {U : State} {H : Heap} (h : z_ZM tA A U H) (hAB : ∀ q, B q → A q) : z_ZM tA B U H :=
  ⟨⟨h.1.1.narrow hAB, h.1.2.1.narrow hAB, h.1.2.2.1.narrow hAB, h.1.2.2.2.1.narrow hAB, h.1.2.2.2.2.narrow hAB⟩, fun k hk => (h.2 k hk).narrow hAB⟩
theorem z_ZSok {adK adV : Nat → Nat} {w : Option Nat} {A : Nat → Prop} : z_ZOK (fun s H => z_ZS adK adV w A s H) A := ⟨fun _ _ _ hW h => h.moved hW, fun _ _ _ hv h => h.same hv, fun _ _ _ hz hq h => h.kept hq⟩
theorem z_ZMok {tA : Nat → Nat} {A : Nat → Prop} : z_ZOK (fun s H => z_ZM tA A s H) A := ⟨fun _ _ _ hW h => h.moved hW.alike, fun u U _ hv h => h.moved (by rw [hv]; exact Vm.Alike.refl _), fun _ _ _ hz hq h => h.kept hq⟩
