/-! the law's loop -/
theorem and63 (x : Int32) : ∃ k, k < 64 ∧ x &&& 63 = nI k := by
  refine ⟨x.toBitVec.toNat % 64, Nat.mod_lt _ (by decide), ?_⟩
  apply Int32.toBitVec_inj.mp
  apply BitVec.eq_of_toNat_eq
  have h1 : (x &&& 63).toBitVec.toNat = x.toBitVec.toNat &&& 63 := rfl
  have h2 : x.toBitVec.toNat &&& 63 = x.toBitVec.toNat % 64 := Nat.and_two_pow_sub_one_eq_mod x.toBitVec.toNat 6
  have h3 : (nI (x.toBitVec.toNat % 64)).toBitVec.toNat = (x.toBitVec.toNat % 64) % 2 ^ 32 := rfl
  rw [h1, h2, h3]
  have := Nat.mod_lt x.toBitVec.toNat (show 0 < 64 by decide)
  omega
theorem exit_lt {L i : Nat} (hL : L ≤ 3072) (hi : i ≤ L) (h : ¬ i + 6 ≤ L) : nI L - 6 < nI i := by
  by_cases c : 6 ≤ L
  · rw [show (6 : Int32) = nI 6 from rfl, nI_sub c]
    exact nI_lt (by omega) (by omega)
  · have h2 : nI L - 6 < 0 := by
      rcases (show L = 0 ∨ L = 1 ∨ L = 2 ∨ L = 3 ∨ L = 4 ∨ L = 5 by omega) with rfl | rfl | rfl | rfl | rfl | rfl <;> decide
    exact Int32.lt_of_lt_of_le h2 (Int32.not_lt.mp (nI_pos (by omega)))
section QLP
variable {p : Program} {l : Launch} {e : Env} {s : State} {m : MethodId} {below : List Frame} {meth : Method} {c : Code} {Q : State → Prop} {b L : Nat} {xs : Nat → Int32} {D : va_G} {cI cL : ClassId} {adK adV : Nat → Nat} {w : Option Nat} {tA : Nat → Nat}

theorem q_cases {H : Heap} {locs : List Loc} {μ ν : z_M} {ls : Array Slot} (C : q_C p s m c b L xs D cI cL adK adV w tA) (I : q_I s D cI cL μ ν H locs) {i N : Nat} (hi : i + 6 ≤ L) (hN : 0 < N) (hN2 : N ≤ 2 ^ 30) (R : Rr N μ ν) (hl : lv_has ls 4 [(0, .ref b), (1, .ref (s.heap.size + 0)), (2, .ref (s.heap.size + 50 + 0)), (3, .int (nI i))]) (K : ∀ (H1 : Heap) (locs1 : List Loc) (μ1 ν1 : z_M), q_I s D cI cL μ1 ν1 H1 locs1 → Rr (N + 41) μ1 ν1 → W p l e room_1 s m #[Value.ref b] below meth c H1 locs1 77 4398 Q (F0 m 1721 ls [])) (v : Nat) (hv : v < 45) : W p l e room_1 s m #[Value.ref b] below meth c H locs 77 4398 Q (F0 m 33 ls [.int (nI v)]) := by
  have hx := C.1.1
  have hb := C.1.2.1
  match v, hv with
  | 0, _ => exact lv_tableIn hx hb (x := nI 0) (off := 195) (tgt := 228) dL_law_33 (by decide) (by decide) rfl (by decide) (w_L_0 C I hi hN hN2 R hl K)
  | 1, _ => exact lv_tableIn hx hb (x := nI 1) (off := 238) (tgt := 271) dL_law_33 (by decide) (by decide) rfl (by decide) (w_L_1 C I hi hN hN2 R hl K)
  | 2, _ => exact lv_tableIn hx hb (x := nI 2) (off := 311) (tgt := 344) dL_law_33 (by decide) (by decide) rfl (by decide) (w_L_2 C I hi hN hN2 R hl K)
  | 3, _ => exact lv_tableIn hx hb (x := nI 3) (off := 374) (tgt := 407) dL_law_33 (by decide) (by decide) rfl (by decide) (w_L_3 C I hi hN hN2 R hl K)
  | 4, _ => exact lv_tableIn hx hb (x := nI 4) (off := 408) (tgt := 441) dL_law_33 (by decide) (by decide) rfl (by decide) (w_L_4 C I hi hN hN2 R hl K)
  | 5, _ => exact lv_tableIn hx hb (x := nI 5) (off := 441) (tgt := 474) dL_law_33 (by decide) (by decide) rfl (by decide) (w_L_5 C I hi hN hN2 R hl K)
  | 6, _ => exact lv_tableIn hx hb (x := nI 6) (off := 464) (tgt := 497) dL_law_33 (by decide) (by decide) rfl (by decide) (w_L_6 C I hi hN hN2 R hl K)
  | 7, _ => exact lv_tableIn hx hb (x := nI 7) (off := 497) (tgt := 530) dL_law_33 (by decide) (by decide) rfl (by decide) (w_L_7 C I hi hN hN2 R hl K)
  | 8, _ => exact lv_tableIn hx hb (x := nI 8) (off := 540) (tgt := 573) dL_law_33 (by decide) (by decide) rfl (by decide) (w_L_8 C I hi hN hN2 R hl K)
  | 9, _ => exact lv_tableIn hx hb (x := nI 9) (off := 583) (tgt := 616) dL_law_33 (by decide) (by decide) rfl (by decide) (w_L_9 C I hi hN hN2 R hl K)
  | 10, _ => exact lv_tableIn hx hb (x := nI 10) (off := 626) (tgt := 659) dL_law_33 (by decide) (by decide) rfl (by decide) (w_L_10 C I hi hN hN2 R hl K)
  | 11, _ => exact lv_tableIn hx hb (x := nI 11) (off := 675) (tgt := 708) dL_law_33 (by decide) (by decide) rfl (by decide) (w_L_11 C I hi hN hN2 R hl K)
  | 12, _ => exact lv_tableIn hx hb (x := nI 12) (off := 698) (tgt := 731) dL_law_33 (by decide) (by decide) rfl (by decide) (w_L_12 C I hi hN hN2 R hl K)
  | 13, _ => exact lv_tableIn hx hb (x := nI 13) (off := 731) (tgt := 764) dL_law_33 (by decide) (by decide) rfl (by decide) (w_L_13 C I hi hN hN2 R hl K)
  | 14, _ => exact lv_tableIn hx hb (x := nI 14) (off := 764) (tgt := 797) dL_law_33 (by decide) (by decide) rfl (by decide) (w_L_14 C I hi hN hN2 R hl K)
  | 15, _ => exact lv_tableIn hx hb (x := nI 15) (off := 797) (tgt := 830) dL_law_33 (by decide) (by decide) rfl (by decide) (w_L_15 C I hi hN hN2 R hl K)
  | 16, _ => exact lv_tableIn hx hb (x := nI 16) (off := 820) (tgt := 853) dL_law_33 (by decide) (by decide) rfl (by decide) (w_L_16 C I hi hN hN2 R hl K)
  | 17, _ => exact lv_tableIn hx hb (x := nI 17) (off := 833) (tgt := 866) dL_law_33 (by decide) (by decide) rfl (by decide) (w_L_17 C I hi hN hN2 R hl K)
  | 18, _ => exact lv_tableIn hx hb (x := nI 18) (off := 856) (tgt := 889) dL_law_33 (by decide) (by decide) rfl (by decide) (w_L_18 C I hi hN hN2 R hl K)
  | 19, _ => exact lv_tableIn hx hb (x := nI 19) (off := 879) (tgt := 912) dL_law_33 (by decide) (by decide) rfl (by decide) (w_L_19 C I hi hN hN2 R hl K)
  | 20, _ => exact lv_tableIn hx hb (x := nI 20) (off := 892) (tgt := 925) dL_law_33 (by decide) (by decide) rfl (by decide) (w_L_20 C I hi hN hN2 R hl K)
  | 21, _ => exact lv_tableIn hx hb (x := nI 21) (off := 905) (tgt := 938) dL_law_33 (by decide) (by decide) rfl (by decide) (w_L_21 C I hi hN hN2 R hl K)
  | 22, _ => exact lv_tableIn hx hb (x := nI 22) (off := 928) (tgt := 961) dL_law_33 (by decide) (by decide) rfl (by decide) (w_L_22 C I hi hN hN2 R hl K)
  | 23, _ => exact lv_tableIn hx hb (x := nI 23) (off := 961) (tgt := 994) dL_law_33 (by decide) (by decide) rfl (by decide) (w_L_23 C I hi hN hN2 R hl K)
  | 24, _ => exact lv_tableIn hx hb (x := nI 24) (off := 994) (tgt := 1027) dL_law_33 (by decide) (by decide) rfl (by decide) (w_L_24 C I hi hN hN2 R hl K)
  | 25, _ => exact lv_tableIn hx hb (x := nI 25) (off := 1027) (tgt := 1060) dL_law_33 (by decide) (by decide) rfl (by decide) (w_L_25 C I hi hN hN2 R hl K)
  | 26, _ => exact lv_tableIn hx hb (x := nI 26) (off := 1060) (tgt := 1093) dL_law_33 (by decide) (by decide) rfl (by decide) (w_L_26 C I hi hN hN2 R hl K)
  | 27, _ => exact lv_tableIn hx hb (x := nI 27) (off := 1103) (tgt := 1136) dL_law_33 (by decide) (by decide) rfl (by decide) (w_L_27 C I hi hN hN2 R hl K)
  | 28, _ => exact lv_tableIn hx hb (x := nI 28) (off := 1146) (tgt := 1179) dL_law_33 (by decide) (by decide) rfl (by decide) (w_L_28 C I hi hN hN2 R hl K)
  | 29, _ => exact lv_tableIn hx hb (x := nI 29) (off := 1209) (tgt := 1242) dL_law_33 (by decide) (by decide) rfl (by decide) (w_L_29 C I hi hN hN2 R hl K)
  | 30, _ => exact lv_tableIn hx hb (x := nI 30) (off := 1262) (tgt := 1295) dL_law_33 (by decide) (by decide) rfl (by decide) (w_L_30 C I hi hN hN2 R hl K)
  | 31, _ => exact lv_tableIn hx hb (x := nI 31) (off := 1295) (tgt := 1328) dL_law_33 (by decide) (by decide) rfl (by decide) (w_L_31 C I hi hN hN2 R hl K)
  | 32, _ => exact lv_tableIn hx hb (x := nI 32) (off := 1338) (tgt := 1371) dL_law_33 (by decide) (by decide) rfl (by decide) (w_L_32 C I hi hN hN2 R hl K)
  | 33, _ => exact lv_tableIn hx hb (x := nI 33) (off := 1382) (tgt := 1415) dL_law_33 (by decide) (by decide) rfl (by decide) (w_L_33 C I hi hN hN2 R hl K)
  | 34, _ => exact lv_tableIn hx hb (x := nI 34) (off := 1425) (tgt := 1458) dL_law_33 (by decide) (by decide) rfl (by decide) (w_L_34 C I hi hN hN2 R hl K)
  | 35, _ => exact lv_tableIn hx hb (x := nI 35) (off := 1458) (tgt := 1491) dL_law_33 (by decide) (by decide) rfl (by decide) (w_L_35 C I hi hN hN2 R hl K)
  | 36, _ => exact lv_tableIn hx hb (x := nI 36) (off := 1491) (tgt := 1524) dL_law_33 (by decide) (by decide) rfl (by decide) (w_L_36 C I hi hN hN2 R hl K)
  | 37, _ => exact lv_tableIn hx hb (x := nI 37) (off := 1514) (tgt := 1547) dL_law_33 (by decide) (by decide) rfl (by decide) (w_L_37 C I hi hN hN2 R hl K)
  | 38, _ => exact lv_tableIn hx hb (x := nI 38) (off := 1537) (tgt := 1570) dL_law_33 (by decide) (by decide) rfl (by decide) (w_L_38 C I hi hN hN2 R hl K)
  | 39, _ => exact lv_tableIn hx hb (x := nI 39) (off := 1550) (tgt := 1583) dL_law_33 (by decide) (by decide) rfl (by decide) (w_L_39 C I hi hN hN2 R hl K)
  | 40, _ => exact lv_tableIn hx hb (x := nI 40) (off := 1573) (tgt := 1606) dL_law_33 (by decide) (by decide) rfl (by decide) (w_L_40 C I hi hN hN2 R hl K)
  | 41, _ => exact lv_tableIn hx hb (x := nI 41) (off := 1616) (tgt := 1649) dL_law_33 (by decide) (by decide) rfl (by decide) (w_L_41 C I hi hN hN2 R hl K)
  | 42, _ => exact lv_tableIn hx hb (x := nI 42) (off := 1639) (tgt := 1672) dL_law_33 (by decide) (by decide) rfl (by decide) (w_L_42 C I hi hN hN2 R hl K)
  | 43, _ => exact lv_tableIn hx hb (x := nI 43) (off := 1652) (tgt := 1685) dL_law_33 (by decide) (by decide) rfl (by decide) (w_L_43 C I hi hN hN2 R hl K)
  | 44, _ => exact lv_tableIn hx hb (x := nI 44) (off := 1665) (tgt := 1698) dL_law_33 (by decide) (by decide) rfl (by decide) (w_L_44 C I hi hN hN2 R hl K)
  | v + 45, hv => exact absurd hv (by omega)
theorem q_loop (C : q_C p s m c b L xs D cI cL adK adV w tA) (fin : ∀ (H : Heap) (locs : List Loc) (μ ν : z_M) (ls : Array Slot), q_I s D cI cL μ ν H locs → W p l e room_1 s m #[Value.ref b] below meth c H locs 77 4398 Q (F0 m 1727 ls [])) : ∀ (k i N : Nat) (H : Heap) (locs : List Loc) (μ ν : z_M) (ls : Array Slot), L < i + 6 * (k + 1) → i ≤ L → 0 < N → N + 41 * k ≤ 2 ^ 30 → q_I s D cI cL μ ν H locs → Rr N μ ν → lv_has ls 4 [(0, .ref b), (1, .ref (s.heap.size + 0)), (2, .ref (s.heap.size + 50 + 0)), (3, .int (nI i))] → W p l e room_1 s m #[Value.ref b] below meth c H locs 77 4398 Q (F0 m 18 ls []) := by
  have hx := C.1.1
  have hb := C.1.2.1
  have hL := C.2.2.2.1
  have hbA : ¬ q_A s b := fun h => by have h1 : s.heap.size ≤ b := h; have h2 := C.2.2.1; omega
  intro k
  induction k with
  | zero =>
    intro i N H locs μ ν ls hk hi hN hN2 I R hl
    refine lv_iload_n hx hb dL_law_18 rfl (lv_at hl 3 rfl) ?_
    refine lv_aload_n hx hb dL_law_19 rfl (lv_at hl 0 rfl) ?_
    refine va_slen hx hb C.2.1 C.2.2.1 hbA I.2.2 dL_law_20 ?_
    refine lv_bipush hx hb dL_law_21 zcb_6 ?_
    refine lv_isub hx hb dL_law_23 ?_
    exact lv_icmp_gt hx hb (tgt := 1727) dL_law_24 (by decide) (fun _ => fin _ _ _ _ _ I) (fun h => absurd (exit_lt hL hi (by omega)) h)
  | succ k ih =>
    intro i N H locs μ ν ls hk hi hN hN2 I R hl
    refine lv_iload_n hx hb dL_law_18 rfl (lv_at hl 3 rfl) ?_
    refine lv_aload_n hx hb dL_law_19 rfl (lv_at hl 0 rfl) ?_
    refine va_slen hx hb C.2.1 C.2.2.1 hbA I.2.2 dL_law_20 ?_
    refine lv_bipush hx hb dL_law_21 zcb_6 ?_
    refine lv_isub hx hb dL_law_23 ?_
    by_cases h6 : i + 6 ≤ L
    · refine lv_icmp_gt hx hb (tgt := 1727) dL_law_24 (by decide) (fun h => absurd h ?_) (fun _ => ?_)
      · show ¬ nI L - 6 < nI i
        rw [show (6 : Int32) = nI 6 from rfl, nI_sub (show 6 ≤ L by omega)]
        exact nI_nlt (by omega) (by omega)
      · have K : ∀ (H1 : Heap) (locs1 : List Loc) (μ1 ν1 : z_M), q_I s D cI cL μ1 ν1 H1 locs1 → Rr (N + 41) μ1 ν1 → W p l e room_1 s m #[Value.ref b] below meth c H1 locs1 77 4398 Q (F0 m 1721 ls []) := by
          intro H1 locs1 μ1 ν1 I1 R1
          refine z_iinc0 hx hb dL_law_1721 hl (x := nI i) rfl (v := nI (i + 6)) (by rw [show Int32.ofInt 6 = nI 6 by decide, nI_add]) (by decide) (fun ls' hl' => ?_)
          refine lv_goto hx hb (tgt := 18) dL_law_1724 (by decide) ?_
          have hl2 := z_sto1_has hl'
          exact ih (i + 6) (N + 41) H1 locs1 μ1 ν1 ls' (by omega) (by omega) (by omega) (by omega) I1 R1 hl2
        refine lv_aload_n hx hb dL_law_27 rfl (lv_at hl 0 rfl) ?_
        refine lv_iload_n hx hb dL_law_28 rfl (lv_at hl 3 rfl) ?_
        refine va_sld hx hb C.2.1 C.2.2.1 hbA I.2.2 (vp_in_iff.mpr (by rw [nI_toInt (by omega)]; omega)) dL_law_29 ?_
        refine lv_bipush hx hb dL_law_30 zcb_63 ?_
        refine lv_iand hx hb dL_law_32 ?_
        obtain ⟨v, hv, ev⟩ := and63 (xs (nI i).toNatClampNeg)
        rw [ev]
        have hN3 : N ≤ 2 ^ 30 := by omega
        by_cases hv2 : v < 45
        · exact q_cases C I h6 hN hN3 R hl K v hv2
        · exact lv_tableOut hx hb (tgt := 1721) dL_law_33 (Or.inr (by rw [nI_toInt (by omega)]; omega)) (by decide) (K _ _ _ _ I (R.mono (by omega)))
    · exact lv_icmp_gt hx hb (tgt := 1727) dL_law_24 (by decide) (fun _ => fin _ _ _ _ _ I) (fun h => absurd (exit_lt hL hi h6) h)
end QLP
