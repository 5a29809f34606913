/-! rows in shelves, told routes -/
theorem neHi {h : Nat} (hh : h < 8) : ¬ nI h = -1 := fun e => by rw [nI_em1 (by omega)] at e; exact e
theorem cShelfY {s : Nat} {μ : z_M} (h : s < 8) : f_X5_isShelf (nI s) μ = 1 := by
  unfold f_X5_isShelf
  rw [if_neg (nI_pos (by omega)), if_pos (show nI s < (8 : Int32) from nI_lt (b := 8) h (by omega))]
theorem cIsH0 {t : Nat} (ht : t < 4) (μ : z_M) : f_X5_isHouse (nI (100 + t)) μ = 0 := by
  unfold f_X5_isHouse f_X5_isRow
  rw [if_neg (fun e => by rw [nI_em1 (by omega)] at e; exact e), if_neg (show ¬ nI (100 + t) < (100 : Int32) from nI_nlt (b := 100) (by omega) (by omega)), ifn]
theorem cElY {μ : z_M} {s i : Nat} (hs : s < 8) (hi : i < 160) (h : f_X5_hasElement (nI s) (nI i) μ = 1) : f_X5_elementAt (nI s) (nI i) μ = some (μ.2 23 (160 * s + i), μ) := by
  unfold f_X5_elementAt f_X5_elementAt_b35
  rw [z_letE, h, i160]
  simp only [ifn]
  rw [if_neg (nI_pos (by omega)), if_pos (show nI (160 * s + i) < (1280 : Int32) from nI_lt (b := 1280) (by omega) (by omega)), z_chkN (by omega) (by decide), z_ixN (by omega)]
theorem low0 {t : Nat} (ht : t < 4) (μ : z_M) : f_X5_lowestBits (nI (100 + t) - 100) 0 μ = 0 := by
  rcases (show t = 0 ∨ t = 1 ∨ t = 2 ∨ t = 3 by omega) with rfl | rfl | rfl | rfl <;> rfl
theorem sub100 (t : Nat) : nI (100 + t) - 100 = nI t := by
  rw [show nI (100 + t) = nI t + 100 from by rw [show (100 : Int32) = nI 100 from rfl, nI_add, Nat.add_comm], Int32.add_sub_cancel]
theorem hasEl {μ : z_M} {s m i : Nat} (hs : s < 8) (hm : m ≤ 160) (e : μ.1 27 s = nI m) (hi : i < m) : f_X5_hasElement (nI s) (nI i) μ = 1 := by
  unfold f_X5_hasElement
  rw [g_getN hs (by decide), e, if_neg (nI_pos (by omega)), if_pos (nI_lt hi (by omega))]
theorem cKeep {μ : z_M} {s m t i : Nat} {v : Int64} (hs : s < 8) (hm : m ≤ 160) (e : μ.1 27 s = nI m) (e2 : μ.1 25 s = nI (100 + t)) (hi : i < m) : f_X5_keepElement (nI s) (nI i) v μ = some ((), z_sL μ 23 (160 * s + i) (f_X5_lowestBits (nI (100 + t) - 100) v μ)) := by
  unfold f_X5_keepElement
  rw [z_letE, hasEl hs hm e hi, ifn, i160, if_neg (nI_pos (by omega)), if_pos (show nI (160 * s + i) < (1280 : Int32) from nI_lt (b := 1280) (by omega) (by omega)), z_chkN (by omega) (by decide), z_ixN (by omega), g_getN hs (by decide), e2]; rfl
theorem cFill {s m t : Nat} (hs : s < 8) (hm : m ≤ 160) (ht : t < 4) : ∀ (d j n : Nat) (μ : z_M), j + d = m → d < n → μ.1 27 s = nI m → μ.1 25 s = nI (100 + t) → ∃ μ', f_X5_holdRow_h24 n (nI s) (nI m) (nI j) μ = some ((), μ') ∧ μ'.1 = μ.1 ∧ ∀ i, μ'.2 23 i = if 160 * s + j ≤ i ∧ i < 160 * s + m then 0 else μ.2 23 i := by
  intro d
  induction d with
  | zero =>
    intro j n μ e hn h1 h2
    obtain ⟨k, rfl⟩ : ∃ k, n = k + 1 := ⟨n - 1, by omega⟩
    unfold f_X5_holdRow_h24
    rw [if_neg (nI_nlt (by omega) (by omega))]
    exact ⟨μ, rfl, rfl, fun i => by rw [if_neg (by omega)]⟩
  | succ d ih =>
    intro j n μ e hn h1 h2
    obtain ⟨k, rfl⟩ : ∃ k, n = k + 1 := ⟨n - 1, by omega⟩
    unfold f_X5_holdRow_h24
    rw [if_pos (nI_lt (by omega) (by omega)), cKeep hs hm h1 h2 (by omega), z_bindS, low0 ht, i_succ]
    obtain ⟨μ', k1, k2, k3⟩ := ih (j + 1) k (z_sL μ 23 (160 * s + j) 0) (by omega) (by omega) h1 h2
    refine ⟨μ', k1, k2, fun i => ?_⟩
    rw [k3, sL2]
    by_cases c : i = 160 * s + j
    · subst c; rw [if_neg (by omega), if_pos ⟨rfl, rfl⟩, if_pos (by omega)]
    · by_cases c2 : 160 * s + j ≤ i ∧ i < 160 * s + m
      · rw [if_pos (by omega), if_pos c2]
      · rw [if_neg (by omega), if_neg (fun z => c z.2), if_neg c2]
/-- shelf s holds a row of m elements of sort t, that are, as ints, xs -/
def RowD (μ : z_M) (xs : Nat → Int32) (s t m : Nat) : Prop := μ.1 25 s = nI (100 + t) ∧ μ.1 27 s = nI m ∧ ∀ i, i < m → Int64.toInt32 (μ.2 23 (160 * s + i)) = xs i
theorem RowD.same {μ μ' : z_M} {xs : Nat → Int32} {s t m : Nat} (D : RowD μ xs s t m) (k : KC μ μ') : RowD μ' xs s t m := ⟨(k.1 25 s (by unfold LC; omega)).trans D.1, (k.1 27 s (by unfold LC; omega)).trans D.2.1, fun i hi => by rw [k.2]; exact D.2.2 i hi⟩
theorem cInt {μ : z_M} {xs : Nat → Int32} {s t m i : Nat} (hs : s < 8) (hm : m ≤ 160) (D : RowD μ xs s t m) (hi : i < m) : f_X5_intAt (nI s) (nI i) μ = some (xs i, μ) := by
  unfold f_X5_intAt
  rw [cElY hs (by omega) (hasEl hs hm D.2.1 hi), z_bindS]
  show some (Int64.toInt32 (μ.2 23 (160 * s + i)), μ) = _
  rw [D.2.2 i hi]
theorem cTrow {μ : z_M} {s t : Nat} (hs : s < 8) (ht : t < 4) (e : μ.1 25 s = nI (100 + t)) : f_X5_troubleWithRow (nI s) μ = 0 := by
  unfold f_X5_troubleWithRow f_X5_troubleWithTwoRows
  rw [cShelfY hs, ifn, ifn, g_getN hs (by decide), e, z_letE, z_letE, cIsH0 ht, if_pos rfl, if_pos rfl]
  have n1 : ¬ nI (100 + t) = -1 := fun e => by rw [nI_em1 (by omega)] at e; exact e
  rw [if_neg n1, if_neg n1, if_pos rfl]
theorem cRow {μ : z_M} {m : Nat} (hm : m ≤ 160) (n : Nat) (hn : m < n) : ∃ μ', f_X8_row n (nI 1) 2 (nI m) μ = some (1, μ') ∧ μ'.1 25 1 = nI (100 + 2) ∧ μ'.1 27 1 = nI m ∧ ∀ k, k ≠ 25 → k ≠ 27 → μ'.1 k = μ.1 k := by
  obtain ⟨μ', k1, k2, -⟩ := cFill (s := 1) (t := 2) (by omega) hm (by omega) m 0 n (z_sI (z_sI μ 25 1 (nI (100 + 2))) 27 1 (nI m)) (by omega) hn (by rw [sI1, if_pos ⟨rfl, rfl⟩]) (by rw [sI1, if_neg (by omega), sI1, if_pos ⟨rfl, rfl⟩])
  refine ⟨μ', ?_, ?_, ?_, fun k h1 h2 => ?_⟩
  · unfold f_X8_row f_X5_holdRow
    rw [cShelfY (by omega), ifn, if_neg (nI_pos (by omega)), show f_X5_isSort 2 μ = 1 from rfl, ifn, if_neg (show ¬ (160 : Int32) < nI m from nI_nlt (a := 160) (by omega) (by omega)), z_letE, z_letE, g_putN (by omega) (by decide), g_putN (by omega) (by decide)]
    have k1' : f_X5_holdRow_h24 n (nI 1) (nI m) 0 (z_sI (z_sI μ 25 1 (100 + 2)) 27 1 (nI m)) = some ((), μ') := k1
    rw [k1', z_bindS]
  · rw [k2, sI1, if_neg (by omega), sI1, if_pos ⟨rfl, rfl⟩]
  · rw [k2, sI1, if_pos ⟨rfl, rfl⟩]
  · rw [k2, sI1f h2, sI1f h1]
theorem cSet {μ : z_M} {m i : Nat} {v : Int64} (hm : m ≤ 160) (hi : i < m) (e : μ.1 25 1 = nI (100 + 2)) (e2 : μ.1 27 1 = nI m) : f_X8_set (nI 1) (nI i) v μ = some (1, z_sL μ 23 (160 * 1 + i) (Int32.toInt64 (Int64.toInt32 v))) := by
  unfold f_X8_set f_X8_set_b31
  rw [cTrow (by omega) (by omega) e, z_letE, if_pos rfl, hasEl (by omega) hm e2 hi, ifn, if_pos rfl, cKeep (by omega) hm e2 e hi, z_bindS]
  rfl
theorem cListL {m : Nat} {xs : Nat → Int32} (hm : m ≤ 160) : ∀ (d j n : Nat) (μ : z_M), j + d = m → d < n → μ.1 25 1 = nI (100 + 2) → μ.1 27 1 = nI m → (∀ i, i < j → Int64.toInt32 (μ.2 23 (160 * 1 + i)) = xs i) → ∃ μ', f_L_list_h11 m xs n (nI 1) (nI j) μ = some ((), μ') ∧ RowD μ' xs 1 2 m ∧ μ'.1 = μ.1 := by
  intro d
  induction d with
  | zero =>
    intro j n μ e hn h1 h2 h3
    obtain ⟨k, rfl⟩ : ∃ k, n = k + 1 := ⟨n - 1, by omega⟩
    refine ⟨μ, ?_, ⟨h1, h2, fun i hi => h3 i (by omega)⟩, rfl⟩
    rw [f_L_list_h11, if_neg (show ¬ nI j < Int32.ofNat m from nI_nlt (by omega) (by omega))]
  | succ d ih =>
    intro j n μ e hn h1 h2 h3
    obtain ⟨k, rfl⟩ : ∃ k, n = k + 1 := ⟨n - 1, by omega⟩
    obtain ⟨μ', k1, k2, k3⟩ := ih (j + 1) k (z_sL μ 23 (160 * 1 + j) (Int32.toInt64 (Int64.toInt32 (Int32.toInt64 (xs j))))) (by omega) (by omega) h1 h2 (fun i hi => by
      rw [sL2]
      by_cases c : i = j
      · subst c
        rw [if_pos ⟨rfl, rfl⟩, Int32.toInt32_toInt64, Int32.toInt32_toInt64]
      · rw [if_neg (fun z => c (by omega))]
        exact h3 i (by omega))
    refine ⟨μ', ?_, k2, k3⟩
    rw [f_L_list_h11, if_pos (show nI j < Int32.ofNat m from nI_lt (by omega) (by omega)), z_chkN (by omega) (by omega), z_ixN (by omega), cSet hm (by omega) h1 h2, z_bindS]
    rw [← k1, i_succ]
/-- a row of the law's, into shelf 1 -/
theorem cList {μ : z_M} {m : Nat} {xs : Nat → Int32} (hm : m ≤ 160) (n : Nat) (hn : m < n) : ∃ μ', f_L_list m xs n (nI 1) μ = some ((), μ') ∧ RowD μ' xs 1 2 m ∧ ∀ k, k ≠ 25 → k ≠ 27 → μ'.1 k = μ.1 k := by
  obtain ⟨μ1, q1, q2, q3, q4⟩ := cRow (μ := μ) hm n hn
  obtain ⟨μ2, r1, r2, r3⟩ := cListL (xs := xs) hm m 0 n μ1 (by omega) hn q2 q3 (fun i hi => by omega)
  refine ⟨μ2, ?_, r2, fun k h1 h2 => by rw [r3, q4 k h1 h2]⟩
  unfold f_L_list
  have q1' : f_X8_row n (nI 1) 2 (Int32.ofNat m) μ = some (1, μ1) := q1
  have r1' : f_L_list_h11 m xs n (nI 1) 0 μ1 = some ((), μ2) := r1
  rw [q1', z_bindS, r1']
theorem Cs.row {μ μ' : z_M} {S : zS} {H W g b : Nat} (C : Cs μ S H W g b) (k : ∀ k, k ≠ 25 → k ≠ 27 → μ'.1 k = μ.1 k) : Cs μ' S H W g b := by
  obtain ⟨s1, V, e, h, hb, z⟩ := C
  exact ⟨s1.same (fun j => by rw [k 3 (by omega) (by omega)]) (fun j => by rw [k 5 (by omega) (by omega)]) (fun j => by rw [k 7 (by omega) (by omega)]) (fun j => by rw [k 1 (by omega) (by omega)]), V, e, h, hb, by rw [k 41 (by omega) (by omega)]; exact z⟩
def hN (x : Int32) : Nat := x.toNatClampNeg
def sNx (S : zS) (sh W H cur : Nat) (x : Int32) : Prop := x = nI (hN x) ∧ hN x < H ∧ sLk S sh cur (hN x) W ≠ 0
noncomputable def toR (S : zS) (sh W H : Nat) (xs : Nat → Int32) : Nat → Nat → Nat → Int32
  | 0, _, _ => -1
  | d + 1, i, cur => @ite _ (sNx S sh W H cur (xs i)) (Classical.propDecidable _) (toR S sh W H xs d (i + 1) (hN (xs i))) (nI i)
noncomputable def toP (S : zS) (sh W H b : Nat) (xs : Nat → Int32) : Nat → Nat → List Nat → List Nat
  | 0, _, p => p
  | d + 1, i, p => @ite _ (sNx S sh W H (pl b p) (xs i)) (Classical.propDecidable _) (toP S sh W H b xs d (i + 1) (hN (xs i) :: p)) p
theorem toR_s (S : zS) (sh W H : Nat) (xs : Nat → Int32) (d i cur : Nat) : toR S sh W H xs (d + 1) i cur = @ite _ (sNx S sh W H cur (xs i)) (Classical.propDecidable _) (toR S sh W H xs d (i + 1) (hN (xs i))) (nI i) := rfl
theorem toP_s (S : zS) (sh W H b : Nat) (xs : Nat → Int32) (d i : Nat) (p : List Nat) : toP S sh W H b xs (d + 1) i p = @ite _ (sNx S sh W H (pl b p) (xs i)) (Classical.propDecidable _) (toP S sh W H b xs d (i + 1) (hN (xs i) :: p)) p := rfl
theorem cTold {N : Nat} {xs : Nat → Int32} {S : zS} {H W L b s t m k : Nat} {t0 : zT} (dd : Sd N S H W L b t0) (hs : s < 8) (hm : m ≤ 160) (hk : k ≤ m) (hk40 : k ≤ 40) : ∀ (d i n : Nat) (p : List Nat) (μ : z_M), i + d = k → p.length = i → d + 60 ≤ n → RowD μ xs s t m → Wk μ S H W L 0 b t0 p → ∃ μ', f_X8_walkTold_h2 n (nI s) (nI k) (nI i) μ = some (toR S 0 W H xs d i (pl b p), μ') ∧ Wk μ' S H W L 0 b t0 (toP S 0 W H b xs d i p) ∧ FW μ μ' := by
  have dd' := dd
  obtain ⟨V, eH, eW, hH, hW, eb, hb, hL1, hL3, h00, h01, h02⟩ := dd
  intro d
  induction d with
  | zero =>
    intro i n p μ e hp hn D w
    obtain ⟨l, rfl⟩ : ∃ l, n = l + 1 := ⟨n - 1, by omega⟩
    rw [f_X8_walkTold_h2, if_neg (nI_nlt (by omega) (by omega))]
    exact ⟨μ, rfl, w, FW.rf μ⟩
  | succ d ih =>
    intro i n p μ e hp hn D w
    obtain ⟨l, rfl⟩ : ∃ l, n = l + 1 := ⟨n - 1, by omega⟩
    rw [f_X8_walkTold_h2, if_pos (nI_lt (by omega) (by omega)), cInt hs hm D (by omega), z_bindS, toR_s, toP_s]
    have c3 : μ.1 1 3 = nI H := (w.1.2.2.2 0 (by omega)).trans eH
    have hpl : pl b p < H := w.2.2.2.2.lt hb
    dsimp only
    generalize hx : xs i = x
    by_cases c : sNx S 0 W H (pl b p) x
    · obtain ⟨c1, c2, c4⟩ := c
      obtain ⟨-, st⟩ := cStep' dd' w (by omega) l (by omega) (hN x) (by omega)
      obtain ⟨μ1, q1, q2, q3⟩ := st c4
      rw [← c1] at q1
      rw [q1, z_bindS, if_neg (show ¬ ((1 : Int32), μ1).1 = 0 from o10.mp), i_succ, if_pos ⟨c1, c2, c4⟩, if_pos ⟨c1, c2, c4⟩]
      have D1 : RowD μ1 xs s t m := D.same q3.KC
      obtain ⟨μ2, r1, r2, r3⟩ := ih (i + 1) l (hN x :: p) μ1 (by omega) (by simp [hp]) (by omega) D1 q2
      exact ⟨μ2, r1, r2, q3.tr r3⟩
    · have st : f_X7_stepTo l x μ = some (0, μ) := by
        rcases n3 x (n := H) (by omega) with ⟨h, hh, rfl⟩ | h | ⟨h, h1, h2, rfl⟩
        · obtain ⟨st, -⟩ := cStep' dd' w (by omega) l (by omega) h (by omega)
          have e1 : hN (nI h) = h := nI_clamp (by omega)
          apply st
          apply Classical.byContradiction
          intro z
          exact c ⟨by rw [e1], by rw [e1]; exact hh, by rw [e1]; exact z⟩
        · have e1 : f_X6_isHouse 1 x μ = 0 := by unfold f_X6_isHouse; rw [if_pos h]
          unfold f_X7_stepTo f_X7_wayTaken f_X7_wayTaken_b26 f_X7_wayTaken_b27
          rw [e1]; simp only [if_true, ite_self, z_letE]
        · have e1 : f_X6_isHouse 1 (nI h) μ = 0 := by
            unfold f_X6_isHouse
            rw [c3, if_neg (nI_pos h2), if_neg (nI_nlt h1 h2)]
          unfold f_X7_stepTo f_X7_wayTaken f_X7_wayTaken_b26 f_X7_wayTaken_b27
          rw [e1]; simp only [if_true, ite_self, z_letE]
      rw [st, z_bindS, if_neg c, if_neg c]
      exact ⟨μ, rfl, w, FW.rf μ⟩
theorem ups_at {ok : List Nat → Nat → Bool} {B : Nat} {q : List Nat} {x : Nat} : ∀ ds : List Nat, ups ok B [] (ds ++ x :: q) → ok q x = true ∧ x < B := by
  intro ds
  induction ds with
  | nil =>
    intro h
    have h' : ok (q ++ []) x = true ∧ x < B ∧ ups ok B [] q := h
    rw [List.append_nil] at h'
    exact ⟨h'.1, h'.2.1⟩
  | cons y ds ih => intro h; exact ih h.2.2
theorem ups_all {ok : List Nat → Nat → Bool} {B : Nat} : ∀ p : List Nat, ups ok B [] p → ∀ x, x ∈ p → x < B := by
  intro p
  induction p with
  | nil => intro _ x hx; exact absurd hx List.not_mem_nil
  | cons y p ih =>
    intro h x hx
    rcases List.mem_cons.mp hx with rfl | hx
    · exact h.2.1
    · exact ih h.2.2 x hx
/-- every house of a route is one -/
theorem ups_H {N : Nat} {S : zS} {H W b : Nat} (V : Vd N S) (eH : S 10 0 = nI H) (eW : S 10 1 = nI W) (hH : H ≤ 8) (hW : W ≤ 12) (hb : b < H) : ∀ p : List Nat, ups (okL S 0 W b) 8 [] p → ∀ x, x ∈ p → x < H := by
  intro p
  induction p with
  | nil => intro _ x hx; exact absurd hx List.not_mem_nil
  | cons y p ih =>
    intro h x hx
    have hp := ih h.2.2
    rcases List.mem_cons.mp hx with rfl | hx
    · apply Classical.byContradiction
      intro n
      have h1 := h.1
      rw [List.append_nil, okL_in V eH eW hH hW (pl_lt hb hp) x (by omega) h.2.1] at h1
      cases h1
    · exact hp x hx
theorem toR_ok {N : Nat} {S : zS} {H W b : Nat} (V : Vd N S) (eH : S 10 0 = nI H) (eW : S 10 1 = nI W) (hH : H ≤ 8) (hW : W ≤ 12) (hb : b < H) {p : List Nat} (u : ups (okL S 0 W b) 8 [] p) {xs : Nat → Int32} (hx : ∀ j, j < p.length → xs j = nI (hsAt p j)) : ∀ (d i : Nat), i + d = p.length → toR S 0 W H xs d i (pl b (p.drop (p.length - i))) = -1 ∧ toP S 0 W H b xs d i (p.drop (p.length - i)) = p := by
  intro d
  induction d with
  | zero =>
    intro i e
    refine ⟨rfl, ?_⟩
    show p.drop (p.length - i) = p
    rw [show p.length - i = 0 by omega, List.drop_zero]
  | succ d ih =>
    intro i e
    obtain ⟨x, ex⟩ := drop_cons (p := p) (j := i) (by omega)
    have ed : p = p.take (p.length - (i + 1)) ++ x :: p.drop (p.length - i) := by rw [← ex, List.take_append_drop]
    have e1 := u
    rw [ed] at e1
    obtain ⟨a1, a2⟩ := ups_at _ e1
    have xH : x < H := ups_H V eH eW hH hW hb p u x (by rw [ed]; exact List.mem_append_right _ List.mem_cons_self)
    have hh : hsAt p i = x := by unfold hsAt; rw [ex]; rfl
    have hxi : xs i = nI x := by rw [hx i (by omega), hh]
    have hn : hN (nI x) = x := nI_clamp (by omega)
    have c : sNx S 0 W H (pl b (p.drop (p.length - i))) (xs i) := by
      unfold sNx
      rw [hxi, hn]
      exact ⟨rfl, xH, okL_t.1 a1⟩
    rw [toR_s, toP_s, if_pos c, if_pos c, hxi, hn]
    have := ih (i + 1) (by omega)
    rw [ex] at this
    exact this
/-- a told route that is one is walked -/
theorem cWalkTold {μ : z_M} {S : zS} {H W g b : Nat} {xs : Nat → Int32} {p : List Nat} (C : Cs μ S H W g b) (hp : p.length ≤ 6) (u : ups (okL S 0 W b) 8 [] p) (hx : ∀ j, j < p.length → xs j = nI (hsAt p j)) (D : RowD μ xs 1 2 p.length) : f_X8_troubleWithRoute (nI 1) (nI p.length) 40 μ = 0 ∧ ∃ μ0 μ', f_X7_begin 700000 μ = some ((), μ0) ∧ f_X8_walkTold 700000 (nI 1) (nI p.length) μ0 = some (-1, μ') ∧ Wk μ' S H W g 0 b (t00 S false 0) p ∧ KC μ μ' := by
  obtain ⟨N, dd⟩ := C.sd
  refine ⟨?_, ?_⟩
  · have ts : f_X5_troubleWithStart (nI 1) (nI p.length) μ = 0 := by
      unfold f_X5_troubleWithStart
      rw [cTrow (by omega) (by omega) D.1, z_letE, if_pos rfl, if_neg (nI_pos (by omega)), g_getN (by omega) (by decide), D.2.1, if_neg (nI_nlt (Nat.le_refl _) (by omega))]
    unfold f_X8_troubleWithRoute
    rw [ts, z_letE, if_pos rfl, if_neg (show ¬ (40 : Int32) < nI p.length from nI_nlt (a := 40) (by omega) (by omega)), bird_y C.c6 C.b8, ifn]
  · obtain ⟨μ0, a1, a2, a3, a4⟩ := C.start 700000 (by omega)
    obtain ⟨V, eH, eW, hH, hW, eb, hb, -⟩ := dd
    obtain ⟨r1, r2⟩ := toR_ok V eH eW hH hW hb u hx p.length 0 (by omega)
    rw [Nat.sub_zero, List.drop_length] at r1 r2
    obtain ⟨μ', u1, u2, u3⟩ := cTold (xs := xs) (s := 1) (t := 2) (m := p.length) (k := p.length) C.sd.choose_spec (by omega) (by omega) (Nat.le_refl _) (by omega) p.length 0 700000 [] μ0 (by omega) rfl (by omega) (D.same a3) a2
    rw [r2] at u2
    refine ⟨μ0, μ', a1, ?_, u2, a3.tr u3.KC⟩
    unfold f_X8_walkTold
    have u1' : f_X8_walkTold_h2 700000 (nI 1) (nI p.length) 0 μ0 = _ := u1
    rw [u1', r1]
theorem cJudge {μ : z_M} {S : zS} {H W g b : Nat} {xs : Nat → Int32} {p : List Nat} (C : Cs μ S H W g b) (hp : p.length ≤ 6) (u : ups (okL S 0 W b) 8 [] p) (hx : ∀ j, j < p.length → xs j = nI (hsAt p j)) (D : RowD μ xs 1 2 p.length) : ∃ μ', f_X8_judge 700000 (nI 1) (nI p.length) μ = some (-1, μ') ∧ KC μ μ' := by
  obtain ⟨t, μ0, μ', a1, a2, a3, a4⟩ := cWalkTold C hp u hx D
  refine ⟨μ', ?_, a4⟩
  unfold f_X8_judge
  rw [t, z_letE, if_pos rfl, a1, z_bindS, a2, z_bindS]
theorem cMinutes {μ : z_M} {S : zS} {H W g b : Nat} {xs : Nat → Int32} {p : List Nat} (C : Cs μ S H W g b) (hp : p.length ≤ 6) (u : ups (okL S 0 W b) 8 [] p) (hx : ∀ j, j < p.length → xs j = nI (hsAt p j)) (D : RowD μ xs 1 2 p.length) : ∃ μ', f_X8_minutes 700000 (nI 1) (nI p.length) μ = some (tR S g (fun a c => sLk S 0 a c W) b (t00 S false 0) p 4 1, μ') ∧ KC μ μ' := by
  obtain ⟨t, μ0, μ', a1, a2, a3, a4⟩ := cWalkTold C hp u hx D
  refine ⟨μ', ?_, a4⟩
  unfold f_X8_minutes f_X7_minutesTaken
  rw [t, z_letE, if_pos rfl, a1, z_bindS, a2, z_bindS]
  dsimp only
  rw [if_pos rfl, a3.2.2.1, g_getN (by omega) (by decide), a3.2.2.2.2.c41]
theorem cHears {μ : z_M} {S : zS} {H W g b i : Nat} {xs : Nat → Int32} {p : List Nat} (C : Cs μ S H W g b) (hi : i < H) (hp : p.length ≤ 6) (u : ups (okL S 0 W b) 8 [] p) (hx : ∀ j, j < p.length → xs j = nI (hsAt p j)) (D : RowD μ xs 1 2 p.length) : ∃ μ', f_X8_hears 700000 (nI 1) (nI p.length) (nI i) μ = some (hdV S g W b p i, μ') ∧ KC μ μ' := by
  obtain ⟨t, μ0, μ', a1, a2, a3, a4⟩ := cWalkTold C hp u hx D
  have hH := C.2.2.2.1.1
  refine ⟨μ', ?_, a4⟩
  unfold f_X8_hears f_X8_hears_b23
  rw [isH_y C.c3 hH hi, ifn, t, if_pos rfl, a1, z_bindS, a2, z_bindS]
  dsimp only
  rw [if_pos rfl, cHeard a3.2.2.2.2 hH (fun _ => rfl) a3.2.2.1 (by omega) (show i < 2 ^ 31 by omega) 700000 (by omega), z_bindS]
  rfl
