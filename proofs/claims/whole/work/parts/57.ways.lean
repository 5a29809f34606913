/-! open ways; way, go, wander -/
theorem z_sl : ∀ n, n < 32 → ((nI n &&& 31).toBitVec.smod 32).toNat = n := by decide +kernel
theorem zbit {n w : Nat} (hn : n < 2 ^ 31) (hw : w < 32) : (nI n >>> (nI w &&& 31)) &&& 1 = nI (n / 2 ^ w % 2) := by
  rw [pk_shrN hn _ w (z_sl w hw), pk_andN (Nat.lt_of_le_of_lt (Nat.div_le_self _ _) (by omega)) 1 (by decide)]
theorem zbit0 {n w : Nat} (hn : n < 2 ^ 31) (hw : w < 32) : ((nI n >>> (nI w &&& 31)) &&& 1 = 0) = (n.testBit w = false) := by
  rw [zbit hn hw, Nat.testBit_eq_decide_div_mod_eq, nI_eq0 (by omega)]
  have := Nat.mod_two_eq_zero_or_one (n / 2 ^ w)
  rcases this with h | h <;> simp [h]
/-- an open way, some more shut -/
def sO (S : zS) (sh w : Nat) : Prop := S 8 w = 0 ∧ sh.testBit w = false
def sOn (S : zS) (w : Nat) (h : Int32) : Prop := S 5 w = h ∨ S 6 w = h
theorem sO0 (S : zS) (w : Nat) : sO S 0 w ↔ S 8 w = 0 := by unfold sO; simp
theorem cIsWay {q W w : Nat} {μ : z_M} (c4 : μ.1 q 4 = nI W) (hW : W ≤ 12) (hw : w < 2 ^ 31) : f_X6_isWay q (nI w) μ = if w < W then 1 else 0 := by
  unfold f_X6_isWay
  rw [c4, if_neg (nI_pos hw)]
  by_cases h : w < W
  · rw [if_pos (nI_lt h (by omega)), if_pos h]
  · rw [if_neg (nI_nlt (by omega) hw), if_neg h]
theorem cOpenAt {q W w : Nat} {μ : z_M} {S : zS} {h : Int32} (s1 : StC q μ S) (c4 : μ.1 q 4 = nI W) (hW : W ≤ 12) (hw : w < 12) : f_X6_isOpenAt q (nI w) h μ = (@ite _ (w < W ∧ sO S 0 w ∧ sOn S w h) (Classical.propDecidable _) 1 0) := by
  unfold f_X6_isOpenAt f_X6_isOpenAt_b20 f_X6_isOpenAt_b25
  rw [cIsWay c4 hW (by omega), cW0 s1 hw, cW1 s1 hw, cW3 s1 hw]
  simp only [sO0, sOn]
  by_cases h1 : w < W
  · by_cases h2 : S 8 w = 0
    · by_cases h3 : S 5 w = h
      · simp [h1, h2, h3]
      · by_cases h4 : S 6 w = h <;> simp [h1, h2, h3, h4]
    · simp [h1, h2]
  · simp [h1]
theorem cOpen {q W w : Nat} {μ : z_M} {S : zS} (s1 : StC q μ S) (c4 : μ.1 q 4 = nI W) (hW : W ≤ 12) (hw : w < 12) : f_X6_isOpen q (nI w) μ = (@ite _ (w < W ∧ sO S 0 w) (Classical.propDecidable _) 1 0) := by
  unfold f_X6_isOpen
  rw [cIsWay c4 hW (by omega), cW3 s1 hw]
  simp only [sO0]
  by_cases h1 : w < W
  · by_cases h2 : S 8 w = 0 <;> simp [h1, h2]
  · simp [h1]
theorem mOpen {w sh : Nat} {ν : z_M} {S : zS} (a8 : ν.1 8 w = S 8 w) (m24 : ν.1 0 24 = nI sh) (hs : sh < 2 ^ 31) (hw : w < 12) : f_X9_isOpen (nI w) ν = some ((@ite _ (sO S sh w) (Classical.propDecidable _) 1 0), ν) := by
  unfold f_X9_isOpen
  rw [z_chkN hw (by decide), z_ixN (by omega), a8, m24]
  simp only [zbit0 hs (show w < 32 by omega), sO]
  by_cases h1 : S 8 w = 0
  · by_cases h2 : sh.testBit w = false
    · simp [h1, h2]
    · simp [h1, h2]
  · simp [h1]
theorem mIsOf {w : Nat} {h : Int32} {ν : z_M} {S : zS} (a5 : ν.1 5 w = S 5 w) (a6 : ν.1 6 w = S 6 w) (hw : w < 12) : f_X9_isOf (nI w) h ν = some ((@ite _ (sOn S w h) (Classical.propDecidable _) 1 0), ν) := by
  unfold f_X9_isOf f_X9_isOf_b20
  rw [z_chkN hw (by decide), z_chkN hw (by decide), z_ixN (by omega), a5, a6]
  simp only [sOn]
  by_cases h1 : S 5 w = h
  · simp [h1]
  · by_cases h2 : S 6 w = h <;> simp [h1, h2]
/-- how many open ways are at a house, of the first n -/
noncomputable def sOA (S : zS) (sh : Nat) (h : Int32) : Nat → Nat
  | 0 => 0
  | n + 1 => sOA S sh h n + @ite _ (sO S sh n ∧ sOn S n h) (Classical.propDecidable _) 1 0
theorem sOA_s (S : zS) (sh : Nat) (h : Int32) (n : Nat) : sOA S sh h (n + 1) = sOA S sh h n + @ite _ (sO S sh n ∧ sOn S n h) (Classical.propDecidable _) 1 0 := rfl
theorem sOA_le (S : zS) (sh : Nat) (h : Int32) (n : Nat) : sOA S sh h n ≤ n := by
  induction n with
  | zero => exact Nat.le_refl 0
  | succ n ih =>
    rw [sOA_s]
    by_cases c : sO S sh n ∧ sOn S n h
    · rw [if_pos c]; omega
    · rw [if_neg c]; omega
theorem cOpenWaysAt {q W : Nat} {μ : z_M} {S : zS} {h : Int32} (s1 : StC q μ S) (c4 : μ.1 q 4 = nI W) (hW : W ≤ 12) (n : Nat) (hn : 13 ≤ n) : f_X6_openWaysAt q n h μ = some (nI (sOA S 0 h W), μ) := by
  have key : ∀ (d j n : Nat), j + d = 12 → d < n → f_X6_openWaysAt_h4 q n h (nI (sOA S 0 h (min j W))) (nI j) μ = some (nI (sOA S 0 h W), μ) := by
    intro d
    induction d with
    | zero =>
      intro j n e hn
      obtain ⟨m, rfl⟩ : ∃ m, n = m + 1 := ⟨n - 1, by omega⟩
      unfold f_X6_openWaysAt_h4
      rw [if_neg (show ¬ nI j < (12 : Int32) from nI_nlt (b := 12) (by omega) (by omega)), show min j W = W by omega]
    | succ d ih =>
      intro j n e hn
      obtain ⟨m, rfl⟩ : ∃ m, n = m + 1 := ⟨n - 1, by omega⟩
      unfold f_X6_openWaysAt_h4 f_X6_openWaysAt_b22
      rw [if_pos (show nI j < (12 : Int32) from nI_lt (b := 12) (by omega) (by omega)), cOpenAt s1 c4 hW (by omega), i_succ, i_succ]
      have k := ih (j + 1) m (by omega) (by omega)
      by_cases c : j < W
      · rw [show min (j + 1) W = j + 1 by omega] at k
        rw [show min j W = j by omega]
        rw [sOA_s S 0 h j] at k
        by_cases c2 : sO S 0 j ∧ sOn S j h
        · rw [if_pos c2] at k
          rw [if_pos (⟨c, c2⟩ : j < W ∧ sO S 0 j ∧ sOn S j h), ifn]; exact k
        · rw [if_neg c2] at k
          rw [if_neg (fun z : j < W ∧ sO S 0 j ∧ sOn S j h => c2 z.2), ifz]; exact k
      · rw [show min (j + 1) W = min j W by omega] at k
        rw [if_neg (fun z : j < W ∧ sO S 0 j ∧ sOn S j h => c z.1), ifz]; exact k
  have k := key 12 0 n (by omega) (by omega)
  rw [show min 0 W = 0 by omega] at k
  exact k
theorem mOpenAt {W sh : Nat} {ν : z_M} {S : zS} {h : Int32} (s2 : StM ν S) (m9 : ν.1 0 9 = nI W) (m24 : ν.1 0 24 = nI sh) (hs : sh < 2 ^ 31) (hW : W ≤ 12) (n : Nat) (hn : 13 ≤ n) : f_X9_openAt n h ν = some (nI (sOA S sh h W), ν) := by
  have key : ∀ (d j n : Nat), j + d = W → d < n → f_X9_openAt_h4 n h (nI (sOA S sh h j)) (nI j) ν = some (nI (sOA S sh h W), ν) := by
    intro d
    induction d with
    | zero =>
      intro j n e hn
      obtain ⟨m, rfl⟩ : ∃ m, n = m + 1 := ⟨n - 1, by omega⟩
      unfold f_X9_openAt_h4
      rw [m9, if_neg (nI_nlt (by omega) (by omega)), show j = W by omega]
    | succ d ih =>
      intro j n e hn
      obtain ⟨m, rfl⟩ : ∃ m, n = m + 1 := ⟨n - 1, by omega⟩
      obtain ⟨a5, a6, a7, a8⟩ := s2.2.1 j (by omega)
      have k := ih (j + 1) m (by omega) (by omega)
      unfold f_X9_openAt_h4 f_X9_openAt_b45 f_X9_openAt_b41 f_X9_openAt_b46
      rw [m9, if_pos (nI_lt (by omega) (by omega)), mOpen a8 m24 hs (by omega), z_bindS]
      simp only [z_letE, z_chkN (show j < 12 by omega) (by decide), z_ixN (show j < 2 ^ 31 by omega), a5, a6, i_succ, add0]
      rw [sOA_s S sh h j] at k
      by_cases c1 : sO S sh j
      · rw [if_pos c1, ifn]
        by_cases c2 : S 5 j = h
        · rw [if_pos (⟨c1, Or.inl c2⟩ : sO S sh j ∧ sOn S j h)] at k
          rw [if_pos c2]; exact k
        · rw [if_neg c2]
          by_cases c3 : S 6 j = h
          · rw [if_pos (⟨c1, Or.inr c3⟩ : sO S sh j ∧ sOn S j h)] at k
            rw [if_pos c3]; exact k
          · rw [if_neg (fun z : sO S sh j ∧ sOn S j h => by rcases z.2 with q | q <;> contradiction)] at k
            rw [if_neg c3]; exact k
      · rw [if_neg (fun z : sO S sh j ∧ sOn S j h => c1 z.1)] at k
        rw [if_neg c1, ifz]; exact k
  exact key W 0 n (by omega) (by omega)
theorem dTW {μ ν : z_M} {H W : Nat} (c3 : μ.1 1 3 = nI H) (m8 : ν.1 0 8 = nI H) (hH : H ≤ 8) (c4 : μ.1 1 4 = nI W) (m9 : ν.1 0 9 = nI W) (hW : W ≤ 12) (a b m : Int32) : (∃ t, 1 ≤ t ∧ t ≤ 7 ∧ f_X8_troubleWithWay a b m μ = -(nI t) ∧ f_X9_notWay a b m ν = -(nI t)) ∨ (f_X8_troubleWithWay a b m μ = 0 ∧ f_X9_notWay a b m ν = 0 ∧ W < 12 ∧ zB a H ∧ zB b H ∧ a ≠ b ∧ zB m 61) := by
  unfold f_X8_troubleWithWay f_X9_notWay f_X9_notWay_b16 f_X9_notWay_b35
  rcases dH c3 m8 hH a with ⟨e1, e2⟩ | ⟨i, hi, rfl, e1, e2⟩
  · rw [e1, e2]; exact Or.inl ⟨1, by omega, by omega, rfl, rfl⟩
  · rw [e1, e2, ifn, ifn]
    rcases dH c3 m8 hH b with ⟨e3, e4⟩ | ⟨j, hj, rfl, e3, e4⟩
    · rw [e3, e4]; exact Or.inl ⟨1, by omega, by omega, rfl, rfl⟩
    · rw [e3, e4, ifn, ifn]
      by_cases c : nI i = nI j
      · rw [if_pos c]
        refine Or.inl ⟨6, by omega, by omega, rfl, ?_⟩
        by_cases d : f_X9_isIn m 1 60 ν = 0
        · rw [if_pos d]; rfl
        · rw [if_neg d, if_pos c]; rfl
      · rw [if_neg c, show f_X9_isIn m 1 60 ν = f_X9_isIn m (nI 1) (nI 60) ν from rfl]
        unfold f_X6_hasRoomForWay
        rw [c4, m9]
        rcases dIn ν m 1 60 (by omega) (by omega) with e | ⟨k, h1, h3, rfl, e⟩
        · rw [e]
          refine Or.inl ⟨6, by omega, by omega, ?_, rfl⟩
          unfold f_X9_isIn at e
          by_cases x1 : m < 1
          · rw [if_pos x1]; rfl
          · rw [if_neg x1]
            rw [if_neg (show ¬ m < nI 1 from x1)] at e
            by_cases x2 : (60 : Int32) < m
            · rw [if_pos x2]; rfl
            · rw [if_neg (show ¬ nI 60 < m from x2)] at e; exact absurd e (by decide)
        · rw [e, if_neg (show ¬ nI k < (1 : Int32) from nI_nlt (b := 1) h1 (by omega)), if_neg (show ¬ (60 : Int32) < nI k from nI_nlt (a := 60) h3 (by omega)), if_neg c]
          simp only [ifn]
          by_cases r : W < 12
          · rw [if_pos (show nI W < (12 : Int32) from nI_lt (b := 12) r (by omega)), ifn, if_neg (show ¬ nI W = 12 from nI_ne (b := 12) (by omega) (by omega) (by omega))]
            exact Or.inr ⟨rfl, rfl, r, ⟨i, hi, rfl⟩, ⟨j, hj, rfl⟩, c, ⟨k, by omega, rfl⟩⟩
          · obtain rfl : W = 12 := by omega
            exact Or.inl ⟨7, by omega, by omega, rfl, rfl⟩
theorem refC (t : Nat) (h1 : 1 ≤ t) (h7 : t ≤ 7) (μ : z_M) : f_X8_refuse (-(nI t)) μ = (-(nI t), z_sI μ 49 t (μ.1 49 t + 1)) := by
  rcases (show t = 1 ∨ t = 2 ∨ t = 3 ∨ t = 4 ∨ t = 5 ∨ t = 6 ∨ t = 7 by omega) with rfl | rfl | rfl | rfl | rfl | rfl | rfl <;> rfl
theorem refM (t : Nat) (h1 : 1 ≤ t) (h7 : t ≤ 7) (ν : z_M) : f_X9_no (-(nI t)) ν = some (-(nI t), z_sI ν 1 t (ν.1 1 t + 1)) := by
  rcases (show t = 1 ∨ t = 2 ∨ t = 3 ∨ t = 4 ∨ t = 5 ∨ t = 6 ∨ t = 7 by omega) with rfl | rfl | rfl | rfl | rfl | rfl | rfl <;> rfl
theorem refNe (t : Nat) (h1 : 1 ≤ t) (h7 : t ≤ 7) : ¬ (-(nI t) = 0) := by
  rcases (show t = 1 ∨ t = 2 ∨ t = 3 ∨ t = 4 ∨ t = 5 ∨ t = 6 ∨ t = 7 by omega) with rfl | rfl | rfl | rfl | rfl | rfl | rfl <;> decide
/-- the street with a way more agrees -/
theorem Rr.addWay {N : Nat} {μ ν : z_M} {a b m : Int32} {S : zS} {H W g : Nat} (R : Rr N μ ν) (O : RSo N μ ν S H W g) (r : W < 12) (ha : zB a H) (hb' : zB b H) (hne : a ≠ b) (hm : zB m 61) : ∃ μ' ν', f_X6_addWay 1 a b m μ = (nI W, μ') ∧ f_X9_makesWay a b m ν = some ((), ν') ∧ ν'.1 0 9 = nI (W + 1) ∧ Rr N μ' ν' ∧ KX μ μ' ∧ KY ν ν' := by
  obtain ⟨⟨s1, s2, V⟩, ⟨hH, hW, hg1, hg3⟩, ⟨eH, eW, eg⟩, ⟨c3, c4, c5, c6⟩, ⟨m8, m9, m10, mb, m23, m24⟩, hb⟩ := O
  obtain ⟨μ', q1, q2, q3, q4⟩ := cAddWay (a := a) (b := b) (m := m) s1 r eW
  obtain ⟨ν', r1, r2, r3, r4, r5, r6⟩ := mAddWay (a := a) (b := b) (m := m) s2 r eW
  have kx : KX μ μ' := ⟨fun k i z => by rw [q3 k z.ne.1 z.ne.2.2.1], q4⟩
  refine ⟨μ', ν', q1, r1, r3, R.street (Nat.le_refl N) ⟨sAW S W a b m, q2, r2, V.addWay (sH_of eH hH) r eW ha hb' hne hm, ?_, ?_⟩ kx r4, kx, r4⟩
  · rw [r5 23 (by omega), m23]; exact eg.symm
  · rw [r5 24 (by omega), m24]
theorem ag_way {N : Nat} {μ ν : z_M} (R : Rr N μ ν) (a b m : Int32) : Ag N (fun _ => z_oT (f_X8_way a b m μ)) (fun _ => f_X9_way a b m ν) := by
  obtain ⟨S, H, W, g, O⟩ := R.1.op
  have O' := O
  obtain ⟨⟨s1, s2, V⟩, ⟨hH, hW, hg1, hg3⟩, ⟨eH, eW, eg⟩, ⟨c3, c4, c5, c6⟩, ⟨m8, m9, m10, mb, m23, m24⟩, hb⟩ := O
  unfold f_X8_way f_X9_way
  rcases dTW c3 m8 hH c4 m9 hW a b m with ⟨t, h1, h7, e1, e2⟩ | ⟨e1, e2, r, ha, hb', hne, hm⟩
  · simp only [z_letE, e1, e2, if_neg (refNe t h1 h7), refC t h1 h7, refM t h1 h7, z_bindS]
    exact ⟨_, _, _, ⟨0, rfl⟩, ⟨0, rfl⟩, R.refuse t⟩
  · obtain ⟨μ', ν', q1, q2, q3, q4, -⟩ := R.addWay O' r ha hb' hne hm
    simp only [z_letE, e1, e2, if_true, q1, q2, z_bindS, q3, i_pred (show 0 < W + 1 by omega), Nat.add_sub_cancel]
    exact ⟨_, _, _, ⟨0, rfl⟩, ⟨0, rfl⟩, q4⟩
