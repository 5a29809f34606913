/-! row, set, copy, says, ways -/
theorem low0 {t : Nat} (ht : t < 4) (μ : z_M) : f_X5_lowestBits (nI (100 + t) - 100) 0 μ = 0 := by
  rcases (show t = 0 ∨ t = 1 ∨ t = 2 ∨ t = 3 by omega) with rfl | rfl | rfl | rfl <;> rfl
theorem sub100 (t : Nat) : nI (100 + t) - 100 = nI t := by
  rw [show nI (100 + t) = nI t + 100 from by rw [show (100 : Int32) = nI 100 from rfl, nI_add, Nat.add_comm], Int32.add_sub_cancel]
theorem hasEl {μ : z_M} {s m i : Nat} (hs : s < 8) (hm : m ≤ 160) (e : μ.1 27 s = nI m) (hi : i < m) : f_X5_hasElement (nI s) (nI i) μ = 1 := by
  unfold f_X5_hasElement
  rw [g_getN hs (by decide), e, if_neg (nI_pos (by omega)), if_pos (nI_lt hi (by omega))]
theorem cKeep {μ : z_M} {s m t i : Nat} {v : Int64} (hs : s < 8) (hm : m ≤ 160) (e : μ.1 27 s = nI m) (e2 : μ.1 25 s = nI (100 + t)) (hi : i < m) : f_X5_keepElement (nI s) (nI i) v μ = some ((), z_sL μ 23 (160 * s + i) (f_X5_lowestBits (nI (100 + t) - 100) v μ)) := by
  unfold f_X5_keepElement
  rw [z_letE, hasEl hs hm e hi, ifn, i160, if_neg (nI_pos (by omega)), if_pos (show nI (160 * s + i) < (1280 : Int32) from nI_lt (b := 1280) (by omega) (by omega)), z_chkN (by omega) (by decide), z_ixN (by omega), g_getN hs (by decide), e2]; rfl
theorem cFill {s m t : Nat} (hs : s < 8) (hm : m ≤ 160) (ht : t < 4) : ∀ (d j n : Nat) (μ : z_M), j + d = m → d < n → μ.1 27 s = nI m → μ.1 25 s = nI (100 + t) → ∃ μ', f_X5_holdRow_h24 n (nI s) (nI m) (nI j) μ = some ((), μ') ∧ μ'.1 = μ.1 ∧ ∀ i, μ'.2 23 i = if 160 * s + j ≤ i ∧ i < 160 * s + m then 0 else μ.2 23 i := by
  intro d
  induction d with
  | zero =>
    intro j n μ e hn h1 h2
    obtain ⟨k, rfl⟩ : ∃ k, n = k + 1 := ⟨n - 1, by omega⟩
    unfold f_X5_holdRow_h24
    rw [if_neg (nI_nlt (by omega) (by omega))]
    exact ⟨μ, rfl, rfl, fun i => by rw [if_neg (by omega)]⟩
  | succ d ih =>
    intro j n μ e hn h1 h2
    obtain ⟨k, rfl⟩ : ∃ k, n = k + 1 := ⟨n - 1, by omega⟩
    unfold f_X5_holdRow_h24
    rw [if_pos (nI_lt (by omega) (by omega)), cKeep hs hm h1 h2 (by omega), z_bindS, low0 ht, i_succ]
    obtain ⟨μ', k1, k2, k3⟩ := ih (j + 1) k (z_sL μ 23 (160 * s + j) 0) (by omega) (by omega) h1 h2
    refine ⟨μ', k1, k2, fun i => ?_⟩
    rw [k3, sL2]
    by_cases c : i = 160 * s + j
    · subst c; rw [if_neg (by omega), if_pos ⟨rfl, rfl⟩, if_pos (by omega)]
    · by_cases c2 : 160 * s + j ≤ i ∧ i < 160 * s + m
      · rw [if_pos (by omega), if_pos c2]
      · rw [if_neg (by omega), if_neg (fun z => c z.2), if_neg c2]
theorem mFill {s m : Nat} (hs : s < 8) (hm : m ≤ 160) : ∀ (d j n : Nat) (ν : z_M), j + d = m → d < n → ∃ ν', f_X9_row_h78 n (nI s) (nI m) (nI j) ν = some (1, ν') ∧ ν'.1 = ν.1 ∧ ∀ i, ν'.2 22 i = if 160 * s + j ≤ i ∧ i < 160 * s + m then 0 else ν.2 22 i := by
  intro d
  induction d with
  | zero =>
    intro j n ν e hn
    obtain ⟨k, rfl⟩ : ∃ k, n = k + 1 := ⟨n - 1, by omega⟩
    unfold f_X9_row_h78
    rw [if_neg (nI_nlt (by omega) (by omega))]
    exact ⟨ν, rfl, rfl, fun i => by rw [if_neg (by omega)]⟩
  | succ d ih =>
    intro j n ν e hn
    obtain ⟨k, rfl⟩ : ∃ k, n = k + 1 := ⟨n - 1, by omega⟩
    unfold f_X9_row_h78
    rw [if_pos (nI_lt (by omega) (by omega)), i160', z_chkN (by omega) (by decide), z_ixN (by omega), z_letE, i_succ]
    obtain ⟨ν', k1, k2, k3⟩ := ih (j + 1) k (z_sL ν 22 (160 * s + j) 0) (by omega) (by omega)
    refine ⟨ν', k1, k2, fun i => ?_⟩
    rw [k3, sL2]
    by_cases c : i = 160 * s + j
    · subst c; rw [if_neg (by omega), if_pos ⟨rfl, rfl⟩, if_pos (by omega)]
    · by_cases c2 : 160 * s + j ≤ i ∧ i < 160 * s + m
      · rw [if_pos (by omega), if_pos c2]
      · rw [if_neg (by omega), if_neg (fun z => c z.2), if_neg c2]
theorem ag_row {N : Nat} {μ ν : z_M} (R : Rr N μ ν) (x y z : Int32) : Ag N (fun n => f_X8_row n x y z μ) (fun n => f_X9_row n x y z ν) := by
  unfold f_X8_row f_X9_row
  rw [mc_shelf x μ ν]
  rcases n3 x (n := 8) (by omega) with ⟨s, hs, rfl⟩ | h | ⟨j, h1, h2, rfl⟩
  · rw [cShelfY hs]
    simp only [ifn]
    rcases n3 z (n := 161) (by omega) with ⟨m, hm, rfl⟩ | h | ⟨m, hm, hm2, rfl⟩
    · simp only [if_neg (nI_pos (show m < 2 ^ 31 by omega)), if_neg (show ¬ (160 : Int32) < nI m from nI_nlt (a := 160) (by omega) (by omega))]
      have e0 : f_X5_isSort y μ = 0 ∨ ∃ t, t < 4 ∧ y = nI t := by
        unfold f_X5_isSort
        rcases n3 y (n := 4) (by omega) with ⟨t, ht, rfl⟩ | h | ⟨t, ht, ht2, rfl⟩
        · exact Or.inr ⟨t, ht, rfl⟩
        · rw [if_pos h]; exact Or.inl rfl
        · rw [if_neg (nI_pos ht2), if_neg (show ¬ nI t < (4 : Int32) from nI_nlt (b := 4) ht ht2)]; exact Or.inl rfl
      rcases e0 with e | ⟨t, ht, rfl⟩
      · have e2 : f_X9_isIn y 0 3 ν = 0 := by
          rcases dIn ν y 0 3 (by omega) (by omega) with q | ⟨t, h1, h3, rfl, q⟩
          · exact q
          · exfalso
            unfold f_X5_isSort at e
            rw [if_neg (nI_pos (by omega)), if_pos (show nI t < (4 : Int32) from nI_lt (b := 4) (by omega) (by omega))] at e
            exact absurd e (by decide)
        rw [e, e2]; exact ⟨_, _, _, ⟨0, rfl⟩, ⟨0, rfl⟩, R.refuse 6⟩
      · have e1 : f_X5_isSort (nI t) μ = 1 := by
          unfold f_X5_isSort
          rw [if_neg (nI_pos (by omega)), if_pos (show nI t < (4 : Int32) from nI_lt (b := 4) ht (by omega))]
        have e2 : f_X9_isIn (nI t) 0 3 ν = 1 := by
          unfold f_X9_isIn
          rw [if_neg (nI_pos (by omega)), if_neg (show ¬ (3 : Int32) < nI t from nI_nlt (a := 3) (by omega) (by omega))]
        rw [e1, e2]
        simp only [ifn]
        unfold f_X9_row_b47 f_X5_holdRow
        simp only [if_true, z_letE, g_putN hs (show 8 < 2 ^ 31 by decide), z_chkN hs (show 8 < 2 ^ 31 by decide), z_ixN (show s < 2 ^ 31 by omega), show (100 : Int32) + nI t = nI (100 + t) from nI_add 100 t]
        obtain ⟨μ', q1, q2, q3⟩ := cFill hs (show m ≤ 160 by omega) ht m 0 200 (z_sI (z_sI μ 25 s (nI (100 + t))) 27 s (nI m)) (by omega) (by omega) (by rw [sI1, if_pos ⟨rfl, rfl⟩]) (by rw [sI1, if_neg (by omega), sI1, if_pos ⟨rfl, rfl⟩])
        obtain ⟨ν', r1, r2, r3⟩ := mFill hs (show m ≤ 160 by omega) m 0 200 (z_sI (z_sI ν 19 s (nI t)) 20 s (nI m)) (by omega) (by omega)
        refine ⟨1, μ', ν', ⟨200, ?_⟩, ⟨200, r1⟩, R.shelf hs (fun k h1 h2 => ?_) (fun k _ j hj => ?_) (fun j hj => ?_) (fun k h1 h2 h3 => ?_) (fun k _ j hj => ?_) (fun j hj => ?_) (Or.inr (Or.inr ⟨t, m, ht, by omega, ?_, ?_, ?_, ?_, fun i hi => ?_⟩))⟩
        · have q1' : f_X5_holdRow_h24 200 (nI s) (nI m) 0 (z_sI (z_sI μ 25 s (nI (100 + t))) 27 s (nI m)) = some ((), μ') := q1
          dsimp only; rw [q1']; rfl
        · rw [q2, sI1f h2, sI1f h1]
        · rw [q2, sIne hj, sIne hj]
        · rw [q3, if_neg (by omega)]; rfl
        · rw [r2, sI1f h2, sI1f h1]
        · rw [r2, sIne hj, sIne hj]
        · rw [r3, if_neg (by omega)]; rfl
        · rw [r2, sI1, if_neg (by omega), sI1, if_pos ⟨rfl, rfl⟩]
        · rw [q2, sI1, if_neg (by omega), sI1, if_pos ⟨rfl, rfl⟩]
        · rw [r2, sI1, if_pos ⟨rfl, rfl⟩]
        · rw [q2, sI1, if_pos ⟨rfl, rfl⟩]
        · rw [q3, r3, if_pos (by omega), if_pos (by omega)]
    · simp only [if_pos h]
      exact ⟨_, _, _, ⟨0, rfl⟩, ⟨0, rfl⟩, R.refuse 4⟩
    · simp only [if_neg (nI_pos hm2), if_pos (show (160 : Int32) < nI m from nI_lt (a := 160) (by omega) hm2)]
      rw [show f_X9_isIn y 0 3 ν = f_X5_isSort y μ from by
        unfold f_X9_isIn f_X5_isSort
        by_cases c : y < 0
        · rw [if_pos c, if_pos c]
        · rw [if_neg c, if_neg c]
          rcases n3 y (n := 4) (by omega) with ⟨t, ht, rfl⟩ | h | ⟨t, ht, ht2, rfl⟩
          · rw [if_neg (show ¬ (3 : Int32) < nI t from nI_nlt (a := 3) (by omega) (by omega)), if_pos (show nI t < (4 : Int32) from nI_lt (b := 4) ht (by omega))]
          · exact absurd h c
          · rw [if_pos (show (3 : Int32) < nI t from nI_lt (a := 3) (by omega) ht2), if_neg (show ¬ nI t < (4 : Int32) from nI_nlt (b := 4) ht ht2)]]
      by_cases c : f_X5_isSort y μ = 0
      · simp only [if_pos c]; exact ⟨_, _, _, ⟨0, rfl⟩, ⟨0, rfl⟩, R.refuse 6⟩
      · simp only [if_neg c]; exact ⟨_, _, _, ⟨0, rfl⟩, ⟨0, rfl⟩, R.refuse 7⟩
  · rw [cShelfN (Or.inl h)]; exact ⟨_, _, _, ⟨0, rfl⟩, ⟨0, rfl⟩, R.refuse 1⟩
  · rw [cShelfN (Or.inr ⟨j, h1, h2, rfl⟩)]; exact ⟨_, _, _, ⟨0, rfl⟩, ⟨0, rfl⟩, R.refuse 1⟩
theorem Shf.of {μ ν : z_M} {s t m : Nat} (ht : t < 4) (hm : m ≤ 160) (D : RowD μ ν s t m) : Shf μ ν s := Or.inr (Or.inr ⟨t, m, ht, hm, D⟩)
theorem ag_set {N : Nat} {μ ν : z_M} (R : Rr N μ ν) (x y : Int32) (v : Int64) : Ag N (fun _ => f_X8_set x y v μ) (fun _ => f_X9_set x y v ν) := by
  unfold f_X8_set f_X9_set
  rcases dRow R.2.2.1 x with ⟨t, h1, h3, e1, e2⟩ | ⟨s, t, m, hs, ht, hm, rfl, e1, e2, D⟩
  · rw [e1, e2, z_bindS, z_letE]
    simp only [if_neg (refNe t h1 (by omega)), f_X8_set_b31, f_X9_set_b32, refC t h1 (by omega), refM t h1 (by omega), z_letE, z_bindS]
    exact ⟨_, _, _, ⟨0, rfl⟩, ⟨0, rfl⟩, R.refuse t⟩
  · rw [e1, e2, z_bindS, z_letE]
    simp only [if_true, z_chkN hs (show 8 < 2 ^ 31 by decide), z_ixN (show s < 2 ^ 31 by omega), D.2.2.1]
    rcases dEl (μ := μ) (ν := ν) hs hm D.2.2.2.1 y with ⟨q1, q2⟩ | ⟨i, hi, rfl, q1, q2⟩
    · rw [q1, q2]; exact ⟨_, _, _, ⟨0, rfl⟩, ⟨0, rfl⟩, R.refuse 5⟩
    · rw [q1, q2]
      simp only [ifn, f_X8_set_b31, f_X9_set_b32, if_true, cKeep (v := v) hs hm D.2.2.2.1 D.2.1 hi, z_bindS, z_letE, i160', z_chkN hs (show 8 < 2 ^ 31 by decide), z_ixN (show s < 2 ^ 31 by omega), z_chkN (show 160 * s + i < 1280 by omega) (show 1280 < 2 ^ 31 by decide), z_ixN (show 160 * s + i < 2 ^ 31 by omega), D.1, sub100]
      refine ⟨1, _, _, ⟨0, rfl⟩, ⟨0, rfl⟩, R.shelf hs (fun _ _ _ => rfl) (fun _ _ _ _ => rfl) (fun j hj => ?_) (fun _ _ _ _ => rfl) (fun _ _ _ _ => rfl) (fun j hj => ?_) (Shf.of ht hm ⟨D.1, D.2.1, D.2.2.1, D.2.2.2.1, fun k hk => ?_⟩)⟩
      · rw [sL2, if_neg (by omega)]
      · rw [sL2, if_neg (by omega)]
      · rw [sL2, sL2]
        by_cases c : k = i
        · subst c; rw [if_pos ⟨rfl, rfl⟩, if_pos ⟨rfl, rfl⟩]; rfl
        · rw [if_neg (by omega), if_neg (by omega)]; exact D.2.2.2.2 k hk
