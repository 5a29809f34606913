/-! shelves -/
def RowD (μ ν : z_M) (s t m : Nat) : Prop := ν.1 19 s = nI t ∧ μ.1 25 s = nI (100 + t) ∧ ν.1 20 s = nI m ∧ μ.1 27 s = nI m ∧ ∀ i, i < m → μ.2 23 (160 * s + i) = ν.2 22 (160 * s + i)
theorem cShelfN {x : Int32} {μ : z_M} (h : x < 0 ∨ ∃ j, 8 ≤ j ∧ j < 2 ^ 31 ∧ x = nI j) : f_X5_isShelf x μ = 0 := by
  unfold f_X5_isShelf
  rcases h with h | ⟨j, h1, h2, rfl⟩
  · rw [if_pos h]
  · rw [if_neg (nI_pos h2), if_neg (show ¬ nI j < (8 : Int32) from nI_nlt (b := 8) h1 h2)]
theorem cShelfY {s : Nat} {μ : z_M} (h : s < 8) : f_X5_isShelf (nI s) μ = 1 := by
  unfold f_X5_isShelf
  rw [if_neg (nI_pos (by omega)), if_pos (show nI s < (8 : Int32) from nI_lt (b := 8) h (by omega))]
theorem mc_shelf (x : Int32) (μ ν : z_M) : f_X9_isShelf x ν = f_X5_isShelf x μ := rfl
theorem neHi {h : Nat} (hh : h < 8) : ¬ nI h = -1 := fun e => by rw [nI_em1 (by omega)] at e; exact e
theorem cIsH1 {h : Nat} (hh : h < 100) (μ : z_M) : f_X5_isHouse (nI h) μ = 1 := by
  unfold f_X5_isHouse f_X5_isRow
  rw [if_neg (fun e => by rw [nI_em1 (by omega)] at e; exact e), if_pos (show nI h < (100 : Int32) from nI_lt (b := 100) hh (by omega)), ifz]
theorem cIsH0 {t : Nat} (ht : t < 4) (μ : z_M) : f_X5_isHouse (nI (100 + t)) μ = 0 := by
  unfold f_X5_isHouse f_X5_isRow
  rw [if_neg (fun e => by rw [nI_em1 (by omega)] at e; exact e), if_neg (show ¬ nI (100 + t) < (100 : Int32) from nI_nlt (b := 100) (by omega) (by omega)), ifn]
theorem cIsHm (μ : z_M) : f_X5_isHouse (-1) μ = 0 := rfl
theorem nIne4 {t : Nat} (ht : t < 4) : ¬ nI t = 4 := nI_ne (b := 4) (by omega) (by omega) (by omega)
theorem dRow {μ ν : z_M} (hR : RH μ ν) (x : Int32) : (∃ t, 1 ≤ t ∧ t ≤ 3 ∧ f_X5_troubleWithRow x μ = -(nI t) ∧ f_X9_notRow x ν = some (-(nI t), ν)) ∨ ∃ s t m, s < 8 ∧ t < 4 ∧ m ≤ 160 ∧ x = nI s ∧ f_X5_troubleWithRow (nI s) μ = 0 ∧ f_X9_notRow (nI s) ν = some (0, ν) ∧ RowD μ ν s t m := by
  unfold f_X5_troubleWithRow f_X5_troubleWithTwoRows f_X9_notRow
  rw [mc_shelf x μ ν]
  rcases n3 x (n := 8) (by omega) with ⟨s, hs, rfl⟩ | h | h
  · rw [cShelfY hs]
    simp only [ifn, z_letE, g_getN hs (show 8 < 2 ^ 31 by decide), z_chkN hs (show 8 < 2 ^ 31 by decide), z_ixN (show s < 2 ^ 31 by omega)]
    rcases hR s hs with ⟨a1, a2, a3⟩ | ⟨h, hh, a1, a2, a3, a4⟩ | ⟨t, m, ht, hm, a1, a2, a3, a4, a5⟩
    · left
      rw [a1, a2]
      exact ⟨3, by omega, by omega, rfl, rfl⟩
    · left
      rw [a1, a3, cIsH1 (by omega)]
      exact ⟨2, by omega, by omega, rfl, rfl⟩
    · right
      refine ⟨s, t, m, hs, ht, hm, rfl, ?_, ?_, a1, a2, a3, a4, a5⟩
      · rw [cShelfY hs, g_getN hs (by decide), a2, cIsH0 ht]
        simp only [ifn, ifz, if_true]
        simp only [if_neg (show ¬ nI (100 + t) = -1 from fun e => by rw [nI_em1 (by omega)] at e; exact e)]
      · rw [mc_shelf (nI s) μ ν, cShelfY hs, ifn, z_chkN hs (by decide), z_chkN hs (by decide), z_ixN (by omega), a1, if_neg (nIne4 ht), if_neg (nI_pos (by omega))]
  · rw [cShelfN (Or.inl h)]; exact Or.inl ⟨1, by omega, by omega, rfl, rfl⟩
  · rw [cShelfN (Or.inr h)]; exact Or.inl ⟨1, by omega, by omega, rfl, rfl⟩
/-- an element's place in a row -/
theorem dEl {μ ν : z_M} {s m : Nat} (hs : s < 8) (hm : m ≤ 160) (e1 : μ.1 27 s = nI m) (x : Int32) : (f_X5_hasElement (nI s) x μ = 0 ∧ f_X9_isIn x 0 (nI m - 1) ν = 0) ∨ ∃ i, i < m ∧ x = nI i ∧ f_X5_hasElement (nI s) (nI i) μ = 1 ∧ f_X9_isIn (nI i) 0 (nI m - 1) ν = 1 := by
  unfold f_X5_hasElement f_X9_isIn
  rw [g_getN hs (by decide), e1]
  rcases n3 x (n := m) (by omega) with ⟨i, hi, rfl⟩ | h | ⟨i, hi, hi2, rfl⟩
  · right
    refine ⟨i, hi, rfl, ?_, ?_⟩
    · rw [if_neg (nI_pos (by omega)), if_pos (nI_lt hi (by omega))]
    · rw [if_neg (nI_pos (by omega)), i_pred (by omega), if_neg (nI_nlt (by omega) (by omega))]
  · left; rw [if_pos h, if_pos h]; exact ⟨rfl, rfl⟩
  · left
    refine ⟨by rw [if_neg (nI_pos hi2), if_neg (nI_nlt hi hi2)], ?_⟩
    rw [if_neg (nI_pos hi2)]
    by_cases z : m = 0
    · subst z
      rw [if_pos (show nI 0 - 1 < nI i from Int32.lt_of_lt_of_le (b := nI 0) (by decide) (nI_le (Nat.zero_le _) hi2))]
    · rw [i_pred (by omega), if_pos (nI_lt (by omega) hi2)]
theorem cElN {μ : z_M} {s x : Int32} (h : f_X5_hasElement s x μ = 0) : f_X5_elementAt s x μ = some (0, μ) := by
  unfold f_X5_elementAt
  rw [z_letE, h]; rfl
theorem cElY {μ : z_M} {s i : Nat} (hs : s < 8) (hi : i < 160) (h : f_X5_hasElement (nI s) (nI i) μ = 1) : f_X5_elementAt (nI s) (nI i) μ = some (μ.2 23 (160 * s + i), μ) := by
  unfold f_X5_elementAt f_X5_elementAt_b35
  rw [z_letE, h, i160]
  simp only [ifn]
  rw [if_neg (nI_pos (by omega)), if_pos (show nI (160 * s + i) < (1280 : Int32) from nI_lt (b := 1280) (by omega) (by omega)), z_chkN (by omega) (by decide), z_ixN (by omega)]
theorem mInt {ν : z_M} {s i : Nat} (hs : s < 8) (hi : i < 160) : f_X9_intAt (nI s) (nI i) ν = some (Int64.toInt32 (ν.2 22 (160 * s + i)), ν) := by
  unfold f_X9_intAt
  rw [i160', z_chkN (by omega) (by decide), z_ixN (by omega)]
theorem cInt {μ ν : z_M} {s t m i : Nat} (hs : s < 8) (hm : m ≤ 160) (D : RowD μ ν s t m) (hi : i < m) : f_X5_intAt (nI s) (nI i) μ = some (Int64.toInt32 (ν.2 22 (160 * s + i)), μ) := by
  unfold f_X5_intAt
  rcases dEl (μ := μ) (ν := ν) hs hm D.2.2.2.1 (nI i) with ⟨e, -⟩ | ⟨j, hj, ej, e, -⟩
  · exfalso
    unfold f_X5_hasElement at e
    rw [g_getN hs (by decide), D.2.2.2.1, if_neg (nI_pos (by omega)), if_pos (nI_lt hi (by omega))] at e
    exact absurd e (by decide)
  · obtain rfl := nI_inj (by omega) (by omega) ej
    rw [cElY hs (by omega) e, z_bindS, D.2.2.2.2 i hi]
theorem ag_element {N : Nat} {μ ν : z_M} (R : Rr N μ ν) (x y : Int32) : Ag N (fun _ => f_X8_element x y μ) (fun _ => f_X9_element x y ν) := by
  unfold f_X8_element f_X9_element f_X9_element_b52
  rw [mc_shelf x μ ν]
  have bad : ∀ s, f_X5_hasElement s y μ = 0 → Ag N (fun _ => z_bind (f_X5_elementAt s y μ) (fun p1 => some (p1.1, p1.2))) (fun _ => some (0, ν)) := fun s h => by
    rw [cElN h]; exact ⟨_, _, _, ⟨0, rfl⟩, ⟨0, rfl⟩, R⟩
  have zero : ∀ s, g_get 27 8 s μ = 0 → f_X5_hasElement s y μ = 0 := fun s h => by
    unfold f_X5_hasElement
    rw [h]
    by_cases c : y < 0
    · rw [if_pos c]
    · rw [if_neg c, if_neg c]
  rcases n3 x (n := 8) (by omega) with ⟨s, hs, rfl⟩ | h | ⟨j, h1, h2, rfl⟩
  · rw [cShelfY hs]
    simp only [ifn, z_chkN hs (show 8 < 2 ^ 31 by decide), z_ixN (show s < 2 ^ 31 by omega)]
    have sh := R.2.2.1 s hs
    have zs : μ.1 27 s = 0 → f_X5_hasElement (nI s) y μ = 0 := fun h => zero _ (by rw [g_getN hs (by decide)]; exact h)
    rcases sh with ⟨a1, a2, a3⟩ | ⟨h, hh, a1, a2, a3, a4⟩ | ⟨t, m, ht, hm, a1, a2, a3, a4, a5⟩
    · rw [a1, show f_X9_isIn (-1) 0 3 ν = 0 from rfl]; exact bad _ (zs a3)
    · rw [a1, show f_X9_isIn 4 0 3 ν = 0 from rfl]; exact bad _ (zs a4)
    · rw [a1, a3]
      have e : f_X9_isIn (nI t) 0 3 ν = 1 := by
        unfold f_X9_isIn
        rw [if_neg (nI_pos (by omega)), if_neg (show ¬ (3 : Int32) < nI t from nI_nlt (a := 3) (by omega) (by omega))]
      rw [e, ifn]
      rcases dEl (μ := μ) (ν := ν) hs hm a4 y with ⟨e1, e2⟩ | ⟨i, hi, rfl, e1, e2⟩
      · rw [e2]; exact bad _ e1
      · rw [e2, ifn, cElY hs (by omega) e1, z_bindS, i160', z_chkN (by omega) (by decide), z_ixN (by omega), a5 i hi]
        exact ⟨_, _, _, ⟨0, rfl⟩, ⟨0, rfl⟩, R⟩
  · rw [cShelfN (Or.inl h)]; exact bad _ (zero _ (g_getM h))
  · rw [cShelfN (Or.inr ⟨j, h1, h2, rfl⟩)]; exact bad _ (zero _ (g_getO h1 h2))
theorem ag_holds {N : Nat} {μ ν : z_M} (R : Rr N μ ν) (x : Int32) : Ag N (fun _ => z_oP μ (f_X8_holds x μ)) (fun _ => f_X9_holds x ν) := by
  unfold f_X8_holds f_X5_holding f_X9_holds f_X9_holds_b16
  rw [mc_shelf x μ ν]
  rcases n3 x (n := 8) (by omega) with ⟨s, hs, rfl⟩ | h | ⟨j, h1, h2, rfl⟩
  · rw [cShelfY hs]
    simp only [ifn, z_chkN hs (show 8 < 2 ^ 31 by decide), z_ixN (show s < 2 ^ 31 by omega), g_getN hs (show 8 < 2 ^ 31 by decide)]
    rcases R.2.2.1 s hs with ⟨a1, a2, a3⟩ | ⟨h, hh, a1, a2, a3, a4⟩ | ⟨t, m, ht, hm, a1, a2, a3, a4, a5⟩
    · rw [a1, a2]; exact ⟨_, _, _, ⟨0, rfl⟩, ⟨0, rfl⟩, R⟩
    · rw [a1, a2, a3]; exact ⟨_, _, _, ⟨0, rfl⟩, ⟨0, rfl⟩, R⟩
    · rw [a1, a2, if_neg (nI_pos (by omega)), if_neg (nIne4 ht), show (100 : Int32) + nI t = nI (100 + t) from nI_add 100 t]
      exact ⟨_, _, _, ⟨0, rfl⟩, ⟨0, rfl⟩, R⟩
  · rw [cShelfN (Or.inl h)]; exact ⟨_, _, _, ⟨0, rfl⟩, ⟨0, rfl⟩, R⟩
  · rw [cShelfN (Or.inr ⟨j, h1, h2, rfl⟩)]; exact ⟨_, _, _, ⟨0, rfl⟩, ⟨0, rfl⟩, R⟩
/-- one shelf changed -/
theorem Rr.shelf {N s : Nat} {μ ν μ' ν' : z_M} (R : Rr N μ ν) (hs : s < 8) (c1 : ∀ k, k ≠ 25 → k ≠ 27 → μ'.1 k = μ.1 k) (c2 : ∀ k, k = 25 ∨ k = 27 → ∀ j, j ≠ s → μ'.1 k j = μ.1 k j) (c3 : ∀ j, (j < 160 * s ∨ 160 * s + 160 ≤ j) → μ'.2 23 j = μ.2 23 j) (m1 : ∀ k, k ≠ 19 → k ≠ 20 → k ≠ 21 → ν'.1 k = ν.1 k) (m2 : ∀ k, k = 19 ∨ k = 20 ∨ k = 21 → ∀ j, j ≠ s → ν'.1 k j = ν.1 k j) (m3 : ∀ j, (j < 160 * s ∨ 160 * s + 160 ≤ j) → ν'.2 22 j = ν.2 22 j) (h : Shf μ' ν' s) : Rr N μ' ν' := by
  obtain ⟨⟨S, s1, s2, s3, s4, s5⟩, hI, hH, hF, hL, ⟨⟨r, a1, a2, a3⟩, a4⟩, hz⟩ := R
  have d : ∀ k, k ≠ 19 → k ≠ 20 → k ≠ 21 → ∀ j, ν'.1 k j = ν.1 k j := fun k h1 h2 h3 j => by rw [m1 k h1 h2 h3]
  obtain ⟨k1, k2, ⟨mm, k3, k4, k5⟩, n1, n2, n3, n4, n5, n6, n7⟩ := s2
  refine ⟨⟨S, s1.same (fun j => by rw [c1 3 (by decide) (by decide)]) (fun j => by rw [c1 5 (by decide) (by decide)]) (fun j => by rw [c1 7 (by decide) (by decide)]) (fun j => by rw [c1 1 (by decide) (by decide)]), ⟨fun x hx => ?_, fun x hx => ?_, ⟨mm, k3, ?_, fun i hi => ?_⟩, ?_, ?_, ?_, ?_, ?_, ?_, ?_⟩, s3, ?_, ?_⟩, hI.same (fun j => ⟨by rw [c1 8 (by decide) (by decide)], by rw [c1 10 (by decide) (by decide)], by rw [c1 12 (by decide) (by decide)], by rw [c1 14 (by decide) (by decide)]⟩) (by rw [c1 0 (by decide) (by decide)]) (fun j hj => d 24 (by decide) (by decide) (by decide) j) (d 0 (by decide) (by decide) (by decide) 42), fun s' hs' => ?_, fun i hi => ?_, ?_, ⟨⟨r, a1, ?_, ?_⟩, fun i hi => ?_⟩, ?_⟩
  · rw [d 2 (by decide) (by decide) (by decide), d 3 (by decide) (by decide) (by decide), d 4 (by decide) (by decide) (by decide), d 10 (by decide) (by decide) (by decide), d 11 (by decide) (by decide) (by decide)]; exact k1 x hx
  · rw [d 5 (by decide) (by decide) (by decide), d 6 (by decide) (by decide) (by decide), d 7 (by decide) (by decide) (by decide), d 8 (by decide) (by decide) (by decide)]; exact k2 x hx
  · rw [d 14 (by decide) (by decide) (by decide)]; exact k4
  · rw [d 13 (by decide) (by decide) (by decide)]; exact k5 i hi
  · rw [d 0 (by decide) (by decide) (by decide)]; exact n1
  · rw [d 0 (by decide) (by decide) (by decide)]; exact n2
  · rw [d 0 (by decide) (by decide) (by decide)]; exact n3
  · rw [d 9 (by decide) (by decide) (by decide)]; exact n4
  · rw [d 0 (by decide) (by decide) (by decide)]; exact n5
  · rw [d 0 (by decide) (by decide) (by decide)]; exact n6
  · rw [d 0 (by decide) (by decide) (by decide)]; exact n7
  · rw [d 0 (by decide) (by decide) (by decide)]; exact s4
  · rw [d 0 (by decide) (by decide) (by decide)]; exact s5
  · by_cases e : s' = s
    · rw [e]; exact h
    · have h0 := hH s' hs'
      unfold Shf at h0 ⊢
      rw [c2 25 (Or.inl rfl) s' e, c2 27 (Or.inr rfl) s' e, m2 19 (by omega) s' e, m2 20 (by omega) s' e, m2 21 (by omega) s' e]
      rcases h0 with h0 | h0 | ⟨t, m, q1, q2, q3, q4, q5, q6, q7⟩
      · exact Or.inl h0
      · exact Or.inr (Or.inl h0)
      · exact Or.inr (Or.inr ⟨t, m, q1, q2, q3, q4, q5, q6, fun i hi => by rw [c3 _ (by omega), m3 _ (by omega)]; exact q7 i hi⟩)
  · rw [c1 49 (by decide) (by decide), d 1 (by decide) (by decide) (by decide)]; exact hF i hi
  · rw [c1 0 (by decide) (by decide), d 0 (by decide) (by decide) (by decide)]; exact hL
  · rw [c1 28 (by decide) (by decide)]; exact a2
  · rw [d 0 (by decide) (by decide) (by decide)]; exact a3
  · rw [c1 30 (by decide) (by decide), d 26 (by decide) (by decide) (by decide)]; exact a4 i hi
  · rw [c1 41 (by decide) (by decide)]; exact hz
theorem cHoldHouse {s : Nat} (hs : s < 8) (v : Int32) (μ : z_M) : f_X5_holdHouse (nI s) v μ = z_sI (z_sI μ 25 s v) 27 s 0 := by
  unfold f_X5_holdHouse
  rw [g_putN hs (by decide), z_letE, g_putN hs (by decide), z_letE]
theorem sIne {μ : z_M} {k j : Nat} {v : Int32} {k' j' : Nat} (h : j' ≠ j) : (z_sI μ k j v).1 k' j' = μ.1 k' j' := by rw [sI1, if_neg (fun e => h e.2)]
theorem ag_show {N : Nat} {μ ν : z_M} (R : Rr N μ ν) (x y : Int32) : Ag N (fun _ => z_oT (f_X8_show x y μ)) (fun _ => f_X9_show x y ν) := by
  obtain ⟨S, H, W, g, O⟩ := R.1.op
  have O' := O
  obtain ⟨⟨s1, s2, V⟩, ⟨hH, hW, hg1, hg3⟩, ⟨eH, eW, eg⟩, ⟨c3, c4, c5, c6⟩, ⟨m8, m9, m10, mb, m23, m24⟩, hb⟩ := O
  unfold f_X8_show f_X9_show
  rw [mc_shelf x μ ν]
  have bad : Ag N (fun _ => z_oT (f_X8_show_b27 μ)) (fun _ => f_X9_show_b20 ν) := ⟨_, _, _, ⟨0, rfl⟩, ⟨0, rfl⟩, R.refuse 1⟩
  rcases n3 x (n := 8) (by omega) with ⟨s, hs, rfl⟩ | h | ⟨j, h1, h2, rfl⟩
  · rw [cShelfY hs, ifn, ifn]
    have key : ∀ (v so : Int32), Shf (z_sI (z_sI μ 25 s v) 27 s 0) (z_sI (z_sI ν 19 s so) 21 s v) s → Rr N (z_sI (z_sI μ 25 s v) 27 s 0) (z_sI (z_sI ν 19 s so) 21 s v) := fun v so hS =>
      R.shelf hs (fun k h1 h2 => by rw [sI1f h2, sI1f h1]) (fun k _ j hj => by rw [sIne hj, sIne hj]) (fun _ _ => rfl) (fun k h1 h2 h3 => by rw [sI1f h3, sI1f h1]) (fun k _ j hj => by rw [sIne hj, sIne hj]) (fun _ _ => rfl) hS
    by_cases n1 : y = -1
    · rw [if_pos n1, if_pos n1]
      unfold f_X8_show_b33 f_X9_show_b26 f_X9_show_b41
      rw [cHoldHouse hs, if_pos n1]
      simp only [z_letE, z_chkN hs (show 8 < 2 ^ 31 by decide), z_ixN (show s < 2 ^ 31 by omega), if_pos n1]
      refine ⟨0, _, _, ⟨0, rfl⟩, ⟨0, rfl⟩, key y (-1) (Or.inl ⟨?_, ?_, ?_⟩)⟩
      · rw [sI1, if_neg (by omega), sI1, if_pos ⟨rfl, rfl⟩]
      · rw [sI1, if_neg (by omega), sI1, if_pos ⟨rfl, rfl⟩]; exact n1
      · rw [sI1, if_pos ⟨rfl, rfl⟩]
    · rw [if_neg n1, if_neg n1]
      rcases dH c3 m8 hH y with ⟨e1, e2⟩ | ⟨j, hj, rfl, e1, e2⟩
      · rw [e1, e2]; exact bad
      · rw [e1, e2, ifn, ifn]
        unfold f_X8_show_b33 f_X9_show_b26 f_X9_show_b41
        rw [cHoldHouse hs, if_neg n1]
        simp only [z_letE, z_chkN hs (show 8 < 2 ^ 31 by decide), z_ixN (show s < 2 ^ 31 by omega), if_neg n1]
        refine ⟨1, _, _, ⟨0, rfl⟩, ⟨0, rfl⟩, key (nI j) 4 (Or.inr (Or.inl ⟨j, by omega, ?_, ?_, ?_, ?_⟩))⟩
        · rw [sI1, if_neg (by omega), sI1, if_pos ⟨rfl, rfl⟩]
        · rw [sI1, if_pos ⟨rfl, rfl⟩]
        · rw [sI1, if_neg (by omega), sI1, if_pos ⟨rfl, rfl⟩]
        · rw [sI1, if_pos ⟨rfl, rfl⟩]
  · rw [cShelfN (Or.inl h)]; exact bad
  · rw [cShelfN (Or.inr ⟨j, h1, h2, rfl⟩)]; exact bad
