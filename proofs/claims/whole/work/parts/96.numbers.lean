/-! reading numbers -/
theorem rdDig {N : Nat} {x : Nat → Int32} {m s q : Nat} {μ ν : z_M} {S : zS} (r : Rn N x m s μ ν S q) : (∃ d, 48 ≤ d ∧ d ≤ 57 ∧ q < m ∧ x q = nI d ∧ f_X3_isDigit μ = 1 ∧ f_X9_isIn (nI d) 48 57 ν = 1) ∨ (f_X3_isDigit μ = 0 ∧ f_X9_isIn (if q < m then x q else -1) 48 57 ν = 0) := by
  unfold f_X3_isDigit f_X9_isIn
  rw [cLetter r]
  by_cases c : q < m
  · rw [if_pos c, if_pos c]
    by_cases c1 : x q < 48
    · exact Or.inr ⟨by rw [if_pos c1], by rw [if_pos c1]⟩
    · by_cases c2 : (57 : Int32) < x q
      · exact Or.inr ⟨by rw [if_neg c1, if_pos c2], by rw [if_neg c1, if_pos c2]⟩
      · have p0 : ¬ x q < 0 := fun h => c1 (Int32.lt_trans h (by decide))
        obtain ⟨d, hd, e⟩ := nI_of p0
        rw [e] at c1 c2 ⊢
        refine Or.inl ⟨d, ?_, ?_, c, rfl, ?_, ?_⟩
        · apply Classical.byContradiction
          intro h
          exact c1 (nI_lt (b := 48) (by omega) (by omega))
        · apply Classical.byContradiction
          intro h
          exact c2 (nI_lt (a := 57) (by omega) hd)
        · rw [if_neg c1, if_neg c2]
        · rw [if_neg c1, if_neg c2]
  · rw [if_neg c, if_neg c]
    exact Or.inr ⟨by decide, by decide⟩
theorem rdN {N : Nat} {x : Nat → Int32} {m s q : Nat} {μ ν : z_M} {S : zS} (r : Rn N x m s μ ν S q) (l1 l2 u : Int32) (n : Nat) (hn : 20 ≤ n) :
    (∃ v μ' ν', f_X3_readNumber n l1 l2 u μ = some (v, μ') ∧ f_X9_takesNumber n l1 l2 ν = some (0, ν') ∧ Bd μ' ν' ∧ FS μ μ' ∧ FT ν ν') ∨
    (∃ v μ' ν' st, f_X3_readNumber n l1 l2 u μ = some (nI v, μ') ∧ f_X9_takesNumber n l1 l2 ν = some (1, ν') ∧ nI v = u ∧ ν'.1 0 40 = nI v ∧ ν'.1 0 39 = nI st ∧ μ'.1 45 4 = nI st ∧ st < 2 ^ 31 ∧ v < 1000 ∧ FS μ μ' ∧ FT ν ν') ∨
    (∃ v μ' ν' q', q < q' ∧ f_X3_readNumber n l1 l2 u μ = some (nI v, μ') ∧ f_X9_takesNumber n l1 l2 ν = some (1, ν') ∧ Rn N x m s μ' ν' S q' ∧ nI v ≠ u ∧ ν'.1 0 40 = nI v ∧ ¬ nI v < l1 ∧ ¬ l2 < nI v ∧ v < 1000 ∧ FS μ μ' ∧ FT ν ν') := by
  have hq160 : q ≤ m := r.2.2.2.2.2.2.2.2.2
  have hm160 : m ≤ 160 := r.1.1
  rcases rdL r (c := 32) (by decide) (by decide) with ⟨a1, a2, a3, a4⟩ | ⟨a3, a4⟩
  · obtain ⟨r1, f1, t1⟩ := r.step a1
    generalize eμ : z_sI μ 45 3 (nI (q + 1)) = μ1 at r1 f1 a3
    generalize eν : z_sI ν 0 38 (nI (q + 1)) = ν1 at r1 t1 a4
    have c38 : ν1.1 0 38 = nI (q + 1) := r1.2.2.2.2.2.2.2.2.1
    have c3 : μ1.1 45 3 = nI (q + 1) := r1.2.2.2.2.2.2.2.1
    obtain ⟨r2, t2⟩ := r1.own (j := 39) (v := nI (q + 1)) (Or.inl rfl)
    obtain ⟨r3, t3⟩ := r2.own (j := 40) (v := 0) (Or.inr rfl)
    generalize eν3 : z_sI (z_sI ν1 0 39 (nI (q + 1))) 0 40 0 = ν3 at r3 t3
    have b39 : ν3.1 0 39 = nI (q + 1) := by rw [← eν3, sI1, if_neg (by omega), sI1, if_pos ⟨rfl, rfl⟩]
    have b40 : ν3.1 0 40 = nI 0 := by rw [← eν3, sI1, if_pos ⟨rfl, rfl⟩]; rfl
    have red1 : f_X3_readNumber n l1 l2 u μ = f_X3_readNumber_h18 n l1 l2 u (nI (q + 1)) (nI 0) (nI 0) μ1 := by
      unfold f_X3_readNumber
      rw [a3, z_letE, z_letE, c3]; rfl
    have red2 : f_X9_takesNumber n l1 l2 ν = f_X9_takesNumber_h26 n l1 l2 (nI 0) ν3 := by
      unfold f_X9_takesNumber
      rw [a4, z_bindS, if_neg (show ¬ (1 : Int32) = 0 by decide), z_letE, z_letE]
      dsimp only
      rw [c38, eν3]; rfl
    rw [red1, red2]
    have ff := f1
    have tt := t1.tr (t2.tr t3)
    -- the end of a number
    have fin : ∀ (j v : Nat) (n : Nat) (μ' ν' : z_M), Rn N x m s μ' ν' S (q + 1 + j) → ν'.1 0 39 = nI (q + 1) → ν'.1 0 40 = nI v → v < 1000 → j ≤ 3 → FS μ μ' → FT ν ν' →
        (∃ v μ2 ν2, f_X3_readNumber_b77 n l1 l2 u (nI (q + 1)) v μ' = some (v, μ2) ∧ f_X9_takesNumber_b80 n l1 l2 (nI j) ν' = some (0, ν2) ∧ Bd μ2 ν2 ∧ FS μ μ2 ∧ FT ν ν2 ∧ ν'.1 0 40 = v) ∨
        (∃ μ2 ν2, f_X3_readNumber_b77 n l1 l2 u (nI (q + 1)) (nI v) μ' = some (nI v, μ2) ∧ f_X9_takesNumber_b80 n l1 l2 (nI j) ν' = some (1, ν2) ∧ nI v = u ∧ ν2.1 0 40 = nI v ∧ ν2.1 0 39 = nI (q + 1) ∧ μ2.1 45 4 = nI (q + 1) ∧ FS μ μ2 ∧ FT ν ν2) ∨
        (f_X3_readNumber_b77 n l1 l2 u (nI (q + 1)) (nI v) μ' = some (nI v, μ') ∧ f_X9_takesNumber_b80 n l1 l2 (nI j) ν' = some (1, ν') ∧ nI v ≠ u ∧ ¬ nI v < l1 ∧ ¬ l2 < nI v ∧ 0 < j) := by
      intro j v n μ' ν' rr d39 d40 hv hj ff tt
      have d3 : μ'.1 45 3 = nI (q + 1 + j) := rr.2.2.2.2.2.2.2.1
      have d38 : ν'.1 0 38 = nI (q + 1 + j) := rr.2.2.2.2.2.2.2.2.1
      have d4 : μ'.1 45 4 = -1 := rr.2.2.2.2.2.2.1
      unfold f_X3_readNumber_b77 f_X3_readNumber_b104 f_X9_takesNumber_b80 f_X9_isIn
      rw [d3, d39, d40, dofail d4]
      simp only [z_letE]
      have k4 : (z_sI μ' 45 4 (nI (q + 1))).1 45 4 = nI (q + 1) := by rw [sI1, if_pos ⟨rfl, rfl⟩]
      have kf : FS μ (z_sI μ' 45 4 (nI (q + 1))) := ff.sI (by omega)
      have kt : FT ν (z_sI ν' 0 38 (nI (q + 1))) := tt.sI (by unfold LT; omega)
      by_cases z : j = 0
      · refine Or.inl ⟨nI v, _, ν', ?_, ?_, ⟨q + 1, by omega, k4, ?_⟩, kf, tt, rfl⟩
        · rw [if_pos (by rw [z])]
        · rw [if_pos (show nI j = 0 by rw [z]; rfl)]
        · rw [d38, z]
      · rw [if_neg (show ¬ nI (q + 1 + j) = nI (q + 1) from nI_ne (by omega) (by omega) (by omega)), if_neg (show ¬ nI j = 0 from nI_ne (b := 0) (by omega) (by omega) z)]
        by_cases y1 : nI v < l1
        · refine Or.inl ⟨nI v, _, z_sI ν' 0 38 (nI (q + 1)), ?_, ?_, ⟨q + 1, by omega, k4, ?_⟩, kf, kt, rfl⟩
          · rw [if_neg (show ¬ nI (q + 1 + j) = nI (q + 1) from nI_ne (by omega) (by omega) (by omega)), if_pos y1]
          · rw [if_pos y1, if_pos rfl]
          · rw [sI1, if_pos ⟨rfl, rfl⟩]
        · by_cases y2 : l2 < nI v
          · refine Or.inl ⟨nI v, _, z_sI ν' 0 38 (nI (q + 1)), ?_, ?_, ⟨q + 1, by omega, k4, ?_⟩, kf, kt, rfl⟩
            · rw [if_neg (show ¬ nI (q + 1 + j) = nI (q + 1) from nI_ne (by omega) (by omega) (by omega)), if_neg y1, if_pos y2]
            · rw [if_neg y1, if_pos y2, if_pos rfl]
            · rw [sI1, if_pos ⟨rfl, rfl⟩]
          · rw [if_neg y1, if_neg y2, if_neg y1, if_neg y2, ifn]
            by_cases y3 : nI v = u
            · rw [if_pos y3]
              exact Or.inr (Or.inl ⟨_, ν', rfl, rfl, y3, d40, d39, k4, kf, tt⟩)
            · rw [if_neg y3]
              exact Or.inr (Or.inr ⟨rfl, rfl, y3, y1, y2, by omega⟩)
    have wrap : ∀ (j v n n' : Nat) (μ' ν' : z_M), Rn N x m s μ' ν' S (q + 1 + j) → ν'.1 0 39 = nI (q + 1) → ν'.1 0 40 = nI v → v < 1000 → j ≤ 3 → FS μ μ' → FT ν ν' → ∀ (A B : Option (Int32 × z_M)), A = f_X3_readNumber_b77 n l1 l2 u (nI (q + 1)) (nI v) μ' → B = f_X9_takesNumber_b80 n' l1 l2 (nI j) ν' →
        (∃ v μ' ν', A = some (v, μ') ∧ B = some (0, ν') ∧ Bd μ' ν' ∧ FS μ μ' ∧ FT ν ν') ∨
        (∃ v μ' ν' st, A = some (nI v, μ') ∧ B = some (1, ν') ∧ nI v = u ∧ ν'.1 0 40 = nI v ∧ ν'.1 0 39 = nI st ∧ μ'.1 45 4 = nI st ∧ st < 2 ^ 31 ∧ v < 1000 ∧ FS μ μ' ∧ FT ν ν') ∨
        (∃ v μ' ν' q', q < q' ∧ A = some (nI v, μ') ∧ B = some (1, ν') ∧ Rn N x m s μ' ν' S q' ∧ nI v ≠ u ∧ ν'.1 0 40 = nI v ∧ ¬ nI v < l1 ∧ ¬ l2 < nI v ∧ v < 1000 ∧ FS μ μ' ∧ FT ν ν') := by
      intro j v n n' μ' ν' rr d39 d40 hv hj ff tt A B eA eB
      have eB' : B = f_X9_takesNumber_b80 n l1 l2 (nI j) ν' := eB
      rcases fin j v n μ' ν' rr d39 d40 hv hj ff tt with ⟨v', μ2, ν2, g1, g2, g3, g4, g5, g6⟩ | ⟨μ2, ν2, g1, g2, g3, g4, g5, g6, g7, g8⟩ | ⟨g1, g2, g3, g4, g5, g6⟩
      · rw [← g6, d40] at g1
        exact Or.inl ⟨nI v, μ2, ν2, eA.trans g1, eB'.trans g2, g3, g4, g5⟩
      · exact Or.inr (Or.inl ⟨v, μ2, ν2, q + 1, eA.trans g1, eB'.trans g2, g3, g4, g5, g6, by omega, hv, g7, g8⟩)
      · exact Or.inr (Or.inr ⟨v, μ', ν', q + 1 + j, by omega, eA.trans g1, eB'.trans g2, rr, g3, d40, g4, g5, hv, ff, tt⟩)
    have key : ∀ (d j v n n' : Nat) (μ' ν' : z_M), j + d = 3 → d < n → d < n' → v < 10 ^ j → Rn N x m s μ' ν' S (q + 1 + j) → ν'.1 0 39 = nI (q + 1) → ν'.1 0 40 = nI v → FS μ μ' → FT ν ν' →
        (∃ v' μ2 ν2, f_X3_readNumber_h18 n l1 l2 u (nI (q + 1)) (nI v) (nI j) μ' = some (v', μ2) ∧ f_X9_takesNumber_h26 n' l1 l2 (nI j) ν' = some (0, ν2) ∧ Bd μ2 ν2 ∧ FS μ μ2 ∧ FT ν ν2) ∨
        (∃ v' μ2 ν2 st, f_X3_readNumber_h18 n l1 l2 u (nI (q + 1)) (nI v) (nI j) μ' = some (nI v', μ2) ∧ f_X9_takesNumber_h26 n' l1 l2 (nI j) ν' = some (1, ν2) ∧ nI v' = u ∧ ν2.1 0 40 = nI v' ∧ ν2.1 0 39 = nI st ∧ μ2.1 45 4 = nI st ∧ st < 2 ^ 31 ∧ v' < 1000 ∧ FS μ μ2 ∧ FT ν ν2) ∨
        (∃ v' μ2 ν2 q', q < q' ∧ f_X3_readNumber_h18 n l1 l2 u (nI (q + 1)) (nI v) (nI j) μ' = some (nI v', μ2) ∧ f_X9_takesNumber_h26 n' l1 l2 (nI j) ν' = some (1, ν2) ∧ Rn N x m s μ2 ν2 S q' ∧ nI v' ≠ u ∧ ν2.1 0 40 = nI v' ∧ ¬ nI v' < l1 ∧ ¬ l2 < nI v' ∧ v' < 1000 ∧ FS μ μ2 ∧ FT ν ν2) := by
      intro d
      induction d with
      | zero =>
        intro j v n n' μ' ν' e hn hn' hv rr d39 d40 ff tt
        obtain ⟨k, rfl⟩ : ∃ k, n = k + 1 := ⟨n - 1, by omega⟩
        obtain ⟨k', rfl⟩ : ∃ k, n' = k + 1 := ⟨n' - 1, by omega⟩
        obtain rfl : j = 3 := by omega
        exact wrap 3 v k k' μ' ν' rr d39 d40 (by have h : (10 : Nat) ^ 3 = 1000 := by decide
                                                 omega) (by omega) ff tt _ _ (by rw [f_X3_readNumber_h18, if_neg (by decide)]) (by rw [f_X9_takesNumber_h26, if_neg (by decide)])
      | succ d ih =>
        intro j v n n' μ' ν' e hn hn' hv rr d39 d40 ff tt
        obtain ⟨k, rfl⟩ : ∃ k, n = k + 1 := ⟨n - 1, by omega⟩
        obtain ⟨k', rfl⟩ : ∃ k, n' = k + 1 := ⟨n' - 1, by omega⟩
        have hp : (10 : Nat) ^ j ≤ 100 := by
          have : (10 : Nat) ^ j ≤ 10 ^ 2 := Nat.pow_le_pow_right (by decide) (by omega)
          omega
        have d4 : μ'.1 45 4 = -1 := rr.2.2.2.2.2.2.1
        have d3 : μ'.1 45 3 = nI (q + 1 + j) := rr.2.2.2.2.2.2.2.1
        have d38 : ν'.1 0 38 = nI (q + 1 + j) := rr.2.2.2.2.2.2.2.2.1
        have lt := mLetter rr
        have ct := cLetter rr
        rcases rdDig rr with ⟨c, c1, c2, c3, c4, c5, c6⟩ | ⟨c5, c6⟩
        · rw [if_pos c3, c4] at lt ct
          obtain ⟨r', f', t'⟩ := rr.step c3
          obtain ⟨r'', t''⟩ := (rr.own (j := 40) (v := nI (10 * v + c - 48)) (Or.inr rfl)).1.step c3 |> fun h => (⟨h.1, h.2.2⟩ : _ ∧ _)
          have m1 : nI v * 10 + nI c - 48 = nI (10 * v + c - 48) := by
            rw [show (10 : Int32) = nI 10 from rfl, nI_mulN, nI_add, show (48 : Int32) = nI 48 from rfl, nI_sub (by omega), Nat.mul_comm]
          have m2 : 10 * nI v + nI c - 48 = nI (10 * v + c - 48) := by
            rw [show (10 : Int32) = nI 10 from rfl, nI_mulN, nI_add, show (48 : Int32) = nI 48 from rfl, nI_sub (by omega)]
          have A : f_X3_readNumber_h18 (k + 1) l1 l2 u (nI (q + 1)) (nI v) (nI j) μ' = f_X3_readNumber_h18 k l1 l2 u (nI (q + 1)) (nI (10 * v + c - 48)) (nI (j + 1)) (z_sI μ' 45 3 (nI (q + 1 + j + 1))) := by
            rw [f_X3_readNumber_h18, if_pos (show nI j < 3 from nI_lt (b := 3) (by omega) (by omega)), d4, if_pos rfl, c5, ifn, ct, m1, z_letE, z_letE, d3, i_succ, i_succ]
          have B : f_X9_takesNumber_h26 (k' + 1) l1 l2 (nI j) ν' = f_X9_takesNumber_h26 k' l1 l2 (nI (j + 1)) (z_sI (z_sI ν' 0 40 (nI (10 * v + c - 48))) 0 38 (nI (q + 1 + j + 1))) := by
            rw [f_X9_takesNumber_h26, if_pos (show nI j < 3 from nI_lt (b := 3) (by omega) (by omega)), lt, z_bindS]
            dsimp only
            rw [c6, ifn, lt, z_bindS, d40]
            dsimp only
            rw [m2, z_letE, z_letE, sI1, if_neg (by omega), d38, i_succ, i_succ]
          rw [A, B]
          have hpw : (10 : Nat) ^ (j + 1) = 10 ^ j * 10 := Nat.pow_succ 10 j
          exact ih (j + 1) (10 * v + c - 48) k k' _ _ (by omega) (by omega) (by omega) (by omega) r'' (by rw [sI1, if_neg (by omega), sI1, if_neg (by omega)]; exact d39) (by rw [sI1, if_neg (by omega), sI1, if_pos ⟨rfl, rfl⟩]) (ff.tr f') (tt.tr (((FT.rf ν').sI (by unfold LT; omega)).sI (by unfold LT; omega)))
        · exact wrap j v k k' μ' ν' rr d39 d40 (by omega) (by omega) ff tt _ _ (by rw [f_X3_readNumber_h18, if_pos (show nI j < 3 from nI_lt (b := 3) (by omega) (by omega)), d4, if_pos rfl, c5, ifz]) (by rw [f_X9_takesNumber_h26, if_pos (show nI j < 3 from nI_lt (b := 3) (by omega) (by omega)), lt, z_bindS]; dsimp only; rw [c6, ifz])
    exact key 3 0 0 n n μ1 ν3 (by omega) (by omega) (by omega) (by decide) r3 b39 b40 ff tt
  · -- no blank
    have hq : q < 2 ^ 31 := by omega
    have e4 : (z_sI μ 45 4 (nI q)).1 45 4 = nI q := by rw [sI1, if_pos ⟨rfl, rfl⟩]
    refine Or.inl ⟨0, z_sI μ 45 4 (nI q), ν, ?_, ?_, ⟨q, hq, e4, r.2.2.2.2.2.2.2.2.1⟩, (FS.rf μ).sI (by omega), FT.rf ν⟩
    · obtain ⟨k, rfl⟩ : ∃ k, n = k + 1 := ⟨n - 1, by omega⟩
      unfold f_X3_readNumber
      rw [a3, z_letE, z_letE, f_X3_readNumber_h18, if_pos (by decide), e4, if_neg (by rw [nI_em1 hq]; exact id)]
      unfold f_X3_readNumber_b77 f_X3_readNumber_b104
      rw [if_pos rfl, nofail e4 hq, z_letE]
    · unfold f_X9_takesNumber
      rw [a4, z_bindS, if_pos rfl]
