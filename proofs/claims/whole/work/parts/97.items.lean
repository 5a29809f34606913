/-! reading items -/
def It (N : Nat) (x : Nat → Int32) (m s q : Nat) (μ ν : z_M) (F : Option (Unit × z_M)) (G : Option (Int32 × z_M)) : Prop := (∃ μ' ν' S' q', F = some ((), μ') ∧ G = some (1, ν') ∧ Rn N x m s μ' ν' S' q' ∧ q < q' ∧ FS μ μ' ∧ FT ν ν') ∨ ∃ μ' ν', F = some ((), μ') ∧ G = some (0, ν') ∧ Bd μ' ν' ∧ FS μ μ' ∧ FT ν ν'
theorem rdN1 {N : Nat} {x : Nat → Int32} {m s q : Nat} {μ ν : z_M} {S : zS} (r : Rn N x m s μ ν S q) (l1 l2 : Int32) (n : Nat) (hn : 20 ≤ n) :
    (∃ v μ' ν', f_X3_readNumber n l1 l2 (-1) μ = some (v, μ') ∧ f_X9_takesNumber n l1 l2 ν = some (0, ν') ∧ Bd μ' ν' ∧ FS μ μ' ∧ FT ν ν') ∨
    (∃ v μ' ν' q', q < q' ∧ f_X3_readNumber n l1 l2 (-1) μ = some (nI v, μ') ∧ f_X9_takesNumber n l1 l2 ν = some (1, ν') ∧ Rn N x m s μ' ν' S q' ∧ ν'.1 0 40 = nI v ∧ ¬ nI v < l1 ∧ ¬ l2 < nI v ∧ v < 1000 ∧ FS μ μ' ∧ FT ν ν') := by
  rcases rdN r l1 l2 (-1) n hn with h | ⟨v, μ', ν', st, h1, h2, h3, h4, h5, h6, h7, h7', h8, h9⟩ | ⟨v, μ', ν', q', h0, h1, h2, h3, h4, h5, h6, h7, h8, h9, h10⟩
  · exact Or.inl h
  · have hv : v < 2 ^ 31 := by omega
    rw [nI_em1 hv] at h3
    exact h3.elim
  · exact Or.inr ⟨v, μ', ν', q', h0, h1, h2, h3, h5, h6, h7, h8, h9, h10⟩
theorem notm1 {f : Nat} (hf : f < 2 ^ 31) : ¬ nI f = -1 := by rw [nI_em1 hf]; exact id
theorem Rn.H {N : Nat} {x : Nat → Int32} {m s q : Nat} {μ ν : z_M} {S : zS} (r : Rn N x m s μ ν S q) : ∃ H W, H ≤ 8 ∧ W ≤ 12 ∧ S 10 0 = nI H ∧ S 10 1 = nI W ∧ μ.1 15 3 = nI H ∧ μ.1 15 4 = nI W ∧ ν.1 0 8 = nI H ∧ ν.1 0 9 = nI W := by
  obtain ⟨h, s1, s2, V, -⟩ := r
  obtain ⟨⟨H, h1, h2⟩, ⟨W, h3, h4⟩, -⟩ := V
  exact ⟨H, W, h1, h3, h2, h4, (s1.2.2.2 0 (by omega)).trans h2, (s1.2.2.2 1 (by omega)).trans h4, s2.2.2.2.1.trans h2, s2.2.2.2.2.1.trans h4⟩
theorem lt_pred {v H : Nat} (hv : v < 1000) (hH : H ≤ 12) (h : ¬ nI H - 1 < nI v) : v < H := by
  apply Classical.byContradiction
  intro c
  apply h
  cases H with
  | zero => exact Int32.lt_of_lt_of_le (show nI 0 - 1 < 0 by decide) (Int32.not_lt.mp (nI_pos (by omega)))
  | succ H => rw [i_pred (by omega)]; exact nI_lt (by omega) (by omega)
theorem mAddHouse' {H : Nat} {ν : z_M} {S : zS} {k s a : Int32} (s2 : StM ν S) (hH : H < 8) (e : S 10 0 = nI H) : ∃ ν', f_X9_makesHouse k s a ν = some ((), ν') ∧ StM ν' (sAH S H k s a) ∧ FT ν ν' ∧ (∀ j, j ≠ 8 → ν'.1 0 j = ν.1 0 j) := by
  have e8 : ν.1 0 8 = nI H := s2.2.2.2.1.trans e
  unfold f_X9_makesHouse
  simp (disch := omega) only [z_letE, e8, z_chkN, z_ixN, sI1]
  simp (disch := omega) only [Nat.reduceEqDiff, false_and, if_false, e8, z_chkN, z_ixN, i_succ]
  refine ⟨_, rfl, (((((s2.set0 (v := k) hH).set1 (v := s) hH).set2 (v := a) hH).set3 (v := 0) hH).set4 (v := 0) hH).setn0, ((((((FT.rf _).sI (by unfold LT; omega)).sI (by unfold LT; omega)).sI (by unfold LT; omega)).sI (by unfold LT; omega)).sI (by unfold LT; omega)).sI (by unfold LT; omega), fun j hj => ?_⟩
  rw [sI1, if_neg (by omega)]; rfl
theorem mAddWay' {W : Nat} {ν : z_M} {S : zS} {a b m : Int32} (s2 : StM ν S) (hW : W < 12) (e : S 10 1 = nI W) : ∃ ν', f_X9_makesWay a b m ν = some ((), ν') ∧ StM ν' (sAW S W a b m) ∧ FT ν ν' ∧ (∀ j, j ≠ 9 → ν'.1 0 j = ν.1 0 j) := by
  have e8 : ν.1 0 9 = nI W := s2.2.2.2.2.1.trans e
  unfold f_X9_makesWay
  simp (disch := omega) only [z_letE, e8, z_chkN, z_ixN, sI1]
  simp (disch := omega) only [Nat.reduceEqDiff, false_and, if_false, e8, z_chkN, z_ixN, i_succ]
  refine ⟨_, rfl, ((((s2.set5 (v := a) hW).set6 (v := b) hW).set7 (v := m) hW).set8 (v := 0) hW).setn1, (((((FT.rf _).sI (by unfold LT; omega)).sI (by unfold LT; omega)).sI (by unfold LT; omega)).sI (by unfold LT; omega)).sI (by unfold LT; omega), fun j hj => ?_⟩
  rw [sI1, if_neg (by omega)]; rfl
theorem rdHouse {N : Nat} {x : Nat → Int32} {m s q : Nat} {μ ν : z_M} {S : zS} (hN : 0 < N) (r : Rn N x m s μ ν S q) (n : Nat) (hn : 20 ≤ n) : It N x m s q μ ν (f_X3_readHouse n μ) (f_X9_takesHouse n ν) := by
  obtain ⟨H, W, hH, hW, eH, eW, a3, a4, b8, b9⟩ := r.H
  have hq : q < 2 ^ 31 := by have := r.2.2.2.2.2.2.2.2.2; have := r.1.1; omega
  have c38 : ν.1 0 38 = nI q := r.2.2.2.2.2.2.2.2.1
  unfold f_X3_readHouse f_X9_takesHouse f_X6_hasRoomForHouse
  rw [a3, b8, z_letE, c38]
  by_cases z : H = 8
  · -- no room
    have e4 : (z_sI μ 45 4 (nI q)).1 45 4 = nI q := by rw [sI1, if_pos ⟨rfl, rfl⟩]
    have nn : ∀ a b c, f_X3_readNumber n a b c (z_sI μ 45 4 (nI q)) = some (0, z_sI μ 45 4 (nI q)) := fun a b c => nopN e4 hq a b c n (by omega)
    have nw : f_X3_readWord 0 n 0 μ = some ((), z_sI μ 45 4 (nI q)) := by
      have w := nopW e4 hq (si := 0) (by omega) n hn 1
      have fm : f_X3_fail (μ.1 45 3) μ = z_sI μ 45 4 (nI q) := by rw [dofail r.2.2.2.2.2.2.1, r.2.2.2.2.2.2.2.1]
      unfold f_X3_readWord at w ⊢
      rw [if_neg (show ¬ (1 : Int32) = 0 by decide)] at w
      rw [if_pos rfl, fm, z_letE]
      exact w
    refine Or.inr ⟨z_sI μ 45 4 (nI q), ν, ?_, ?_, ⟨q, hq, e4, c38⟩, (FS.rf μ).sI (by omega), FT.rf ν⟩
    · rw [z, if_neg (show ¬ nI 8 < 8 by decide)]
      simp only [nw, z_bindS, nn, e4, notm1 hq, if_false]
    · rw [z, if_pos (show nI 8 = 8 from rfl)]
  · rw [if_pos (show nI H < 8 from nI_lt (b := 8) (by omega) (by omega)), if_neg (show ¬ nI H = 8 from nI_ne (b := 8) (by omega) (by omega) z)]
    rcases rdW (si := 0) (by omega) 1 q μ ν r (by decide) n hn with ⟨μ1, ν1, g1, g2, r1, f1, t1⟩ | ⟨μ1, ν1, g1, g2, ⟨f, hf, e4, e38⟩, f1, t1⟩
    · rcases rdN1 r1 0 6 n hn with ⟨v, μ2, ν2, h1, h2, ⟨f, hf, e4, e38⟩, f2, t2⟩ | ⟨v1, μ2, ν2, q2, hq2, h1, h2, r2, d2, l1, u1, v1k, f2, t2⟩
      · have nn : ∀ a b c, f_X3_readNumber n a b c μ2 = some (0, μ2) := fun a b c => nopN e4 hf a b c n (by omega)
        refine Or.inr ⟨μ2, ν2, ?_, ?_, ⟨f, hf, e4, e38⟩, f1.tr f2, t1.tr t2⟩
        · simp only [g1, z_bindS, h1, nn, e4, notm1 hf, if_false]
        · simp only [g2, z_bindS, h2, if_true, ifn]
      · rcases rdN1 r2 0 255 n hn with ⟨v, μ3, ν3, h3, h4, ⟨f, hf, e4, e38⟩, f3, t3⟩ | ⟨v2, μ3, ν3, q3, hq3, h3, h4, r3, d3, l2, u2, v2k, f3, t3⟩
        · have nn : ∀ a b c, f_X3_readNumber n a b c μ3 = some (0, μ3) := fun a b c => nopN e4 hf a b c n (by omega)
          refine Or.inr ⟨μ3, ν3, ?_, ?_, ⟨f, hf, e4, e38⟩, f1.tr (f2.tr f3), t1.tr (t2.tr t3)⟩
          · simp only [g1, z_bindS, h1, h3, nn, e4, notm1 hf, if_false]
          · simp only [g2, z_bindS, h2, h4, if_true, ifn, z_letE]
        · rcases rdN1 r3 0 255 n hn with ⟨v, μ4, ν4, h5, h6, ⟨f, hf, e4, e38⟩, f4, t4⟩ | ⟨v3, μ4, ν4, q4, hq4, h5, h6, r4, d4, l3, u3, v3k, f4, t4⟩
          · refine Or.inr ⟨μ4, ν4, ?_, ?_, ⟨f, hf, e4, e38⟩, f1.tr (f2.tr (f3.tr f4)), t1.tr (t2.tr (t3.tr t4))⟩
            · simp only [g1, z_bindS, h1, h3, h5, e4, notm1 hf, if_false]
            · simp only [g2, z_bindS, h2, h4, h6, if_true, ifn, z_letE]
          · obtain ⟨T4, s14, s24, V4, e23, e24, e4, e3, e38, hq4'⟩ := r4
            obtain ⟨μ5, k1, k2, k3, k4⟩ := cAddHouse (q := 15) (k := nI v1) (s := nI v2) (a := nI v3) s14 (by omega) eH
            obtain ⟨ν5, j1, j2, j3, j4⟩ := mAddHouse' (k := nI v1) (s := nI v2) (a := nI v3) s24 (by omega) eH
            have f5 : FS μ4 μ5 := ⟨fun k h1 h2 h3 h4 h5 => k3 k h1 h2, k4⟩
            have b1 : v1 < 7 := by
              apply Classical.byContradiction
              intro c
              exact u1 (nI_lt (a := 6) (by omega) (by omega))
            have b2 : v2 < 256 := by
              apply Classical.byContradiction
              intro c
              exact u2 (nI_lt (a := 255) (by omega) (by omega))
            have b3 : v3 < 256 := by
              apply Classical.byContradiction
              intro c
              exact u3 (nI_lt (a := 255) (by omega) (by omega))
            have hm := T4.1
            refine Or.inl ⟨μ5, ν5, sAH S H (nI v1) (nI v2) (nI v3), q4, ?_, ?_, ⟨T4.mv f5 j3, k2, j2, V4.addHouse hN (by omega) eH ⟨v1, b1, rfl⟩ ⟨v2, b2, rfl⟩ ⟨v3, b3, rfl⟩, by rw [j4 23 (by omega)]; exact e23, by rw [j4 24 (by omega)]; exact e24, ?_, ?_, by rw [j4 38 (by omega)]; exact e38, hq4'⟩, by have := hq2; have := hq3; omega, f1.tr (f2.tr (f3.tr (f4.tr f5))), t1.tr (t2.tr (t3.tr (t4.tr j3)))⟩
            · simp only [g1, z_bindS, h1, h3, h5, e4, if_true, k1, z_letE]
            · simp only [g2, z_bindS, h2, h4, h6, ifn, z_letE, d2, d3, d4, j1]
              rw [j4 38 (by omega), e38, if_pos (nI_lt (by omega) (by omega))]
            · rw [k3 45 (by omega) (by omega)]; exact e4
            · rw [k3 45 (by omega) (by omega)]; exact e3
    · have nn : ∀ a b c, f_X3_readNumber n a b c μ1 = some (0, μ1) := fun a b c => nopN e4 hf a b c n (by omega)
      refine Or.inr ⟨μ1, ν1, ?_, ?_, ⟨f, hf, e4, e38⟩, f1, t1⟩
      · simp only [g1, z_bindS, nn, e4, notm1 hf, if_false]
      · simp only [g2, z_bindS, if_true]
