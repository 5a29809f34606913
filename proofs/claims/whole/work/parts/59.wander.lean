/-! go and wander -/
theorem Rr.goBy {N : Nat} {μ ν : z_M} {S : zS} {H W g w : Nat} (R : Rr N μ ν) (O : RSo N μ ν S H W g) (hw : w < W) : ∃ r μ' ν', (∀ n, f_X6_goBy 1 (n + 3) (nI w) μ = some (r, μ')) ∧ f_X9_goesBy (nI w) ν = some (r, ν') ∧ Rr (N + 1) μ' ν' := by
  obtain ⟨⟨s1, s2, V⟩, ⟨hH, hW, hg1, hg3⟩, ⟨eH, eW, eg⟩, ⟨c3, c4, c5, c6⟩, ⟨m8, m9, m10, mb, m23, m24⟩, hb⟩ := O
  have hw12 : w < 12 := by omega
  obtain ⟨a5, a6, a7, a8⟩ := s2.2.1 w hw12
  obtain ⟨z5, z6, zne, z7⟩ := V.2.2.2.2.2.1 w (by rw [sW_of eW hW]; exact hw)
  have hHs := sH_of eH hH
  rw [hHs] at z5 z6
  have t1 := s1.setN (x := 4) (v := S 10 4 + S 7 w) (by omega)
  have t2 := s2.setn4 (v := S 10 4 + S 7 w)
  have V1 : Vd N (sU S 10 4 (S 10 4 + S 7 w)) := V.gone
  have go : ∀ x, x < H → ∃ r μ' ν', (∀ n, f_X6_goBy_b44 1 (n + 3) (nI x) (z_sI μ 1 7 (S 10 4 + S 7 w)) = some (r, μ')) ∧ f_X9_goesBy_b46 (nI x) (z_sI ν 0 11 (S 10 4 + S 7 w)) = some (r, ν') ∧ Rr (N + 1) μ' ν' := by
    intro x hx
    obtain ⟨ν', r1, r2, r3, r4, r5⟩ := mReal (ν := z_sI ν 0 11 (S 10 4 + S 7 w)) t2 (show ν.1 0 23 = nI g from m23) hg1 hg3 (show x < 8 by omega)
    have cv := fun n => cVisit (μ := z_sI μ 1 7 (S 10 4 + S 7 w)) t1 (show S 10 2 = nI g from eg) hg1 hg3 (show x < 8 by omega) n
    obtain ⟨μ', q1, q2, q3, q4⟩ := cv 0
    have all : ∀ n, f_X6_goBy_b44 1 (n + 3) (nI x) (z_sI μ 1 7 (S 10 4 + S 7 w)) = some (S 9 (g - 1), μ') := by
      intro n
      have e : f_X6_visit 1 (n + 3) (nI x) (z_sI μ 1 7 (S 10 4 + S 7 w)) = f_X6_visit 1 (0 + 3) (nI x) (z_sI μ 1 7 (S 10 4 + S 7 w)) := rfl
      unfold f_X6_goBy_b44
      rw [e, q1]; rfl
    refine ⟨S 9 (g - 1), μ', ν', all, ?_, R.street (by omega) ⟨sV (sU S 10 4 (S 10 4 + S 7 w)) g x, q2, r2, V1.visit hg1 hg3 (by rw [show sH (sU S 10 4 (S 10 4 + S 7 w)) = sH S from rfl, hHs]; exact hx) (by omega), ?_, ?_⟩ ⟨fun k i z => ?_, q4⟩ ((KY.rf ν |>.sI (by unfold LY; omega)).tr r3)⟩
    · unfold f_X9_goesBy_b46
      rw [r1]; rfl
    · rw [r4]; exact m23.trans eg.symm
    · rw [r5]; exact m24
    · rw [q3 k z.ne.1 z.ne.2.1 z.ne.2.2.2, sI1f z.ne.1]
  have c7 : μ.1 1 7 = S 10 4 := s1.2.2.2 4 (by omega)
  have m11 : ν.1 0 11 = S 10 4 := s2.2.2.2.2.2.2.2.1
  have e0 : ∀ n, f_X6_goBy 1 n (nI w) μ = if S 5 w = S 10 3 then f_X6_goBy_b44 1 n (S 6 w) (z_sI μ 1 7 (S 10 4 + S 7 w)) else f_X6_goBy_b44 1 n (S 5 w) (z_sI μ 1 7 (S 10 4 + S 7 w)) := by
    intro n
    unfold f_X6_goBy
    rw [z_letE, c7, cW2 s1 hw12]
    have u0 : f_X6_ofWay 1 (nI w) 0 (z_sI μ 1 7 (S 10 4 + S 7 w)) = S 5 w := (cW0 (S := sU S 10 4 (S 10 4 + S 7 w)) t1 hw12)
    have u1 : f_X6_ofWay 1 (nI w) 1 (z_sI μ 1 7 (S 10 4 + S 7 w)) = S 6 w := (cW1 (S := sU S 10 4 (S 10 4 + S 7 w)) t1 hw12)
    have u6 : (z_sI μ 1 7 (S 10 4 + S 7 w)).1 1 6 = S 10 3 := t1.2.2.2 3 (by omega)
    rw [u0, u1, u6]
  have f0 : f_X9_goesBy (nI w) ν = if S 5 w = S 10 3 then f_X9_goesBy_b46 (S 6 w) (z_sI ν 0 11 (S 10 4 + S 7 w)) else f_X9_goesBy_b46 (S 5 w) (z_sI ν 0 11 (S 10 4 + S 7 w)) := by
    unfold f_X9_goesBy
    rw [z_chkN hw12 (by decide), z_letE, z_chkN hw12 (by decide), z_chkN hw12 (by decide), z_chkN hw12 (by decide), z_ixN (by omega), m11, a7]
    rw [sI1f (by decide), sI1f (by decide), sI1f (by decide), a5, a6, show z_ix 0 = 0 from rfl, mb]
  obtain ⟨x5, hx5, y5⟩ := z5
  obtain ⟨x6, hx6, y6⟩ := z6
  by_cases c : S 5 w = S 10 3
  · obtain ⟨r, μ', ν', k1, k2, k3⟩ := go x6 hx6
    exact ⟨r, μ', ν', fun n => by rw [e0, if_pos c, y6]; exact k1 n, by rw [f0, if_pos c, y6]; exact k2, k3⟩
  · obtain ⟨r, μ', ν', k1, k2, k3⟩ := go x5 hx5
    exact ⟨r, μ', ν', fun n => by rw [e0, if_neg c, y5]; exact k1 n, by rw [f0, if_neg c, y5]; exact k2, k3⟩
theorem hasBird {μ ν : z_M} {S : zS} {H : Nat} (c6 : μ.1 1 6 = S 10 3) (mb : ν.1 9 0 = S 10 3) (hH : H ≤ 8) (hb : S 10 3 = -1 ∨ zB (S 10 3) H) : (f_X6_hasBird 1 μ = 0 ∧ ν.1 9 0 < 0) ∨ (f_X6_hasBird 1 μ = 1 ∧ ¬ ν.1 9 0 < 0 ∧ ∃ b, b < H ∧ S 10 3 = nI b) := by
  unfold f_X6_hasBird
  rw [c6, mb]
  rcases hb with h | ⟨b, hb, h⟩
  · left; rw [h]; exact ⟨rfl, by decide⟩
  · right; rw [h, if_neg (fun e => by rw [nI_em1 (by omega)] at e; exact e)]; exact ⟨rfl, nI_pos (by omega), b, hb, rfl⟩
theorem ag_go {N : Nat} {μ ν : z_M} (R : Rr N μ ν) (x : Int32) : Ag (N + 1) (fun n => f_X8_go n x μ) (fun _ => f_X9_go x ν) := by
  obtain ⟨S, H, W, g, O⟩ := R.1.op
  have O' := O
  obtain ⟨⟨s1, s2, V⟩, ⟨hH, hW, hg1, hg3⟩, ⟨eH, eW, eg⟩, ⟨c3, c4, c5, c6⟩, ⟨m8, m9, m10, mb, m23, m24⟩, hb⟩ := O
  unfold f_X8_go f_X9_go
  rcases dW c4 m9 hW x with ⟨e1, e2⟩ | ⟨j, hj, rfl, e1, e2⟩
  · rw [e1, e2]; exact ⟨_, _, _, ⟨0, rfl⟩, ⟨0, rfl⟩, (R.refuse 1).mono (by omega)⟩
  · rw [e1, e2]
    have j8 : j < 12 := by omega
    obtain ⟨a5, a6, a7, a8⟩ := s2.2.1 j j8
    have bad : Ag (N + 1) (fun _ => z_let (f_X8_refuse (-6) μ) (fun p2 => some (p2.1, p2.2))) (fun _ => f_X9_go_b45 ν) := ⟨_, _, _, ⟨0, rfl⟩, ⟨0, rfl⟩, (R.refuse 6).mono (by omega)⟩
    simp only [ifn]
    unfold f_X6_canGoBy
    rw [show z_ix 0 = 0 from rfl]
    rcases hasBird c6 mb hH hb with ⟨b1, b2⟩ | ⟨b1, b2, b, hb1, hb2⟩
    · simp only [b1, if_true, if_pos b2]; exact bad
    · rw [b1, ifn, if_neg b2, cOpenAt s1 c4 hW j8, mOpen (sh := 0) a8 m24 (by omega) j8, z_bindS, mIsOf a5 a6 j8, c6, mb]
      by_cases o1 : sO S 0 j
      · by_cases o2 : sOn S j (S 10 3)
        · obtain ⟨r, μ', ν', k1, k2, k3⟩ := R.goBy O' hj
          refine ⟨r, μ', ν', ⟨3, ?_⟩, ⟨0, ?_⟩, k3⟩
          · simp only [if_pos (⟨hj, o1, o2⟩ : j < W ∧ sO S 0 j ∧ sOn S j (S 10 3)), ifn]
            have := k1 0
            rw [show (0 + 3) = 3 from rfl] at this
            rw [this]; rfl
          · simp only [if_pos o1, if_pos o2, ifn, z_bindS, k2]
        · simp only [if_neg (fun z : j < W ∧ sO S 0 j ∧ sOn S j (S 10 3) => o2 z.2.2), if_pos o1, if_neg o2, ifn, ifz, z_bindS, if_true]; exact bad
      · simp only [if_neg (fun z : j < W ∧ sO S 0 j ∧ sOn S j (S 10 3) => o1 z.2.1), if_neg o1, ifz, if_true]; exact bad
/-- the left-th open way of a house, from j on -/
noncomputable def sPk (S : zS) (h : Int32) : Nat → Nat → Nat → Nat
  | 0, j, _ => j
  | d + 1, j, l => @ite _ (sO S 0 j ∧ sOn S j h) (Classical.propDecidable _) (if l = 0 then j else sPk S h d (j + 1) (l - 1)) (sPk S h d (j + 1) l)
theorem sPk_s (S : zS) (h : Int32) (d j l : Nat) : sPk S h (d + 1) j l = @ite _ (sO S 0 j ∧ sOn S j h) (Classical.propDecidable _) (if l = 0 then j else sPk S h d (j + 1) (l - 1)) (sPk S h d (j + 1) l) := rfl
theorem sOA_eqv {S S' : zS} {sh : Nat} {h : Int32} (e : ∀ a i, (a = 5 ∨ a = 6 ∨ a = 8) → S' a i = S a i) : ∀ n, sOA S' sh h n = sOA S sh h n := by
  intro n
  induction n with
  | zero => rfl
  | succ n ih => rw [sOA_s, sOA_s, ih]; unfold sO sOn; rw [e 5 n (by omega), e 6 n (by omega), e 8 n (by omega)]
theorem sPk_lt {S : zS} {h : Int32} : ∀ (d j l : Nat), l + sOA S 0 h j < sOA S 0 h (j + d) → sPk S h d j l < j + d := by
  intro d
  induction d with
  | zero => intro j l q; rw [Nat.add_zero] at q; omega
  | succ d ih =>
    intro j l q
    rw [sPk_s]
    by_cases c : sO S 0 j ∧ sOn S j h
    · rw [if_pos c]
      by_cases z : l = 0
      · rw [if_pos z]; omega
      · rw [if_neg z]
        have k := ih (j + 1) (l - 1) (by
          rw [sOA_s, if_pos c, show j + 1 + d = j + (d + 1) by omega]; omega)
        omega
    · rw [if_neg c]
      have k := ih (j + 1) l (by
        rw [sOA_s, if_neg c, show j + 1 + d = j + (d + 1) by omega]; omega)
      omega
theorem cPick {q W : Nat} {μ : z_M} {S : zS} (s1 : StC q μ S) (c4 : μ.1 q 4 = nI W) (hW : W ≤ 12) : ∀ (d j l n : Nat), j + d = W → d < n → l < 2 ^ 31 → l + sOA S 0 (S 10 3) j < sOA S 0 (S 10 3) W → f_X6_drawnWay_h23 q n (nI l) (nI j) μ = some (nI (sPk S (S 10 3) d j l), μ) := by
  have c6 : μ.1 q 6 = S 10 3 := s1.2.2.2 3 (by omega)
  intro d
  induction d with
  | zero => intro j l n e hn hl q; rw [show j = W by omega] at q; omega
  | succ d ih =>
    intro j l n e hn hl q
    obtain ⟨m, rfl⟩ : ∃ m, n = m + 1 := ⟨n - 1, by omega⟩
    unfold f_X6_drawnWay_h23 f_X6_drawnWay_b50
    rw [if_pos (show nI j < (12 : Int32) from nI_lt (b := 12) (by omega) (by omega)), c6, cOpenAt s1 c4 hW (by omega), sPk_s, i_succ]
    by_cases c : sO S 0 j ∧ sOn S j (S 10 3)
    · rw [if_pos (⟨by omega, c⟩ : j < W ∧ sO S 0 j ∧ sOn S j (S 10 3)), ifn, if_pos c]
      by_cases z : l = 0
      · subst z; rw [if_pos rfl, if_pos (show nI 0 = 0 from rfl)]
      · rw [if_neg z, if_neg (show ¬ nI l = 0 from nI_ne (b := 0) hl (by omega) z), i_pred' (by omega)]
        exact ih (j + 1) (l - 1) m (by omega) (by omega) (by omega) (by rw [sOA_s, if_pos c]; omega)
    · rw [if_neg (fun x : j < W ∧ sO S 0 j ∧ sOn S j (S 10 3) => c x.2), ifz, if_neg c]
      exact ih (j + 1) l m (by omega) (by omega) hl (by rw [sOA_s, if_neg c]; omega)
theorem mPick {W : Nat} {ν : z_M} {S : zS} {r28 : Int32 → Int32 → z_M → Option (Int32 × z_M)} {l1 l2 : Int32} (s2 : StM ν S) (mb : ν.1 9 0 = S 10 3) (m24 : ν.1 0 24 = 0) (hW : W ≤ 12) : ∀ (d j l n : Nat), j + d = W → d < n → l < 2 ^ 31 → l + sOA S 0 (S 10 3) j < sOA S 0 (S 10 3) W → f_X9_wander_h64 r28 n l1 l2 (nI l) (nI j) ν = z_bind (f_X9_goesBy (nI (sPk S (S 10 3) d j l)) ν) (fun p10 => r28 l1 (l2 + 1) p10.2) := by
  intro d
  induction d with
  | zero => intro j l n e hn hl q; rw [show j = W by omega] at q; omega
  | succ d ih =>
    intro j l n e hn hl q
    obtain ⟨m, rfl⟩ : ∃ m, n = m + 1 := ⟨n - 1, by omega⟩
    have j8 : j < 12 := by omega
    obtain ⟨a5, a6, a7, a8⟩ := s2.2.1 j j8
    have oo := mOpen (sh := 0) a8 m24 (by omega) j8
    have of := mIsOf (h := S 10 3) a5 a6 j8
    have k0 : ∀ l', f_X9_wander_b92 r28 (f_X9_wander_h64 r28 m) m l1 l2 l' (nI j) ν = @ite _ (sO S 0 j ∧ sOn S j (S 10 3)) (Classical.propDecidable _) (f_X9_wander_h64 r28 m l1 l2 (l' - 1) (nI (j + 1)) ν) (f_X9_wander_h64 r28 m l1 l2 l' (nI (j + 1)) ν) := by
      intro l'
      unfold f_X9_wander_b92 f_X9_wander_b121 f_X9_wander_b122
      rw [oo, z_bindS, show z_ix 0 = 0 from rfl, mb, of]
      simp only [z_bindS, z_letE, i_succ]
      by_cases o1 : sO S 0 j
      · by_cases o2 : sOn S j (S 10 3)
        · simp only [if_pos o1, if_pos o2, if_pos (And.intro o1 o2), ifn]
        · simp only [if_pos o1, if_neg o2, if_neg (fun z : sO S 0 j ∧ sOn S j (S 10 3) => o2 z.2), ifn, if_true, Int32.sub_zero]
      · simp only [if_neg o1, if_neg (fun z : sO S 0 j ∧ sOn S j (S 10 3) => o1 z.1), if_true, Int32.sub_zero]
    unfold f_X9_wander_h64
    rw [oo, z_bindS, show z_ix 0 = 0 from rfl, mb, of, sPk_s]
    simp only [z_bindS, k0]
    by_cases o1 : sO S 0 j
    · by_cases o2 : sOn S j (S 10 3)
      · simp only [if_pos o1, if_pos o2, if_pos (And.intro o1 o2), ifn]
        by_cases z : l = 0
        · subst z; rw [if_pos rfl, if_neg (show ¬ (0 : Int32) < nI 0 by decide)]
        · rw [if_neg z, if_pos (show (0 : Int32) < nI l from nI_lt (a := 0) (by omega) hl), i_pred (by omega)]
          exact ih (j + 1) (l - 1) m (by omega) (by omega) (by omega) (by rw [sOA_s, if_pos (And.intro o1 o2)]; omega)
      · simp only [if_pos o1, if_neg o2, if_neg (fun z : sO S 0 j ∧ sOn S j (S 10 3) => o2 z.2), ifn, if_true]
        exact ih (j + 1) l m (by omega) (by omega) hl (by rw [sOA_s, if_neg (fun z => o2 z.2)]; omega)
    · simp only [if_neg o1, if_neg (fun z : sO S 0 j ∧ sOn S j (S 10 3) => o1 z.1), if_true]
      exact ih (j + 1) l m (by omega) (by omega) hl (by rw [sOA_s, if_neg (fun z => o1 z.1)]; omega)
theorem wander_step {k : Nat} (hk : k ≤ 40) : ∀ (d i N : Nat) (μ ν : z_M), i + d = k → Rr N μ ν → ∃ r μ' ν', (∀ n, d + 60 ≤ n → f_X8_wander_h29 n (nI k) (nI i) μ = some (r, μ')) ∧ (∀ n, d + 60 ≤ n → f_X9_wander_h28 n (nI k) (nI i) ν = some (r, ν')) ∧ Rr (N + d) μ' ν' := by
  intro d
  induction d with
  | zero =>
    intro i N μ ν e R
    refine ⟨nI k, μ, ν, fun n hn => ?_, fun n hn => ?_, R⟩
    · obtain ⟨m, rfl⟩ : ∃ m, n = m + 1 := ⟨n - 1, by omega⟩
      unfold f_X8_wander_h29
      rw [if_neg (nI_nlt (by omega) (by omega))]
    · obtain ⟨m, rfl⟩ : ∃ m, n = m + 1 := ⟨n - 1, by omega⟩
      unfold f_X9_wander_h28
      rw [if_neg (nI_nlt (by omega) (by omega)), show i = k by omega]
  | succ d ih =>
    intro i N μ ν e R
    obtain ⟨S, H, W, g, O⟩ := R.1.op
    have O' := O
    obtain ⟨⟨s1, s2, V⟩, ⟨hH, hW, hg1, hg3⟩, ⟨eH, eW, eg⟩, ⟨c3, c4, c5, c6⟩, ⟨m8, m9, m10, mb, m23, m24⟩, hb⟩ := O
    have cnt := sOA_le S 0 (S 10 3) W
    by_cases z : sOA S 0 (S 10 3) W = 0
    · refine ⟨nI i, μ, ν, fun n hn => ?_, fun n hn => ?_, R.mono (by omega)⟩
      · obtain ⟨m, rfl⟩ : ∃ m, n = m + 1 := ⟨n - 1, by omega⟩
        unfold f_X8_wander_h29 f_X6_drawnWay
        rw [if_pos (nI_lt (by omega) (by omega)), c6, cOpenWaysAt s1 c4 hW m (by omega), z_bindS, z]
        rfl
      · obtain ⟨m, rfl⟩ : ∃ m, n = m + 1 := ⟨n - 1, by omega⟩
        unfold f_X9_wander_h28
        rw [if_pos (nI_lt (by omega) (by omega)), show z_ix 0 = 0 from rfl, mb, mOpenAt (sh := 0) s2 m9 m24 (by omega) hW m (by omega), z_bindS, z]
        rfl
    · -- a draw
      obtain ⟨u, hu, eu⟩ := z_seed16 (S 10 6 * 1103515245 + 12345)
      have t1 := s1.setN (x := 6) (v := S 10 6 * 1103515245 + 12345) (by omega)
      have t2 := s2.setn6 (v := S 10 6 * 1103515245 + 12345)
      have V1 : Vd N (sU S 10 6 (S 10 6 * 1103515245 + 12345)) := V.fld6
      have R1 : Rr N (z_sI μ 1 9 (S 10 6 * 1103515245 + 12345)) (z_sI ν 0 13 (S 10 6 * 1103515245 + 12345)) := R.street (Nat.le_refl N) ⟨_, t1, t2, V1, m23.trans eg.symm, m24⟩ ((KX.rf _).sI (fun z => absurd rfl z.ne.1)) ((KY.rf _).sI (by unfold LY; omega))
      have O1 : RSo N (z_sI μ 1 9 (S 10 6 * 1103515245 + 12345)) (z_sI ν 0 13 (S 10 6 * 1103515245 + 12345)) (sU S 10 6 (S 10 6 * 1103515245 + 12345)) H W g := ⟨⟨t1, t2, V1⟩, ⟨hH, hW, hg1, hg3⟩, ⟨eH, eW, eg⟩, ⟨c3, c4, c5, c6⟩, ⟨m8, m9, m10, mb, m23, m24⟩, hb⟩
      have oe : ∀ n, sOA (sU S 10 6 (S 10 6 * 1103515245 + 12345)) 0 (S 10 3) n = sOA S 0 (S 10 3) n := fun n => sOA_eqv (fun a i h => by rw [sUE, if_neg (by omega)]) n
      have lt2 : u % sOA S 0 (S 10 3) W + sOA (sU S 10 6 (S 10 6 * 1103515245 + 12345)) 0 (S 10 3) 0 < sOA (sU S 10 6 (S 10 6 * 1103515245 + 12345)) 0 (S 10 3) W := by
        rw [oe W]; exact Nat.mod_lt _ (by omega)
      have hlt : u % sOA S 0 (S 10 3) W < sOA S 0 (S 10 3) W := Nat.mod_lt _ (by omega)
      have pk := sPk_lt (S := sU S 10 6 (S 10 6 * 1103515245 + 12345)) (h := S 10 3) W 0 (u % sOA S 0 (S 10 3) W) (by rw [Nat.zero_add]; exact lt2)
      obtain ⟨r, μ1, ν1, k1, k2, k3⟩ := R1.goBy O1 (w := sPk (sU S 10 6 (S 10 6 * 1103515245 + 12345)) (S 10 3) W 0 (u % sOA S 0 (S 10 3) W)) (by omega)
      obtain ⟨r2, μ2, ν2, j1, j2, j3⟩ := ih (i + 1) (N + 1) μ1 ν1 (by omega) k3
      have c9 : μ.1 1 9 = S 10 6 := s1.2.2.2 6 (by omega)
      have m13 : ν.1 0 13 = S 10 6 := s2.2.2.2.2.2.2.2.2.2
      refine ⟨r2, μ2, ν2, fun n hn => ?_, fun n hn => ?_, j3.mono (by omega)⟩
      · obtain ⟨m, rfl⟩ : ∃ m, n = m + 1 := ⟨n - 1, by omega⟩
        unfold f_X8_wander_h29 f_X6_drawnWay f_X6_draw
        rw [if_pos (nI_lt (by omega) (by omega)), c6, cOpenWaysAt s1 c4 hW m (by omega), z_bindS]
        rw [if_neg (show ¬ nI (sOA S 0 (S 10 3) W) = 0 from nI_ne (b := 0) (by omega) (by omega) z), z_letE, c9]
        rw [if_pos (show (0 : Int32) < nI (sOA S 0 (S 10 3) W) from nI_lt (a := 0) (by omega) (by omega))]
        have z1 : (z_sI μ 1 9 (S 10 6 * 1103515245 + 12345)).1 1 9 = S 10 6 * 1103515245 + 12345 := rfl
        rw [z1, eu]
        unfold z_nz
        rw [if_neg (show ¬ nI (sOA S 0 (S 10 3) W) = 0 from nI_ne (b := 0) (by omega) (by omega) z), z_bindS, z_remN (by omega) (by omega)]
        have cp := cPick (q := 1) t1 c4 hW W 0 (u % sOA S 0 (S 10 3) W) m (by omega) (by omega) (by omega) lt2
        have cp' : f_X6_drawnWay_h23 1 m (nI (u % sOA S 0 (S 10 3) W)) 0 (z_sI μ 1 9 (S 10 6 * 1103515245 + 12345)) = some (nI (sPk (sU S 10 6 (S 10 6 * 1103515245 + 12345)) (S 10 3) W 0 (u % sOA S 0 (S 10 3) W)), z_sI μ 1 9 (S 10 6 * 1103515245 + 12345)) := cp
        rw [cp', z_bindS, if_neg (fun e => by rw [nI_em1 (by omega)] at e; exact e)]
        obtain ⟨m3, rfl⟩ : ∃ m3, m = m3 + 3 := ⟨m - 3, by omega⟩
        rw [k1 m3, z_bindS, i_succ]
        exact j1 _ (by omega)
      · obtain ⟨m, rfl⟩ : ∃ m, n = m + 1 := ⟨n - 1, by omega⟩
        unfold f_X9_wander_h28 f_X9_draw
        rw [if_pos (nI_lt (by omega) (by omega)), show z_ix 0 = 0 from rfl, mb, mOpenAt (sh := 0) s2 m9 m24 (by omega) hW m (by omega), z_bindS]
        rw [if_pos (show (0 : Int32) < nI (sOA S 0 (S 10 3) W) from nI_lt (a := 0) (by omega) (by omega)), mb, mOpenAt (sh := 0) s2 m9 m24 (by omega) hW m (by omega), z_bindS, z_letE, m13]
        have z1 : (z_sI ν 0 13 (S 10 6 * 1103515245 + 12345)).1 0 13 = S 10 6 * 1103515245 + 12345 := rfl
        rw [z1, eu]
        unfold z_nz
        rw [if_neg (show ¬ nI (sOA S 0 (S 10 3) W) = 0 from nI_ne (b := 0) (by omega) (by omega) z), z_bindS, z_remN (by omega) (by omega)]
        have mp := mPick (r28 := f_X9_wander_h28 m) (l1 := nI k) (l2 := nI i) (ν := z_sI ν 0 13 (S 10 6 * 1103515245 + 12345)) t2 mb m24 hW W 0 (u % sOA S 0 (S 10 3) W) m (by omega) (by omega) (by omega) lt2
        have mp' : f_X9_wander_h64 (f_X9_wander_h28 m) m (nI k) (nI i) (nI (u % sOA S 0 (S 10 3) W)) 0 (z_sI ν 0 13 (S 10 6 * 1103515245 + 12345)) = z_bind (f_X9_goesBy (nI (sPk (sU S 10 6 (S 10 6 * 1103515245 + 12345)) (S 10 3) W 0 (u % sOA S 0 (S 10 3) W))) (z_sI ν 0 13 (S 10 6 * 1103515245 + 12345))) (fun p10 => f_X9_wander_h28 m (nI k) (nI i + 1) p10.2) := mp
        rw [mp', k2, z_bindS, i_succ]
        exact j2 _ (by omega)
theorem ag_wander {N : Nat} {μ ν : z_M} (R : Rr N μ ν) (x : Int32) : Ag (N + 41) (fun n => f_X8_wander n x μ) (fun n => f_X9_wander n x ν) := by
  obtain ⟨S, H, W, g, O⟩ := R.1.op
  have O' := O
  obtain ⟨⟨s1, s2, V⟩, ⟨hH, hW, hg1, hg3⟩, ⟨eH, eW, eg⟩, ⟨c3, c4, c5, c6⟩, ⟨m8, m9, m10, mb, m23, m24⟩, hb⟩ := O
  unfold f_X8_wander f_X9_wander
  rw [show f_X8_isCount x 1 40 μ = f_X9_isIn x (nI 1) (nI 40) ν from rfl, show f_X9_isIn x 1 40 ν = f_X9_isIn x (nI 1) (nI 40) ν from rfl]
  have bad : Ag (N + 41) (fun n => f_X8_wander_b20 n μ) (fun n => f_X9_wander_b19 n ν) := ⟨_, _, _, ⟨0, rfl⟩, ⟨0, rfl⟩, (R.refuse 6).mono (by omega)⟩
  rcases dIn ν x 1 40 (by omega) (by omega) with e | ⟨j, h1, h3, rfl, e⟩
  · rw [e]; exact bad
  · rw [e]
    simp only [ifn]
    rw [show z_ix 0 = 0 from rfl]
    rcases hasBird c6 mb hH hb with ⟨b1, b2⟩ | ⟨b1, b2, b, hb1, hb2⟩
    · simp only [b1, if_true, if_pos b2]; exact bad
    · simp only [b1, ifn, if_neg b2]
      obtain ⟨r, μ', ν', k1, k2, k3⟩ := wander_step h3 j 0 N μ ν (by omega) R
      exact ⟨r, μ', ν', ⟨100, k1 100 (by omega)⟩, ⟨100, k2 100 (by omega)⟩, k3.mono (by omega)⟩
