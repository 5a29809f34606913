/-! words stay words; the street's changes -/
theorem z_or (a b : Nat) : nI a ||| nI b = nI (a ||| b) := by
  apply Int32.toBitVec_inj.1
  show BitVec.ofNat 32 a ||| BitVec.ofNat 32 b = BitVec.ofNat 32 (a ||| b)
  apply BitVec.eq_of_getLsbD_eq
  intro i hi
  simp [hi]
theorem z_and (a b : Nat) : nI a &&& nI b = nI (a &&& b) := by
  apply Int32.toBitVec_inj.1
  show BitVec.ofNat 32 a &&& BitVec.ofNat 32 b = BitVec.ofNat 32 (a &&& b)
  apply BitVec.eq_of_getLsbD_eq
  intro i hi
  simp [hi]
theorem zB_or {x y : Int32} (hx : zB x 256) (hy : zB y 256) : zB (x ||| y) 256 := by
  obtain ⟨a, ha, rfl⟩ := hx
  obtain ⟨b, hb, rfl⟩ := hy
  exact ⟨a ||| b, Nat.or_lt_two_pow (n := 8) ha hb, z_or a b⟩
theorem zB_255 (x : Int32) : zB (x &&& 255) 256 := pk_andE x 8 (by decide)
theorem z_255 {x : Int32} (hx : zB x 256) : x &&& 255 = x := by
  obtain ⟨a, ha, rfl⟩ := hx
  rw [pk_andN (by omega) 8 (by decide), Nat.mod_eq_of_lt ha]
theorem zB_and {x y : Int32} (hx : zB x 256) : zB (x &&& y) 256 := by
  rw [← z_255 hx, Int32.and_assoc, Int32.and_comm 255 y, ← Int32.and_assoc]
  exact zB_255 _
theorem zB_0 {n : Nat} (h : 0 < n) : zB 0 n := ⟨0, h, rfl⟩
theorem zB_ite {C : Prop} {hC : Decidable C} {x y : Int32} {n : Nat} (hx : zB x n) (hy : zB y n) : zB (@ite _ C hC x y) n := by
  by_cases c : C
  · rw [if_pos c]; exact hx
  · rw [if_neg c]; exact hy
theorem zB_shy {N : Nat} {S : zS} {h : Nat} {sp : Int32} (V : Vd N S) (hh : h < 8) : zB (s_shy S h sp) 256 := by
  have q := (V.2.2.2.2.1 h hh).2.1
  exact zB_ite q (zB_and q)
theorem zB_ans {N : Nat} {S : zS} {h : Nat} {sp kn vs : Int32} (V : Vd N S) (hh : h < 8) (h1 : zB sp 256) (h2 : zB kn 256) : zB (s_ans S h sp kn vs) 256 := by
  have q := (V.2.2.2.2.1 h hh).2.1
  unfold s_ans
  exact zB_ite (zB_0 (by omega)) (zB_ite (zB_or q h2) (zB_ite (zB_or (zB_or q h2) h1) (zB_ite (zB_shy V hh) (zB_ite (zB_255 _) (zB_ite (zB_ite (zB_0 (by omega)) q) q)))))
theorem Vd.H1 {N : Nat} {S : zS} (V : Vd N S) : ∀ h, h < 8 → zB (S 0 h) 7 ∧ zB (S 1 h) 256 ∧ zB (S 2 h) 256 ∧ zB (S 3 h) 256 ∧ zB (S 4 h) N := V.2.2.2.2.1
theorem Vd.B1 {N : Nat} {S : zS} (V : Vd N S) : ∀ i, i < 3 → zB (S 9 i) 256 := V.2.2.2.2.2.2.2
/-- another street: the same counts and ways, houses' facts still in their bounds -/
theorem Vd.mk' {N M : Nat} {S S' : zS} (V : Vd N S) (e0 : S' 10 0 = S 10 0) (e1 : S' 10 1 = S 10 1) (h3 : ∃ g, 1 ≤ g ∧ g ≤ 3 ∧ S' 10 2 = nI g) (h4 : S' 10 3 = -1 ∨ zB (S' 10 3) (sH S)) (h5 : ∀ h, h < 8 → zB (S' 0 h) 7 ∧ zB (S' 1 h) 256 ∧ zB (S' 2 h) 256 ∧ zB (S' 3 h) 256 ∧ zB (S' 4 h) M) (h6 : ∀ w, S' 5 w = S 5 w ∧ S' 6 w = S 6 w ∧ S' 7 w = S 7 w) (h7 : ∀ w, w < 12 → zB (S' 8 w) 2) (h8 : ∀ i, i < 3 → zB (S' 9 i) 256) : Vd M S' := by
  have d1 : sH S' = sH S := by unfold sH; rw [e0]
  have d2 : sW S' = sW S := by unfold sW; rw [e1]
  refine ⟨by rw [e0]; exact V.1, by rw [e1]; exact V.2.1, h3, by rw [d1]; exact h4, h5, fun x hx => ?_, h7, h8⟩
  rw [d2] at hx
  rw [(h6 x).1, (h6 x).2.1, (h6 x).2.2, d1]; exact V.2.2.2.2.2.1 x hx
theorem Vd.said {N : Nat} {S : zS} {x : Nat} {v : Int32} (V : Vd N S) (hv : zB v 256) : Vd N (sU S 1 x v) := by
  refine V.mk' rfl rfl V.2.2.1 V.2.2.2.1 (fun h hh => ?_) (fun w => ⟨rfl, rfl, rfl⟩) V.2.2.2.2.2.2.1 V.B1
  obtain ⟨a, b, c, d, e⟩ := V.H1 h hh
  refine ⟨a, ?_, c, d, e⟩
  rw [sUE]; exact zB_ite hv b
theorem Vd.shut {N : Nat} {S : zS} {x : Nat} {v : Int32} (V : Vd N S) (hv : zB v 2) : Vd N (sU S 8 x v) := by
  refine V.mk' rfl rfl V.2.2.1 V.2.2.2.1 V.H1 (fun w => ⟨rfl, rfl, rfl⟩) (fun w hw => ?_) V.B1
  rw [sUE]; exact zB_ite hv (V.2.2.2.2.2.2.1 w hw)
theorem Vd.clr {N : Nat} {S : zS} (V : Vd N S) : Vd N (sB0 S) := V.mk' rfl rfl V.2.2.1 V.2.2.2.1 V.H1 (fun w => ⟨rfl, rfl, rfl⟩) V.2.2.2.2.2.2.1 (fun i hi => zB_0 (by omega))
theorem Vd.lag {N g : Nat} {S : zS} (V : Vd N S) (h1 : 1 ≤ g) (h3 : g ≤ 3) : Vd N (sU S 10 2 (nI g)) := V.mk' rfl rfl ⟨g, h1, h3, rfl⟩ V.2.2.2.1 V.H1 (fun w => ⟨rfl, rfl, rfl⟩) V.2.2.2.2.2.2.1 V.B1
theorem Vd.bird {N : Nat} {S : zS} {v : Int32} (V : Vd N S) (h : zB v (sH S)) : Vd N (sU S 10 3 v) := V.mk' rfl rfl V.2.2.1 (Or.inr h) V.H1 (fun w => ⟨rfl, rfl, rfl⟩) V.2.2.2.2.2.2.1 V.B1
theorem Vd.gone {N : Nat} {S : zS} {v : Int32} (V : Vd N S) : Vd N (sU S 10 4 v) := V.mk' rfl rfl V.2.2.1 V.2.2.2.1 V.H1 (fun w => ⟨rfl, rfl, rfl⟩) V.2.2.2.2.2.2.1 V.B1
theorem Vd.visit {N g h : Nat} {S : zS} (V : Vd N S) (h1 : 1 ≤ g) (h3 : g ≤ 3) (hh : h < sH S) (h8 : h < 8) : Vd (N + 1) (sV S g h) := by
  have b := V.B1 (g - 1) (by omega)
  refine V.mk' rfl rfl V.2.2.1 (Or.inr ⟨h, hh, rfl⟩) (fun x hx => ?_) (fun w => ⟨rfl, rfl, rfl⟩) V.2.2.2.2.2.2.1 (fun i hi => ?_)
  · obtain ⟨a1, a2, a3, a4, a5⟩ := V.H1 x hx
    refine ⟨a1, a2, a3, ?_, ?_⟩
    · show zB (if 3 = 3 ∧ x = h then _ else if 3 = 4 ∧ x = h then _ else if 3 = 9 then _ else _) 256
      by_cases e : x = h
      · subst e; rw [if_pos ⟨rfl, rfl⟩]; exact zB_or a4 b
      · rw [if_neg (fun q => e q.2), if_neg (by omega), if_neg (by omega), if_neg (by omega), if_neg (by omega)]; exact a4
    · show zB (if 4 = 3 ∧ x = h then _ else if 4 = 4 ∧ x = h then _ else if 4 = 9 then _ else _) (N + 1)
      by_cases e : x = h
      · subst e; rw [if_neg (by omega), if_pos ⟨rfl, rfl⟩]
        obtain ⟨j, hj, e5⟩ := a5
        exact ⟨j + 1, by omega, by rw [e5, i_succ]⟩
      · rw [if_neg (by omega), if_neg (fun q => e q.2), if_neg (by omega), if_neg (by omega), if_neg (by omega)]; exact a5.mono (by omega)
  · show zB (if 9 = 3 ∧ i = h then _ else if 9 = 4 ∧ i = h then _ else if 9 = 9 then _ else _) 256
    rw [if_neg (by omega), if_neg (by omega), if_pos rfl]
    obtain ⟨a1, a2, a3, a4, a5⟩ := V.H1 h h8
    by_cases e : i = 0
    · rw [if_pos e]; exact zB_ans V h8 b a4
    · rw [if_neg e]; exact V.B1 (i - 1) (by omega)
/-- the reference's real visit -/
theorem mReal {g h : Nat} {ν : z_M} {S : zS} (s2 : StM ν S) (hg : ν.1 0 23 = nI g) (h1 : 1 ≤ g) (h3 : g ≤ 3) (hh : h < 8) : ∃ ν', f_X9_reallyVisits (nI h) ν = some (S 9 (g - 1), ν') ∧ StM ν' (sV S g h) ∧ KY ν ν' ∧ ν'.1 0 23 = ν.1 0 23 ∧ ν'.1 0 24 = ν.1 0 24 := by
  obtain ⟨a0, a1, a2, a3, a4⟩ := s2.1 h hh
  obtain ⟨m1, e1, T, fr, f2⟩ := mVisit a0 a1 a2 (row0 s2) (by omega) hg h1 h3 hh
  unfold f_X9_reallyVisits
  rw [nL0, e1, z_bindS]
  refine z_letX fun m2 e2 => ⟨m2, ?_, ?_, ?_, ?_, ?_⟩
  · have q : m2.1 16 0 = S 9 (g - 1) := by rw [e2, sI1, if_neg (by omega)]; exact T.2.2.2.2
    rw [show z_ix (nI 0) = 0 from rfl, q]
  · obtain ⟨k1, k2, ⟨m, k3, k4, k5⟩, n1, n2, n3, n4, n5, n6, n7⟩ := s2
    have fr' : ∀ k j, k ≠ 9 → k ≠ 10 → k ≠ 11 → k ≠ 12 → k ≠ 13 → k ≠ 14 → k ≠ 16 → m1.1 k j = ν.1 k j := fun k j q1 q2 q3 q4 q5 q6 q7 => fr k j (Or.inl ⟨q2, q3, q4⟩) (Or.inl q5) (Or.inl ⟨q1, q6, q7⟩)
    obtain ⟨t1, ⟨mm, t2, t3, t4⟩, t5, -, -⟩ := T
    refine ⟨fun x hx => ⟨?_, ?_, ?_, ?_, ?_⟩, fun x hx => ⟨?_, ?_, ?_, ?_⟩, ⟨mm, t2, ?_, fun i hi => ?_⟩, ?_, ?_, ?_, ?_, ?_, ?_, ?_⟩
    · rw [e2, sI1f (by decide), fr' _ _ (by decide) (by decide) (by decide) (by decide) (by decide) (by decide) (by decide)]; exact (k1 x hx).1
    · rw [e2, sI1f (by decide), fr' _ _ (by decide) (by decide) (by decide) (by decide) (by decide) (by decide) (by decide)]; exact (k1 x hx).2.1
    · rw [e2, sI1f (by decide), fr' _ _ (by decide) (by decide) (by decide) (by decide) (by decide) (by decide) (by decide)]; exact (k1 x hx).2.2.1
    · rw [e2, sI1f (by decide)]
      have q := (t1 x hx).1
      rw [Nat.mul_zero, Nat.zero_add] at q
      rw [q]
      simp only [tV, sV]
      by_cases e : x = h <;> simp [e]
    · rw [e2, sI1f (by decide)]
      have q := (t1 x hx).2.2
      rw [Nat.mul_zero, Nat.zero_add] at q
      rw [q]
      simp only [tV, sV]
      by_cases e : x = h <;> simp [e]
    · rw [e2, sI1f (by decide), fr' _ _ (by decide) (by decide) (by decide) (by decide) (by decide) (by decide) (by decide)]; exact (k2 x hx).1
    · rw [e2, sI1f (by decide), fr' _ _ (by decide) (by decide) (by decide) (by decide) (by decide) (by decide) (by decide)]; exact (k2 x hx).2.1
    · rw [e2, sI1f (by decide), fr' _ _ (by decide) (by decide) (by decide) (by decide) (by decide) (by decide) (by decide)]; exact (k2 x hx).2.2.1
    · rw [e2, sI1f (by decide), fr' _ _ (by decide) (by decide) (by decide) (by decide) (by decide) (by decide) (by decide)]; exact (k2 x hx).2.2.2
    · rw [e2, sI1f (by decide)]; exact t3
    · have q := t4 i hi
      rw [Nat.mul_zero, Nat.zero_add] at q
      rw [e2, sI1f (by decide), ← q]
      rcases (show i = 0 ∨ i = 1 ∨ i = 2 by omega) with rfl | rfl | rfl <;> rfl
    · rw [e2, sI1, if_neg (by omega), fr' _ _ (by decide) (by decide) (by decide) (by decide) (by decide) (by decide) (by decide)]; exact n1
    · rw [e2, sI1, if_neg (by omega), fr' _ _ (by decide) (by decide) (by decide) (by decide) (by decide) (by decide) (by decide)]; exact n2
    · rw [e2, sI1, if_neg (by omega), fr' _ _ (by decide) (by decide) (by decide) (by decide) (by decide) (by decide) (by decide)]; exact n3
    · rw [e2, sI1f (by decide)]; exact t5
    · rw [e2, sI1, if_neg (by omega), fr' _ _ (by decide) (by decide) (by decide) (by decide) (by decide) (by decide) (by decide)]; exact n5
    · rw [e2, sI1, if_pos ⟨rfl, rfl⟩, fr' _ _ (by decide) (by decide) (by decide) (by decide) (by decide) (by decide) (by decide), n6]; rfl
    · rw [e2, sI1, if_neg (by omega), fr' _ _ (by decide) (by decide) (by decide) (by decide) (by decide) (by decide) (by decide)]; exact n7
  · rw [e2]
    refine KY.sI ⟨fun k j q => fr k j ?_ ?_ ?_, by rw [f2]⟩ (by unfold LY; omega)
    · unfold LY at q; rcases q with ⟨q0, q | q | q⟩ | q0 | q0 | q0 | q0 | ⟨q0, q⟩ | q0 <;> exact Or.inl (by omega)
    · unfold LY at q; rcases q with ⟨q0, q | q | q⟩ | q0 | q0 | q0 | q0 | ⟨q0, q⟩ | q0 <;> exact Or.inl (by omega)
    · unfold LY at q; rcases q with ⟨q0, q | q | q⟩ | q0 | q0 | q0 | q0 | ⟨q0, q⟩ | q0 <;> exact Or.inl (by omega)
  · rw [e2, sI1, if_neg (by omega), fr _ _ (Or.inl (by omega)) (Or.inl (by omega)) (Or.inl (by omega))]
  · rw [e2, sI1, if_neg (by omega), fr _ _ (Or.inl (by omega)) (Or.inl (by omega)) (Or.inl (by omega))]
theorem ag_put {N : Nat} {μ ν : z_M} (R : Rr N μ ν) (x : Int32) : Ag (N + 1) (fun n => f_X8_put n x μ) (fun _ => f_X9_put x ν) := by
  obtain ⟨S, H, W, g, ⟨s1, s2, V⟩, ⟨hH, hW, hg1, hg3⟩, ⟨eH, eW, eg⟩, ⟨c3, c4, c5, c6⟩, ⟨m8, m9, m10, mb, m23, m24⟩, hb⟩ := R.1.op
  unfold f_X8_put f_X9_put
  rcases dH c3 m8 hH x with ⟨e1, e2⟩ | ⟨j, hj, rfl, e1, e2⟩
  · rw [e1, e2]; exact ⟨_, _, _, ⟨0, rfl⟩, ⟨0, rfl⟩, (R.refuse 1).mono (by omega)⟩
  · rw [e1, e2]
    obtain ⟨μ', q1, q2, q3, q4⟩ := cVisit s1 eg hg1 hg3 (show j < 8 by omega) 0
    obtain ⟨ν', r1, r2, r3, r4, r5⟩ := mReal s2 m23 hg1 hg3 (show j < 8 by omega)
    refine ⟨S 9 (g - 1), μ', ν', ⟨3, ?_⟩, ⟨0, ?_⟩, R.street (by omega) ⟨sV S g j, q2, r2, V.visit hg1 hg3 (by rw [sH_of eH hH]; exact hj) (by omega), ?_, ?_⟩ ⟨fun k i z => ?_, q4⟩ r3⟩
    · simp only [if_neg o10.mp]
      rw [show (0 + 3) = 3 from rfl] at q1
      rw [q1]; rfl
    · rw [if_neg o10.mp, r1]; rfl
    · rw [r4, m23]; exact eg.symm
    · rw [r5, m24]
    · rw [q3 k (by unfold LX at z; rcases z with ⟨z, -⟩ | z | z | z | z | z | z | ⟨z, -⟩ | z | ⟨z, -⟩ | z <;> omega) (by unfold LX at z; rcases z with ⟨z, -⟩ | z | z | z | z | z | z | ⟨z, -⟩ | z | ⟨z, -⟩ | z <;> omega) (by unfold LX at z; rcases z with ⟨z, -⟩ | z | z | z | z | z | z | ⟨z, -⟩ | z | ⟨z, -⟩ | z <;> omega)]
