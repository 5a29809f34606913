/-! the street's calls agree -/
def LX (k j : Nat) : Prop := (k = 0 ∧ (j = 9 ∨ j = 10)) ∨ k = 8 ∨ k = 10 ∨ k = 12 ∨ k = 14 ∨ k = 25 ∨ k = 27 ∨ (k = 28 ∧ j = 1) ∨ k = 30 ∨ (k = 41 ∧ j = 0) ∨ k = 49
def LY (k j : Nat) : Prop := (k = 0 ∧ (j = 36 ∨ j = 42 ∨ j = 51)) ∨ k = 1 ∨ k = 19 ∨ k = 20 ∨ k = 21 ∨ (k = 24 ∧ j < 200) ∨ k = 26
def KX (μ μ' : z_M) : Prop := (∀ k j, LX k j → μ'.1 k j = μ.1 k j) ∧ μ'.2 = μ.2
def KY (ν ν' : z_M) : Prop := (∀ k j, LY k j → ν'.1 k j = ν.1 k j) ∧ ν'.2 22 = ν.2 22
theorem KX.rf (μ : z_M) : KX μ μ := ⟨fun _ _ _ => rfl, rfl⟩
theorem KY.rf (μ : z_M) : KY μ μ := ⟨fun _ _ _ => rfl, rfl⟩
theorem KX.tr {a b c : z_M} (h : KX a b) (k : KX b c) : KX a c := ⟨fun x y z => (k.1 x y z).trans (h.1 x y z), k.2.trans h.2⟩
theorem KY.tr {a b c : z_M} (h : KY a b) (k : KY b c) : KY a c := ⟨fun x y z => (k.1 x y z).trans (h.1 x y z), k.2.trans h.2⟩
theorem KX.sI {a b : z_M} (h : KX a b) {k j : Nat} {v : Int32} (hk : ¬ LX k j) : KX a (z_sI b k j v) := by
  refine ⟨fun x y z => ?_, h.2⟩
  rw [sI1, if_neg (fun e => hk (by rw [← e.1, ← e.2]; exact z))]
  exact h.1 x y z
theorem KY.sI {a b : z_M} (h : KY a b) {k j : Nat} {v : Int32} (hk : ¬ LY k j) : KY a (z_sI b k j v) := by
  refine ⟨fun x y z => ?_, h.2⟩
  rw [sI1, if_neg (fun e => hk (by rw [← e.1, ← e.2]; exact z))]
  exact h.1 x y z
theorem KX.clr {a b : z_M} (h : KX a b) {k n : Nat} (hk : ∀ j, ¬ LX k j) : KX a (g_clr k n b) := by
  refine ⟨fun x y z => ?_, h.2⟩
  show (if x = k ∧ y < n then 0 else b.1 x y) = _
  rw [if_neg (fun e => hk y (by rw [← e.1]; exact z))]
  exact h.1 x y z
theorem KC.KX {a b : z_M} (h : KC a b) : KX a b := ⟨fun k j q => h.1 k j (by unfold LX at q; unfold LC; rcases q with q | q | q | q | q | q | q | q | q | q | q <;> simp [q]), h.2⟩
theorem KM.KY {a b : z_M} (h : KM a b) : KY a b := ⟨fun k j q => h.1 k j (by unfold LY at q; unfold LM; rcases q with ⟨q0, q | q | q⟩ | q0 | q0 | q0 | q0 | ⟨q0, q⟩ | q0 <;> first | (simp [q0]; done) | simp [q0, q]) , h.2⟩
theorem Rr.street {N M : Nat} {μ ν μ' ν' : z_M} (h : Rr N μ ν) (hN : N ≤ M) (hS : RS M μ' ν') (c : KX μ μ') (m : KY ν ν') : Rr M μ' ν' := by
  obtain ⟨-, hI, hH, hF, hL, ⟨⟨r, a1, a2, a3⟩, a4⟩, hz⟩ := h
  have e := c.1
  have d := m.1
  refine ⟨hS, (hI.mono hN).same (fun j => ⟨e 8 j (by unfold LX; omega), e 10 j (by unfold LX; omega), e 12 j (by unfold LX; omega), e 14 j (by unfold LX; omega)⟩) (e 0 10 (by unfold LX; omega)) (fun j hj => d 24 j (by unfold LY; omega)) (d 0 42 (by unfold LY; omega)), hH.same (fun j => ⟨e 25 j (by unfold LX; omega), e 27 j (by unfold LX; omega)⟩) (by rw [c.2]) (fun j => ⟨d 19 j (by unfold LY; omega), d 20 j (by unfold LY; omega), d 21 j (by unfold LY; omega)⟩) m.2, fun i hi => ?_, ?_, ⟨⟨r, a1, ?_, ?_⟩, fun i hi => ?_⟩, ?_⟩
  · rw [e 49 i (by unfold LX; omega), d 1 i (by unfold LY; omega)]; exact hF i hi
  · rw [e 0 9 (by unfold LX; omega), d 0 36 (by unfold LY; omega)]; exact hL
  · rw [e 28 1 (by unfold LX; omega)]; exact a2
  · rw [d 0 51 (by unfold LY; omega)]; exact a3
  · rw [e 30 i (by unfold LX; omega), d 26 i (by unfold LY; omega)]; exact a4 i hi
  · rw [e 41 0 (by unfold LX; omega)]; exact hz
theorem dH {μ ν : z_M} {H : Nat} (c3 : μ.1 1 3 = nI H) (m8 : ν.1 0 8 = nI H) (hH : H ≤ 8) (x : Int32) : (f_X6_isHouse 1 x μ = 0 ∧ f_X9_isHouse x ν = 0) ∨ ∃ j, j < H ∧ x = nI j ∧ f_X6_isHouse 1 (nI j) μ = 1 ∧ f_X9_isHouse (nI j) ν = 1 := by
  unfold f_X6_isHouse f_X9_isHouse
  rw [c3, m8]
  rcases n3 x (n := H) (by omega) with ⟨j, hj, rfl⟩ | h | ⟨j, hj, hj2, rfl⟩
  · refine Or.inr ⟨j, hj, rfl, ?_, ?_⟩ <;> rw [if_neg (nI_pos (by omega)), if_pos (nI_lt hj (by omega))]
  · refine Or.inl ⟨?_, ?_⟩ <;> rw [if_pos h]
  · refine Or.inl ⟨?_, ?_⟩ <;> rw [if_neg (nI_pos (by omega)), if_neg (nI_nlt hj (by omega))]
theorem dW {μ ν : z_M} {H : Nat} (c3 : μ.1 1 4 = nI H) (m8 : ν.1 0 9 = nI H) (hH : H ≤ 12) (x : Int32) : (f_X6_isWay 1 x μ = 0 ∧ f_X9_isWay x ν = 0) ∨ ∃ j, j < H ∧ x = nI j ∧ f_X6_isWay 1 (nI j) μ = 1 ∧ f_X9_isWay (nI j) ν = 1 := by
  unfold f_X6_isWay f_X9_isWay
  rw [c3, m8]
  rcases n3 x (n := H) (by omega) with ⟨j, hj, rfl⟩ | h | ⟨j, hj, hj2, rfl⟩
  · refine Or.inr ⟨j, hj, rfl, ?_, ?_⟩ <;> rw [if_neg (nI_pos (by omega)), if_pos (nI_lt hj (by omega))]
  · refine Or.inl ⟨?_, ?_⟩ <;> rw [if_pos h]
  · refine Or.inl ⟨?_, ?_⟩ <;> rw [if_neg (nI_pos (by omega)), if_neg (nI_nlt hj (by omega))]
theorem dSet (μ ν : z_M) (x : Int32) : (f_X8_isSet x μ = 0 ∧ f_X9_isSet x ν = 0) ∨ ∃ j, j < 256 ∧ x = nI j ∧ f_X8_isSet (nI j) μ = 1 ∧ f_X9_isSet (nI j) ν = 1 := by
  unfold f_X8_isSet f_X9_isSet
  rcases n3 x (n := 256) (by omega) with ⟨j, hj, rfl⟩ | h | ⟨j, hj, hj2, rfl⟩
  · refine Or.inr ⟨j, hj, rfl, ?_, ?_⟩
    · rw [if_neg (nI_pos (by omega)), if_neg (show ¬ (255 : Int32) < nI j from nI_nlt (a := 255) (by omega) (by omega))]
    · rw [if_neg (nI_pos (by omega)), if_pos (show nI j < (256 : Int32) from nI_lt (b := 256) hj (by omega))]
  · refine Or.inl ⟨?_, ?_⟩ <;> rw [if_pos h]
  · refine Or.inl ⟨?_, ?_⟩
    · rw [if_neg (nI_pos (by omega)), if_pos (show (255 : Int32) < nI j from nI_lt (a := 255) (by omega) (by omega))]
    · rw [if_neg (nI_pos (by omega)), if_neg (show ¬ nI j < (256 : Int32) from nI_nlt (b := 256) hj (by omega))]
theorem dIn (ν : z_M) (x : Int32) (a b : Nat) (hb : b < 2 ^ 30) (hab : a ≤ b) : f_X9_isIn x (nI a) (nI b) ν = 0 ∨ ∃ j, a ≤ j ∧ j ≤ b ∧ x = nI j ∧ f_X9_isIn (nI j) (nI a) (nI b) ν = 1 := by
  unfold f_X9_isIn
  by_cases h : x < nI a
  · exact Or.inl (by rw [if_pos h])
  · by_cases h2 : nI b < x
    · exact Or.inl (by rw [if_neg h, if_pos h2])
    · rcases n3 x (n := b + 1) (by omega) with ⟨j, hj, rfl⟩ | h3 | ⟨j, hj, hj2, rfl⟩
      · exact Or.inr ⟨j, by
          rcases Nat.lt_or_ge j a with q | q
          · exact absurd (nI_lt q (by omega)) h
          · exact q, by omega, rfl, by rw [if_neg h, if_neg h2]⟩
      · exact absurd (Int32.lt_trans h3 (by
          rcases Nat.eq_zero_or_pos a with rfl | q
          · exact absurd h3 h
          · exact nI_lt (a := 0) q (by omega))) h
      · exact absurd (nI_lt (a := b) (b := j) (by omega) hj2) h2
theorem cnt_in (x a b : Int32) (μ ν : z_M) : f_X8_isCount x a b μ = f_X9_isIn x a b ν := rfl
theorem kind_in (x : Int32) (μ ν : z_M) : f_X2_isKind x μ = f_X9_isIn x 0 6 ν := rfl
theorem ag_where {N : Nat} {μ ν : z_M} (R : Rr N μ ν) : Ag N (fun _ => z_oP μ (f_X8_where μ)) (fun _ => f_X9_where ν) := by
  obtain ⟨S, H, W, g, ⟨s1, s2, V⟩, ⟨hH, hW, hg1, hg3⟩, ⟨eH, eW, eg⟩, ⟨c3, c4, c5, c6⟩, ⟨m8, m9, m10, mb, m23, m24⟩, hb⟩ := R.1.op
  exact ⟨S 10 3, μ, ν, ⟨0, by rw [show f_X8_where μ = μ.1 1 6 from rfl, c6]; rfl⟩, ⟨0, by show some (ν.1 9 0, ν) = _; rw [mb]⟩, R⟩
theorem row0 {ν : z_M} {S : zS} (s2 : StM ν S) : RowM ν 0 (fun a i => if a = 0 then S 3 i else if a = 1 then ν.1 12 i else if a = 2 then S 4 i else if a = 3 then S 9 i else if i = 0 then S 10 3 else if i = 1 then ν.1 15 0 else ν.1 16 0) := by
  obtain ⟨h1, -, h3, -, -, -, h9, -⟩ := s2
  refine ⟨fun h hh => ⟨?_, ?_, ?_⟩, ?_, h9, rfl, rfl⟩
  · rw [Nat.mul_zero, Nat.zero_add]; exact (h1 h hh).2.2.2.1
  · rw [Nat.mul_zero, Nat.zero_add]; rfl
  · rw [Nat.mul_zero, Nat.zero_add]; exact (h1 h hh).2.2.2.2
  · obtain ⟨m, q1, q2, q3⟩ := h3
    refine ⟨m, q1, q2, fun i hi => ?_⟩
    rw [Nat.mul_zero, Nat.zero_add]; exact q3 i hi
theorem ag_next {N : Nat} {μ ν : z_M} (R : Rr N μ ν) : Ag N (fun _ => z_oP μ (f_X8_next μ)) (fun _ => f_X9_next ν) := by
  obtain ⟨S, H, W, g, ⟨s1, s2, V⟩, ⟨hH, hW, hg1, hg3⟩, ⟨eH, eW, eg⟩, ⟨c3, c4, c5, c6⟩, ⟨m8, m9, m10, mb, m23, m24⟩, hb⟩ := R.1.op
  refine ⟨S 9 (g - 1), μ, ν, ⟨0, ?_⟩, ⟨0, ?_⟩, R⟩
  · rw [show f_X8_next μ = f_X6_spokenNext 1 μ from rfl, cNext s1 eg hg1 hg3]; rfl
  · unfold f_X9_next
    rw [nL0, mNext (row0 s2) (by omega) m23 hg1 hg3]; rfl
theorem ag_fault {N : Nat} {μ ν : z_M} (R : Rr N μ ν) : Ag N (fun _ => z_oP μ (f_X8_fault μ)) (fun _ => some (f_X9_fault ν, ν)) := ⟨μ.1 0 9, μ, ν, ⟨0, rfl⟩, ⟨0, by show some (ν.1 0 36, ν) = _; rw [R.2.2.2.2.1]⟩, R⟩
theorem ag_seed {N : Nat} {μ ν : z_M} (R : Rr N μ ν) (v : Int32) : Ag N (fun _ => z_oT (f_X8_seed v μ)) (fun _ => z_oT (f_X9_seed v ν)) := by
  obtain ⟨S, H, W, g, ⟨s1, s2, V⟩, ⟨hH, hW, hg1, hg3⟩, ⟨eH, eW, eg⟩, ⟨c3, c4, c5, c6⟩, ⟨m8, m9, m10, mb, m23, m24⟩, hb⟩ := R.1.op
  refine ⟨S 10 6, z_sI μ 1 9 v, z_sI ν 0 13 v, ⟨0, ?_⟩, ⟨0, ?_⟩, R.street (Nat.le_refl N) ⟨sU S 10 6 v, s1.setN (x := 6) (by omega), s2.setn6, V.fld6, ?_, ?_⟩ ((KX.rf _).sI (by unfold LX; omega)) ((KY.rf _).sI (by unfold LY; omega))⟩
  · show some (μ.1 1 9, _) = _
    rw [show μ.1 1 9 = S 10 6 from s1.2.2.2 6 (by omega)]; rfl
  · show some (ν.1 0 13, _) = _
    rw [s2.2.2.2.2.2.2.2.2.2]
  · show ν.1 0 23 = S 10 2
    rw [m23, eg]
  · exact m24
theorem ag_behind {N : Nat} {μ ν : z_M} (R : Rr N μ ν) (x : Int32) : Ag N (fun _ => z_oT (f_X8_behind x μ)) (fun _ => f_X9_behind x ν) := by
  obtain ⟨S, H, W, g, ⟨s1, s2, V⟩, ⟨hH, hW, hg1, hg3⟩, ⟨eH, eW, eg⟩, ⟨c3, c4, c5, c6⟩, ⟨m8, m9, m10, mb, m23, m24⟩, hb⟩ := R.1.op
  have bad : Ag N (fun _ => z_oT (f_X8_behind_b26 μ)) (fun _ => z_bind (f_X9_no (-5) ν) (fun p1 => some (p1.1, p1.2))) := ⟨_, _, _, ⟨0, rfl⟩, ⟨0, rfl⟩, R.refuse 5⟩
  unfold f_X8_behind f_X9_behind f_X9_isIn f_X6_lagNow
  rw [c5, m10, i_pred (by omega)]
  rcases n3 x (n := g) (by omega) with ⟨j, hj, rfl⟩ | h | ⟨j, hj, hj2, rfl⟩
  · rw [if_neg (nI_pos (by omega)), if_pos (nI_lt hj (by omega)), if_neg (nI_pos (by omega)), if_neg (nI_nlt (show j ≤ g - 1 by omega) (by omega)), if_neg (by decide), cAgo s1 (by omega)]
    obtain ⟨m, q1, q2, q3⟩ := s2.2.2.1
    rw [show z_ix 0 = 0 from rfl, z_chkN (by omega) (by decide), z_ixN (by omega), q2, q3 j (by omega)]
    by_cases hm : j < m
    · simp only [if_pos hm, if_pos (nI_lt hm (by omega))]
      exact ⟨_, _, _, ⟨0, rfl⟩, ⟨0, rfl⟩, R⟩
    · simp only [if_neg hm, if_neg (nI_nlt (show m ≤ j by omega) (by omega))]
      exact ⟨_, _, _, ⟨0, rfl⟩, ⟨0, rfl⟩, R⟩
  · simp only [if_pos h, if_true]; exact bad
  · simp only [if_neg (nI_pos hj2), if_neg (nI_nlt hj hj2), if_pos (nI_lt (show g - 1 < j by omega) hj2), if_true]; exact bad
theorem mAns0 {h : Nat} {sp : Int32} {ν : z_M} {S : zS} (s2 : StM ν S) (hh : h < 8) : f_X9_answerOf 0 (nI h) sp ν = some (s_ans S h sp (S 3 h) (S 4 h), ν) := by
  obtain ⟨a0, a1, a2, a3, a4⟩ := s2.1 h hh
  rw [nL0, mAns a0 a1 a2 (by omega) hh, Nat.mul_zero, Nat.zero_add, a3, a4]
theorem cAns0 {q h : Nat} {sp : Int32} {μ : z_M} {S : zS} (s1 : StC q μ S) (hh : h < 8) : f_X6_answerAfter q (nI h) sp 0 0 μ = s_ans S h sp (S 3 h) (S 4 h) := by
  rw [cAns s1 hh, or0, add0]
theorem ag_answer {N : Nat} {μ ν : z_M} (R : Rr N μ ν) (x v : Int32) : Ag N (fun _ => z_oT (f_X8_answer x v μ)) (fun _ => f_X9_answer x v ν) := by
  obtain ⟨S, H, W, g, ⟨s1, s2, V⟩, ⟨hH, hW, hg1, hg3⟩, ⟨eH, eW, eg⟩, ⟨c3, c4, c5, c6⟩, ⟨m8, m9, m10, mb, m23, m24⟩, hb⟩ := R.1.op
  unfold f_X8_answer f_X9_answer
  rcases dH c3 m8 hH x with ⟨e1, e2⟩ | ⟨j, hj, rfl, e1, e2⟩
  · rw [e1, e2]; exact ⟨_, _, _, ⟨0, rfl⟩, ⟨0, rfl⟩, R.refuse 1⟩
  · rw [e1, e2]
    rcases dSet μ ν v with ⟨e3, e4⟩ | ⟨k, hk, rfl, e3, e4⟩
    · rw [e3, e4]; exact ⟨_, _, _, ⟨0, rfl⟩, ⟨0, rfl⟩, R.refuse 6⟩
    · rw [e3, e4, mAns0 s2 (by omega), cAns0 s1 (by omega)]
      exact ⟨_, _, _, ⟨0, rfl⟩, ⟨0, rfl⟩, R⟩
theorem ag_houseOf {N : Nat} {μ ν : z_M} (R : Rr N μ ν) (x v : Int32) : Ag N (fun _ => z_oT (f_X8_houseOf x v μ)) (fun _ => f_X9_houseOf x v ν) := by
  obtain ⟨S, H, W, g, ⟨s1, s2, V⟩, ⟨hH, hW, hg1, hg3⟩, ⟨eH, eW, eg⟩, ⟨c3, c4, c5, c6⟩, ⟨m8, m9, m10, mb, m23, m24⟩, hb⟩ := R.1.op
  unfold f_X8_houseOf f_X9_houseOf
  rcases dH c3 m8 hH x with ⟨e1, e2⟩ | ⟨j, hj, rfl, e1, e2⟩
  · rw [e1, e2]; exact ⟨_, _, _, ⟨0, rfl⟩, ⟨0, rfl⟩, R.refuse 5⟩
  · rw [e1, e2]
    have j8 : j < 8 := by omega
    obtain ⟨a0, a1, a2, a3, a4⟩ := s2.1 j j8
    have b : ∀ (n : Nat), n < 2 ^ 31 → 4 < n → f_X9_isIn (nI n) 0 4 ν = 0 := fun n h1 h2 => by
      unfold f_X9_isIn
      rw [if_neg (nI_pos h1), if_pos (show (4 : Int32) < nI n from nI_lt (a := 4) h2 h1)]
    rcases n3 v (n := 5) (by omega) with ⟨k, hk, rfl⟩ | h | ⟨k, hk, hk2, rfl⟩
    · rw [if_neg o10.mp, if_neg (nI_pos (by omega)), if_pos (show nI k < (5 : Int32) from nI_lt (b := 5) hk (by omega))]
      unfold f_X8_houseOf_b25
      rcases (show k = 0 ∨ k = 1 ∨ k = 2 ∨ k = 3 ∨ k = 4 by omega) with rfl | rfl | rfl | rfl | rfl
      · exact ⟨S 0 j, μ, ν, ⟨0, by show some (f_X6_ofHouse 1 (nI j) 0 μ, μ) = _; rw [cO0 s1 j8]⟩, ⟨0, by show z_chk (nI j) 8 (some (ν.1 2 (z_ix (nI j)), ν)) = _; rw [z_chkN j8 (by decide), z_ixN (by omega), a0]⟩, R⟩
      · exact ⟨S 1 j, μ, ν, ⟨0, by show some (f_X6_ofHouse 1 (nI j) 1 μ, μ) = _; rw [cO1 s1 j8]⟩, ⟨0, by show z_chk (nI j) 8 (some (ν.1 3 (z_ix (nI j)), ν)) = _; rw [z_chkN j8 (by decide), z_ixN (by omega), a1]⟩, R⟩
      · exact ⟨S 2 j, μ, ν, ⟨0, by show some (f_X6_ofHouse 1 (nI j) 2 μ, μ) = _; rw [cO2 s1 j8]⟩, ⟨0, by show z_chk (nI j) 8 (some (ν.1 4 (z_ix (nI j)), ν)) = _; rw [z_chkN j8 (by decide), z_ixN (by omega), a2]⟩, R⟩
      · exact ⟨S 3 j, μ, ν, ⟨0, by show some (f_X6_ofHouse 1 (nI j) 3 μ, μ) = _; rw [cO3 s1 j8]⟩, ⟨0, by show z_chk (nI j) 72 (some (ν.1 10 (z_ix (nI j)), ν)) = _; rw [z_chkN (by omega) (by decide), z_ixN (by omega), a3]⟩, R⟩
      · exact ⟨S 4 j, μ, ν, ⟨0, by show some (f_X6_ofHouse 1 (nI j) 4 μ, μ) = _; rw [cO4 s1 j8]⟩, ⟨0, by show z_chk (nI j) 72 (some (ν.1 11 (z_ix (nI j)), ν)) = _; rw [z_chkN (by omega) (by decide), z_ixN (by omega), a4]⟩, R⟩
    · rw [if_neg o10.mp, if_pos h, show f_X9_isIn v 0 4 ν = 0 from by unfold f_X9_isIn; rw [if_pos h]]
      exact ⟨_, _, _, ⟨0, rfl⟩, ⟨0, rfl⟩, R.refuse 5⟩
    · rw [if_neg o10.mp, if_neg (nI_pos hk2), if_neg (show ¬ nI k < (5 : Int32) from nI_nlt (b := 5) hk hk2), b k hk2 (by omega)]
      exact ⟨_, _, _, ⟨0, rfl⟩, ⟨0, rfl⟩, R.refuse 5⟩
theorem ag_wayOf {N : Nat} {μ ν : z_M} (R : Rr N μ ν) (x v : Int32) : Ag N (fun _ => z_oT (f_X8_wayOf x v μ)) (fun _ => f_X9_wayOf x v ν) := by
  obtain ⟨S, H, W, g, ⟨s1, s2, V⟩, ⟨hH, hW, hg1, hg3⟩, ⟨eH, eW, eg⟩, ⟨c3, c4, c5, c6⟩, ⟨m8, m9, m10, mb, m23, m24⟩, hb⟩ := R.1.op
  unfold f_X8_wayOf f_X9_wayOf
  rcases dW c4 m9 hW x with ⟨e1, e2⟩ | ⟨j, hj, rfl, e1, e2⟩
  · rw [e1, e2]; exact ⟨_, _, _, ⟨0, rfl⟩, ⟨0, rfl⟩, R.refuse 5⟩
  · rw [e1, e2]
    have j8 : j < 12 := by omega
    obtain ⟨a0, a1, a2, a3⟩ := s2.2.1 j j8
    have b : ∀ (n : Nat), n < 2 ^ 31 → 3 < n → f_X9_isIn (nI n) 0 3 ν = 0 := fun n h1 h2 => by
      unfold f_X9_isIn
      rw [if_neg (nI_pos h1), if_pos (show (3 : Int32) < nI n from nI_lt (a := 3) h2 h1)]
    rcases n3 v (n := 4) (by omega) with ⟨k, hk, rfl⟩ | h | ⟨k, hk, hk2, rfl⟩
    · rw [if_neg o10.mp, if_neg (nI_pos (by omega)), if_pos (show nI k < (4 : Int32) from nI_lt (b := 4) hk (by omega))]
      unfold f_X8_wayOf_b25
      rcases (show k = 0 ∨ k = 1 ∨ k = 2 ∨ k = 3 by omega) with rfl | rfl | rfl | rfl
      · exact ⟨S 5 j, μ, ν, ⟨0, by show some (f_X6_ofWay 1 (nI j) 0 μ, μ) = _; rw [cW0 s1 j8]⟩, ⟨0, by show z_chk (nI j) 12 (some (ν.1 5 (z_ix (nI j)), ν)) = _; rw [z_chkN j8 (by decide), z_ixN (by omega), a0]⟩, R⟩
      · exact ⟨S 6 j, μ, ν, ⟨0, by show some (f_X6_ofWay 1 (nI j) 1 μ, μ) = _; rw [cW1 s1 j8]⟩, ⟨0, by show z_chk (nI j) 12 (some (ν.1 6 (z_ix (nI j)), ν)) = _; rw [z_chkN j8 (by decide), z_ixN (by omega), a1]⟩, R⟩
      · exact ⟨S 7 j, μ, ν, ⟨0, by show some (f_X6_ofWay 1 (nI j) 2 μ, μ) = _; rw [cW2 s1 j8]⟩, ⟨0, by show z_chk (nI j) 12 (some (ν.1 7 (z_ix (nI j)), ν)) = _; rw [z_chkN j8 (by decide), z_ixN (by omega), a2]⟩, R⟩
      · exact ⟨S 8 j, μ, ν, ⟨0, by show some (f_X6_ofWay 1 (nI j) 3 μ, μ) = _; rw [cW3 s1 j8]⟩, ⟨0, by show z_chk (nI j) 12 (some (ν.1 8 (z_ix (nI j)), ν)) = _; rw [z_chkN j8 (by decide), z_ixN (by omega), a3]⟩, R⟩
    · rw [if_neg o10.mp, if_pos h, show f_X9_isIn v 0 3 ν = 0 from by unfold f_X9_isIn; rw [if_pos h]]
      exact ⟨_, _, _, ⟨0, rfl⟩, ⟨0, rfl⟩, R.refuse 5⟩
    · rw [if_neg o10.mp, if_neg (nI_pos hk2), if_neg (show ¬ nI k < (4 : Int32) from nI_nlt (b := 4) hk hk2), b k hk2 (by omega)]
      exact ⟨_, _, _, ⟨0, rfl⟩, ⟨0, rfl⟩, R.refuse 5⟩
