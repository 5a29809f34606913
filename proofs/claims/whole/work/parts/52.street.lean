/-! reading and writing a street -/
theorem cO0 {q h : Nat} {μ : z_M} {S : zS} (s1 : StC q μ S) (hh : h < 8) : f_X6_ofHouse q (nI h) 0 μ = S 0 h := by
  unfold f_X6_ofHouse
  rw [i5_0, g_getN (by omega) (by decide)]
  exact s1.1 0 h (by omega) hh
theorem cP0 {q h : Nat} {v : Int32} {μ : z_M} (hh : h < 8) : f_X6_keepOfHouse q (nI h) 0 v μ = z_sI μ (q + 2) (5 * h + 0) v := by
  unfold f_X6_keepOfHouse
  rw [i5_0, g_putN (by omega) (by decide)]
  rfl
theorem cO1 {q h : Nat} {μ : z_M} {S : zS} (s1 : StC q μ S) (hh : h < 8) : f_X6_ofHouse q (nI h) 1 μ = S 1 h := by
  unfold f_X6_ofHouse
  rw [i5_1, g_getN (by omega) (by decide)]
  exact s1.1 1 h (by omega) hh
theorem cP1 {q h : Nat} {v : Int32} {μ : z_M} (hh : h < 8) : f_X6_keepOfHouse q (nI h) 1 v μ = z_sI μ (q + 2) (5 * h + 1) v := by
  unfold f_X6_keepOfHouse
  rw [i5_1, g_putN (by omega) (by decide)]
  rfl
theorem cO2 {q h : Nat} {μ : z_M} {S : zS} (s1 : StC q μ S) (hh : h < 8) : f_X6_ofHouse q (nI h) 2 μ = S 2 h := by
  unfold f_X6_ofHouse
  rw [i5_2, g_getN (by omega) (by decide)]
  exact s1.1 2 h (by omega) hh
theorem cP2 {q h : Nat} {v : Int32} {μ : z_M} (hh : h < 8) : f_X6_keepOfHouse q (nI h) 2 v μ = z_sI μ (q + 2) (5 * h + 2) v := by
  unfold f_X6_keepOfHouse
  rw [i5_2, g_putN (by omega) (by decide)]
  rfl
theorem cO3 {q h : Nat} {μ : z_M} {S : zS} (s1 : StC q μ S) (hh : h < 8) : f_X6_ofHouse q (nI h) 3 μ = S 3 h := by
  unfold f_X6_ofHouse
  rw [i5_3, g_getN (by omega) (by decide)]
  exact s1.1 3 h (by omega) hh
theorem cP3 {q h : Nat} {v : Int32} {μ : z_M} (hh : h < 8) : f_X6_keepOfHouse q (nI h) 3 v μ = z_sI μ (q + 2) (5 * h + 3) v := by
  unfold f_X6_keepOfHouse
  rw [i5_3, g_putN (by omega) (by decide)]
  rfl
theorem cO4 {q h : Nat} {μ : z_M} {S : zS} (s1 : StC q μ S) (hh : h < 8) : f_X6_ofHouse q (nI h) 4 μ = S 4 h := by
  unfold f_X6_ofHouse
  rw [i5_4, g_getN (by omega) (by decide)]
  exact s1.1 4 h (by omega) hh
theorem cP4 {q h : Nat} {v : Int32} {μ : z_M} (hh : h < 8) : f_X6_keepOfHouse q (nI h) 4 v μ = z_sI μ (q + 2) (5 * h + 4) v := by
  unfold f_X6_keepOfHouse
  rw [i5_4, g_putN (by omega) (by decide)]
  rfl
theorem cW0 {q h : Nat} {μ : z_M} {S : zS} (s1 : StC q μ S) (hh : h < 12) : f_X6_ofWay q (nI h) 0 μ = S 5 h := by
  unfold f_X6_ofWay
  rw [i4_0, g_getN (by omega) (by decide)]
  exact s1.2.1 0 h (by omega) hh
theorem cV0 {q h : Nat} {v : Int32} {μ : z_M} (hh : h < 12) : f_X6_keepOfWay q (nI h) 0 v μ = z_sI μ (q + 4) (4 * h + 0) v := by
  unfold f_X6_keepOfWay
  rw [i4_0, g_putN (by omega) (by decide)]
  rfl
theorem cW1 {q h : Nat} {μ : z_M} {S : zS} (s1 : StC q μ S) (hh : h < 12) : f_X6_ofWay q (nI h) 1 μ = S 6 h := by
  unfold f_X6_ofWay
  rw [i4_1, g_getN (by omega) (by decide)]
  exact s1.2.1 1 h (by omega) hh
theorem cV1 {q h : Nat} {v : Int32} {μ : z_M} (hh : h < 12) : f_X6_keepOfWay q (nI h) 1 v μ = z_sI μ (q + 4) (4 * h + 1) v := by
  unfold f_X6_keepOfWay
  rw [i4_1, g_putN (by omega) (by decide)]
  rfl
theorem cW2 {q h : Nat} {μ : z_M} {S : zS} (s1 : StC q μ S) (hh : h < 12) : f_X6_ofWay q (nI h) 2 μ = S 7 h := by
  unfold f_X6_ofWay
  rw [i4_2, g_getN (by omega) (by decide)]
  exact s1.2.1 2 h (by omega) hh
theorem cV2 {q h : Nat} {v : Int32} {μ : z_M} (hh : h < 12) : f_X6_keepOfWay q (nI h) 2 v μ = z_sI μ (q + 4) (4 * h + 2) v := by
  unfold f_X6_keepOfWay
  rw [i4_2, g_putN (by omega) (by decide)]
  rfl
theorem cW3 {q h : Nat} {μ : z_M} {S : zS} (s1 : StC q μ S) (hh : h < 12) : f_X6_ofWay q (nI h) 3 μ = S 8 h := by
  unfold f_X6_ofWay
  rw [i4_3, g_getN (by omega) (by decide)]
  exact s1.2.1 3 h (by omega) hh
theorem cV3 {q h : Nat} {v : Int32} {μ : z_M} (hh : h < 12) : f_X6_keepOfWay q (nI h) 3 v μ = z_sI μ (q + 4) (4 * h + 3) v := by
  unfold f_X6_keepOfWay
  rw [i4_3, g_putN (by omega) (by decide)]
  rfl
theorem StC.setH {q k x : Nat} {v : Int32} {μ : z_M} {S : zS} (s : StC q μ S) (hk : k < 5) (hx : x < 8) : StC q (z_sI μ (q + 2) (5 * x + k) v) (sU S k x v) := by
  refine ⟨fun k' x' a b => ?_, fun k' x' a b => ?_, fun i a => ?_, fun i a => ?_⟩
  · rw [sI1, sUE]
    by_cases e : k' = k ∧ x' = x
    · rw [if_pos e, if_pos ⟨rfl, by omega⟩]
    · rw [if_neg e, if_neg (by omega)]; exact s.1 k' x' a b
  · rw [sI1, sUE, if_neg (by omega), if_neg (by omega)]; exact s.2.1 k' x' a b
  · rw [sI1, sUE, if_neg (by omega), if_neg (by omega)]; exact s.2.2.1 i a
  · rw [sI1, sUE, if_neg (by omega), if_neg (by omega)]; exact s.2.2.2 i a
theorem StC.setW {q k x : Nat} {v : Int32} {μ : z_M} {S : zS} (s : StC q μ S) (hk : k < 4) (hx : x < 12) : StC q (z_sI μ (q + 4) (4 * x + k) v) (sU S (5 + k) x v) := by
  refine ⟨fun k' x' a b => ?_, fun k' x' a b => ?_, fun i a => ?_, fun i a => ?_⟩
  · rw [sI1, sUE, if_neg (by omega), if_neg (by omega)]; exact s.1 k' x' a b
  · rw [sI1, sUE]
    by_cases e : k' = k ∧ x' = x
    · rw [if_pos ⟨rfl, by omega⟩, if_pos (by omega)]
    · rw [if_neg (by omega), if_neg (by omega)]; exact s.2.1 k' x' a b
  · rw [sI1, sUE, if_neg (by omega), if_neg (by omega)]; exact s.2.2.1 i a
  · rw [sI1, sUE, if_neg (by omega), if_neg (by omega)]; exact s.2.2.2 i a
theorem StC.setB {q x : Nat} {v : Int32} {μ : z_M} {S : zS} (s : StC q μ S) (hx : x < 3) : StC q (z_sI μ (q + 6) x v) (sU S 9 x v) := by
  refine ⟨fun k' x' a b => ?_, fun k' x' a b => ?_, fun i a => ?_, fun i a => ?_⟩
  · rw [sI1, sUE, if_neg (by omega), if_neg (by omega)]; exact s.1 k' x' a b
  · rw [sI1, sUE, if_neg (by omega), if_neg (by omega)]; exact s.2.1 k' x' a b
  · rw [sI1, sUE]
    by_cases e : i = x
    · rw [if_pos ⟨rfl, e⟩, if_pos ⟨rfl, e⟩]
    · rw [if_neg (by omega), if_neg (by omega)]; exact s.2.2.1 i a
  · rw [sI1, sUE, if_neg (by omega), if_neg (by omega)]; exact s.2.2.2 i a
theorem StC.setN {q x : Nat} {v : Int32} {μ : z_M} {S : zS} (s : StC q μ S) (hx : x < 7) : StC q (z_sI μ q (3 + x) v) (sU S 10 x v) := by
  refine ⟨fun k' x' a b => ?_, fun k' x' a b => ?_, fun i a => ?_, fun i a => ?_⟩
  · rw [sI1, sUE, if_neg (by omega), if_neg (by omega)]; exact s.1 k' x' a b
  · rw [sI1, sUE, if_neg (by omega), if_neg (by omega)]; exact s.2.1 k' x' a b
  · rw [sI1, sUE, if_neg (by omega), if_neg (by omega)]; exact s.2.2.1 i a
  · rw [sI1, sUE]
    by_cases e : i = x
    · rw [if_pos ⟨rfl, by omega⟩, if_pos ⟨rfl, e⟩]
    · rw [if_neg (by omega), if_neg (by omega)]; exact s.2.2.2 i a
/-- what is behind the bird is forgotten -/
def sB0 (S : zS) : zS := fun a i => if a = 9 then 0 else S a i
theorem StC.clr {q : Nat} {μ : z_M} {S : zS} (s : StC q μ S) : StC q (g_clr (q + 6) 3 μ) (sB0 S) := by
  refine ⟨fun k' x' a b => ?_, fun k' x' a b => ?_, fun i a => ?_, fun i a => ?_⟩
  · show (if q + 2 = q + 6 ∧ _ then _ else _) = if k' = 9 then _ else _
    rw [if_neg (by omega), if_neg (by omega)]; exact s.1 k' x' a b
  · show (if q + 4 = q + 6 ∧ _ then _ else _) = if 5 + k' = 9 then _ else _
    rw [if_neg (by omega), if_neg (by omega)]; exact s.2.1 k' x' a b
  · show (if q + 6 = q + 6 ∧ i < 3 then _ else _) = if 9 = 9 then _ else _
    rw [if_pos ⟨rfl, a⟩, if_pos rfl]
  · show (if q = q + 6 ∧ _ then _ else _) = if 10 = 9 then _ else _
    rw [if_neg (by omega), if_neg (by omega)]; exact s.2.2.2 i a
theorem StM.clr {ν : z_M} {S : zS} (s : StM ν S) : StM (z_sI ν 14 0 0) (sB0 S) := by
  obtain ⟨h1, h2, -, h6⟩ := s
  exact ⟨h1, h2, ⟨0, by omega, rfl, fun i hi => rfl⟩, h6⟩
theorem StM.set0 {x : Nat} {v : Int32} {ν : z_M} {S : zS} (s : StM ν S) (hx : x < 8) : StM (z_sI ν 2 x v) (sU S 0 x v) := by
  obtain ⟨h1, h2, ⟨m, h3, h4, h5⟩, h6⟩ := s
  refine ⟨fun y hy => ?_, fun y hy => ?_, ⟨m, h3, ?_, fun i hi => ?_⟩, ?_⟩
  · have z := h1 y hy
    by_cases e : y = x
    · subst e; simp [sI1, sUE, z]
    · simp only [sI1, sUE, e, and_false, if_false, z, and_self]
  · exact h2 y hy
  · exact h4
  · exact h5 i hi
  · exact h6
theorem StM.set1 {x : Nat} {v : Int32} {ν : z_M} {S : zS} (s : StM ν S) (hx : x < 8) : StM (z_sI ν 3 x v) (sU S 1 x v) := by
  obtain ⟨h1, h2, ⟨m, h3, h4, h5⟩, h6⟩ := s
  refine ⟨fun y hy => ?_, fun y hy => ?_, ⟨m, h3, ?_, fun i hi => ?_⟩, ?_⟩
  · have z := h1 y hy
    by_cases e : y = x
    · subst e; simp [sI1, sUE, z]
    · simp only [sI1, sUE, e, and_false, if_false, z, and_self]
  · exact h2 y hy
  · exact h4
  · exact h5 i hi
  · exact h6
theorem StM.set2 {x : Nat} {v : Int32} {ν : z_M} {S : zS} (s : StM ν S) (hx : x < 8) : StM (z_sI ν 4 x v) (sU S 2 x v) := by
  obtain ⟨h1, h2, ⟨m, h3, h4, h5⟩, h6⟩ := s
  refine ⟨fun y hy => ?_, fun y hy => ?_, ⟨m, h3, ?_, fun i hi => ?_⟩, ?_⟩
  · have z := h1 y hy
    by_cases e : y = x
    · subst e; simp [sI1, sUE, z]
    · simp only [sI1, sUE, e, and_false, if_false, z, and_self]
  · exact h2 y hy
  · exact h4
  · exact h5 i hi
  · exact h6
theorem StM.set3 {x : Nat} {v : Int32} {ν : z_M} {S : zS} (s : StM ν S) (hx : x < 8) : StM (z_sI ν 10 x v) (sU S 3 x v) := by
  obtain ⟨h1, h2, ⟨m, h3, h4, h5⟩, h6⟩ := s
  refine ⟨fun y hy => ?_, fun y hy => ?_, ⟨m, h3, ?_, fun i hi => ?_⟩, ?_⟩
  · have z := h1 y hy
    by_cases e : y = x
    · subst e; simp [sI1, sUE, z]
    · simp only [sI1, sUE, e, and_false, if_false, z, and_self]
  · exact h2 y hy
  · exact h4
  · exact h5 i hi
  · exact h6
theorem StM.set4 {x : Nat} {v : Int32} {ν : z_M} {S : zS} (s : StM ν S) (hx : x < 8) : StM (z_sI ν 11 x v) (sU S 4 x v) := by
  obtain ⟨h1, h2, ⟨m, h3, h4, h5⟩, h6⟩ := s
  refine ⟨fun y hy => ?_, fun y hy => ?_, ⟨m, h3, ?_, fun i hi => ?_⟩, ?_⟩
  · have z := h1 y hy
    by_cases e : y = x
    · subst e; simp [sI1, sUE, z]
    · simp only [sI1, sUE, e, and_false, if_false, z, and_self]
  · exact h2 y hy
  · exact h4
  · exact h5 i hi
  · exact h6
theorem StM.set5 {x : Nat} {v : Int32} {ν : z_M} {S : zS} (s : StM ν S) (hx : x < 12) : StM (z_sI ν 5 x v) (sU S 5 x v) := by
  obtain ⟨h1, h2, ⟨m, h3, h4, h5⟩, h6⟩ := s
  refine ⟨fun y hy => ?_, fun y hy => ?_, ⟨m, h3, ?_, fun i hi => ?_⟩, ?_⟩
  · exact h1 y hy
  · have z := h2 y hy
    by_cases e : y = x
    · subst e; simp [sI1, sUE, z]
    · simp only [sI1, sUE, e, and_false, if_false, z, and_self]
  · exact h4
  · exact h5 i hi
  · exact h6
theorem StM.set6 {x : Nat} {v : Int32} {ν : z_M} {S : zS} (s : StM ν S) (hx : x < 12) : StM (z_sI ν 6 x v) (sU S 6 x v) := by
  obtain ⟨h1, h2, ⟨m, h3, h4, h5⟩, h6⟩ := s
  refine ⟨fun y hy => ?_, fun y hy => ?_, ⟨m, h3, ?_, fun i hi => ?_⟩, ?_⟩
  · exact h1 y hy
  · have z := h2 y hy
    by_cases e : y = x
    · subst e; simp [sI1, sUE, z]
    · simp only [sI1, sUE, e, and_false, if_false, z, and_self]
  · exact h4
  · exact h5 i hi
  · exact h6
theorem StM.set7 {x : Nat} {v : Int32} {ν : z_M} {S : zS} (s : StM ν S) (hx : x < 12) : StM (z_sI ν 7 x v) (sU S 7 x v) := by
  obtain ⟨h1, h2, ⟨m, h3, h4, h5⟩, h6⟩ := s
  refine ⟨fun y hy => ?_, fun y hy => ?_, ⟨m, h3, ?_, fun i hi => ?_⟩, ?_⟩
  · exact h1 y hy
  · have z := h2 y hy
    by_cases e : y = x
    · subst e; simp [sI1, sUE, z]
    · simp only [sI1, sUE, e, and_false, if_false, z, and_self]
  · exact h4
  · exact h5 i hi
  · exact h6
theorem StM.set8 {x : Nat} {v : Int32} {ν : z_M} {S : zS} (s : StM ν S) (hx : x < 12) : StM (z_sI ν 8 x v) (sU S 8 x v) := by
  obtain ⟨h1, h2, ⟨m, h3, h4, h5⟩, h6⟩ := s
  refine ⟨fun y hy => ?_, fun y hy => ?_, ⟨m, h3, ?_, fun i hi => ?_⟩, ?_⟩
  · exact h1 y hy
  · have z := h2 y hy
    by_cases e : y = x
    · subst e; simp [sI1, sUE, z]
    · simp only [sI1, sUE, e, and_false, if_false, z, and_self]
  · exact h4
  · exact h5 i hi
  · exact h6
theorem StM.setn0 {v : Int32} {ν : z_M} {S : zS} (s : StM ν S) : StM (z_sI ν 0 8 v) (sU S 10 0 v) := by
  obtain ⟨h1, h2, h3, h4⟩ := s
  refine ⟨h1, h2, h3, ?_⟩
  exact ⟨rfl, h4.2.1, h4.2.2.1, h4.2.2.2.1, h4.2.2.2.2.1, h4.2.2.2.2.2.1, h4.2.2.2.2.2.2⟩
theorem StM.setn1 {v : Int32} {ν : z_M} {S : zS} (s : StM ν S) : StM (z_sI ν 0 9 v) (sU S 10 1 v) := by
  obtain ⟨h1, h2, h3, h4⟩ := s
  refine ⟨h1, h2, h3, ?_⟩
  exact ⟨h4.1, rfl, h4.2.2.1, h4.2.2.2.1, h4.2.2.2.2.1, h4.2.2.2.2.2.1, h4.2.2.2.2.2.2⟩
theorem StM.setn2 {v : Int32} {ν : z_M} {S : zS} (s : StM ν S) : StM (z_sI ν 0 10 v) (sU S 10 2 v) := by
  obtain ⟨h1, h2, h3, h4⟩ := s
  refine ⟨h1, h2, h3, ?_⟩
  exact ⟨h4.1, h4.2.1, rfl, h4.2.2.2.1, h4.2.2.2.2.1, h4.2.2.2.2.2.1, h4.2.2.2.2.2.2⟩
theorem StM.setn3 {v : Int32} {ν : z_M} {S : zS} (s : StM ν S) : StM (z_sI ν 9 0 v) (sU S 10 3 v) := by
  obtain ⟨h1, h2, h3, h4⟩ := s
  refine ⟨h1, h2, h3, ?_⟩
  exact ⟨h4.1, h4.2.1, h4.2.2.1, rfl, h4.2.2.2.2.1, h4.2.2.2.2.2.1, h4.2.2.2.2.2.2⟩
theorem StM.setn4 {v : Int32} {ν : z_M} {S : zS} (s : StM ν S) : StM (z_sI ν 0 11 v) (sU S 10 4 v) := by
  obtain ⟨h1, h2, h3, h4⟩ := s
  refine ⟨h1, h2, h3, ?_⟩
  exact ⟨h4.1, h4.2.1, h4.2.2.1, h4.2.2.2.1, rfl, h4.2.2.2.2.2.1, h4.2.2.2.2.2.2⟩
theorem StM.setn5 {v : Int32} {ν : z_M} {S : zS} (s : StM ν S) : StM (z_sI ν 0 12 v) (sU S 10 5 v) := by
  obtain ⟨h1, h2, h3, h4⟩ := s
  refine ⟨h1, h2, h3, ?_⟩
  exact ⟨h4.1, h4.2.1, h4.2.2.1, h4.2.2.2.1, h4.2.2.2.2.1, rfl, h4.2.2.2.2.2.2⟩
theorem StM.setn6 {v : Int32} {ν : z_M} {S : zS} (s : StM ν S) : StM (z_sI ν 0 13 v) (sU S 10 6 v) := by
  obtain ⟨h1, h2, h3, h4⟩ := s
  refine ⟨h1, h2, h3, ?_⟩
  exact ⟨h4.1, h4.2.1, h4.2.2.1, h4.2.2.2.1, h4.2.2.2.2.1, h4.2.2.2.2.2.1, rfl⟩
theorem Vd.eqv {N : Nat} {S S' : zS} (V : Vd N S) (h : ∀ a i, (a ≠ 10 ∨ i < 4) → S' a i = S a i) : Vd N S' := by
  have e1 : sH S' = sH S := by unfold sH; rw [h 10 0 (by omega)]
  have e2 : sW S' = sW S := by unfold sW; rw [h 10 1 (by omega)]
  obtain ⟨h1, h2, h3, h4, h5, h6, h7, h8⟩ := V
  refine ⟨?_, ?_, ?_, ?_, fun x hx => ?_, fun x hx => ?_, fun x hx => ?_, fun x hx => ?_⟩
  · rw [h 10 0 (by omega)]; exact h1
  · rw [h 10 1 (by omega)]; exact h2
  · rw [h 10 2 (by omega)]; exact h3
  · rw [h 10 3 (by omega), e1]; exact h4
  · rw [h 0 x (by omega), h 1 x (by omega), h 2 x (by omega), h 3 x (by omega), h 4 x (by omega)]; exact h5 x hx
  · rw [e2] at hx
    rw [h 5 x (by omega), h 6 x (by omega), h 7 x (by omega), e1]; exact h6 x hx
  · rw [h 8 x (by omega)]; exact h7 x hx
  · rw [h 9 x (by omega)]; exact h8 x hx
theorem Vd.fld6 {N : Nat} {S : zS} {v : Int32} (V : Vd N S) : Vd N (sU S 10 6 v) := V.eqv (fun a i h => by rw [sUE, if_neg (by omega)])
def sD (a i : Nat) : Prop := (a < 5 ∧ i < 8) ∨ (5 ≤ a ∧ a < 9 ∧ i < 12) ∨ (a = 9 ∧ i < 3) ∨ (a = 10 ∧ i < 7)
theorem StC.eqv {q : Nat} {μ : z_M} {S S' : zS} (s : StC q μ S) (h : ∀ a i, sD a i → S a i = S' a i) : StC q μ S' :=
  ⟨fun k x a b => (s.1 k x a b).trans (h _ _ (by unfold sD; omega)), fun k x a b => (s.2.1 k x a b).trans (h _ _ (by unfold sD; omega)), fun i a => (s.2.2.1 i a).trans (h _ _ (by unfold sD; omega)), fun i a => (s.2.2.2 i a).trans (h _ _ (by unfold sD; omega))⟩
/-- the relation's street, opened -/
theorem sH_of {S : zS} {H : Nat} (h : S 10 0 = nI H) (hH : H ≤ 8) : sH S = H := by unfold sH; rw [h]; exact nI_clamp (by omega)
theorem sW_of {S : zS} {H : Nat} (h : S 10 1 = nI H) (hH : H ≤ 12) : sW S = H := by unfold sW; rw [h]; exact nI_clamp (by omega)
def RSo (N : Nat) (μ ν : z_M) (S : zS) (H W g : Nat) : Prop := (StC 1 μ S ∧ StM ν S ∧ Vd N S) ∧ (H ≤ 8 ∧ W ≤ 12 ∧ 1 ≤ g ∧ g ≤ 3) ∧ (S 10 0 = nI H ∧ S 10 1 = nI W ∧ S 10 2 = nI g) ∧ (μ.1 1 3 = nI H ∧ μ.1 1 4 = nI W ∧ μ.1 1 5 = nI g ∧ μ.1 1 6 = S 10 3) ∧ (ν.1 0 8 = nI H ∧ ν.1 0 9 = nI W ∧ ν.1 0 10 = nI g ∧ ν.1 9 0 = S 10 3 ∧ ν.1 0 23 = nI g ∧ ν.1 0 24 = 0) ∧ (S 10 3 = -1 ∨ zB (S 10 3) H)
theorem RS.op {N : Nat} {μ ν : z_M} (h : RS N μ ν) : ∃ S H W g, RSo N μ ν S H W g := by
  obtain ⟨S, s1, s2, s3, s4, s5⟩ := h
  obtain ⟨H, hH, eH⟩ := s3.1
  obtain ⟨W, hW, eW⟩ := s3.2.1
  obtain ⟨g, hg1, hg2, eg⟩ := s3.2.2.1
  have hb := s3.2.2.2.1
  rw [sH_of eH hH] at hb
  have c := s1.2.2.2
  refine ⟨S, H, W, g, ⟨s1, s2, s3⟩, ⟨hH, hW, hg1, hg2⟩, ⟨eH, eW, eg⟩, ⟨?_, ?_, ?_, ?_⟩, ⟨?_, ?_, ?_, ?_, ?_, s5⟩, hb⟩
  · rw [← eH]; exact c 0 (by omega)
  · rw [← eW]; exact c 1 (by omega)
  · rw [← eg]; exact c 2 (by omega)
  · exact c 3 (by omega)
  · rw [← eH]; exact s2.2.2.2.1
  · rw [← eW]; exact s2.2.2.2.2.1
  · rw [← eg]; exact s2.2.2.2.2.2.1
  · exact s2.2.2.2.2.2.2.1
  · rw [← eg]; exact s4
/-- an int: between 0 and a count, or below, or beyond -/
theorem n3 (x : Int32) {n : Nat} (hn : n < 2 ^ 31) : (∃ j, j < n ∧ x = nI j) ∨ x < 0 ∨ (∃ j, n ≤ j ∧ j < 2 ^ 31 ∧ x = nI j) := by
  by_cases h0 : x < 0
  · exact Or.inr (Or.inl h0)
  · obtain ⟨j, hj, rfl⟩ := nI_of h0
    rcases Nat.lt_or_ge j n with h | h
    · exact Or.inl ⟨j, h, rfl⟩
    · exact Or.inr (Or.inr ⟨j, h, hj, rfl⟩)
theorem o01 : ((0 : Int32) = 1) = False := by decide
theorem o10 : ((1 : Int32) = 0) = False := by decide
theorem refC1 (μ : z_M) : f_X8_refuse (-1) μ = (-1, z_sI μ 49 1 (μ.1 49 1 + 1)) := rfl
theorem refA1 (μ : z_M) : f_X8_refuseApart (-1) μ = (-1 - 10, z_sI μ 49 1 (μ.1 49 1 + 1)) := rfl
theorem refM1 (ν : z_M) : f_X9_no (-1) ν = some (-1, z_sI ν 1 1 (ν.1 1 1 + 1)) := rfl
theorem refN1 (ν : z_M) : f_X9_noTen (-1) ν = some (-1 - 10, z_sI ν 1 1 (ν.1 1 1 + 1)) := rfl
theorem ne0_1 : ((-1 : Int32) = 0) = False := by decide
theorem refC2 (μ : z_M) : f_X8_refuse (-2) μ = (-2, z_sI μ 49 2 (μ.1 49 2 + 1)) := rfl
theorem refA2 (μ : z_M) : f_X8_refuseApart (-2) μ = (-2 - 10, z_sI μ 49 2 (μ.1 49 2 + 1)) := rfl
theorem refM2 (ν : z_M) : f_X9_no (-2) ν = some (-2, z_sI ν 1 2 (ν.1 1 2 + 1)) := rfl
theorem refN2 (ν : z_M) : f_X9_noTen (-2) ν = some (-2 - 10, z_sI ν 1 2 (ν.1 1 2 + 1)) := rfl
theorem ne0_2 : ((-2 : Int32) = 0) = False := by decide
theorem refC3 (μ : z_M) : f_X8_refuse (-3) μ = (-3, z_sI μ 49 3 (μ.1 49 3 + 1)) := rfl
theorem refA3 (μ : z_M) : f_X8_refuseApart (-3) μ = (-3 - 10, z_sI μ 49 3 (μ.1 49 3 + 1)) := rfl
theorem refM3 (ν : z_M) : f_X9_no (-3) ν = some (-3, z_sI ν 1 3 (ν.1 1 3 + 1)) := rfl
theorem refN3 (ν : z_M) : f_X9_noTen (-3) ν = some (-3 - 10, z_sI ν 1 3 (ν.1 1 3 + 1)) := rfl
theorem ne0_3 : ((-3 : Int32) = 0) = False := by decide
theorem refC4 (μ : z_M) : f_X8_refuse (-4) μ = (-4, z_sI μ 49 4 (μ.1 49 4 + 1)) := rfl
theorem refA4 (μ : z_M) : f_X8_refuseApart (-4) μ = (-4 - 10, z_sI μ 49 4 (μ.1 49 4 + 1)) := rfl
theorem refM4 (ν : z_M) : f_X9_no (-4) ν = some (-4, z_sI ν 1 4 (ν.1 1 4 + 1)) := rfl
theorem refN4 (ν : z_M) : f_X9_noTen (-4) ν = some (-4 - 10, z_sI ν 1 4 (ν.1 1 4 + 1)) := rfl
theorem ne0_4 : ((-4 : Int32) = 0) = False := by decide
theorem refC5 (μ : z_M) : f_X8_refuse (-5) μ = (-5, z_sI μ 49 5 (μ.1 49 5 + 1)) := rfl
theorem refA5 (μ : z_M) : f_X8_refuseApart (-5) μ = (-5 - 10, z_sI μ 49 5 (μ.1 49 5 + 1)) := rfl
theorem refM5 (ν : z_M) : f_X9_no (-5) ν = some (-5, z_sI ν 1 5 (ν.1 1 5 + 1)) := rfl
theorem refN5 (ν : z_M) : f_X9_noTen (-5) ν = some (-5 - 10, z_sI ν 1 5 (ν.1 1 5 + 1)) := rfl
theorem ne0_5 : ((-5 : Int32) = 0) = False := by decide
theorem refC6 (μ : z_M) : f_X8_refuse (-6) μ = (-6, z_sI μ 49 6 (μ.1 49 6 + 1)) := rfl
theorem refA6 (μ : z_M) : f_X8_refuseApart (-6) μ = (-6 - 10, z_sI μ 49 6 (μ.1 49 6 + 1)) := rfl
theorem refM6 (ν : z_M) : f_X9_no (-6) ν = some (-6, z_sI ν 1 6 (ν.1 1 6 + 1)) := rfl
theorem refN6 (ν : z_M) : f_X9_noTen (-6) ν = some (-6 - 10, z_sI ν 1 6 (ν.1 1 6 + 1)) := rfl
theorem ne0_6 : ((-6 : Int32) = 0) = False := by decide
theorem refC7 (μ : z_M) : f_X8_refuse (-7) μ = (-7, z_sI μ 49 7 (μ.1 49 7 + 1)) := rfl
theorem refA7 (μ : z_M) : f_X8_refuseApart (-7) μ = (-7 - 10, z_sI μ 49 7 (μ.1 49 7 + 1)) := rfl
theorem refM7 (ν : z_M) : f_X9_no (-7) ν = some (-7, z_sI ν 1 7 (ν.1 1 7 + 1)) := rfl
theorem refN7 (ν : z_M) : f_X9_noTen (-7) ν = some (-7 - 10, z_sI ν 1 7 (ν.1 1 7 + 1)) := rfl
theorem ne0_7 : ((-7 : Int32) = 0) = False := by decide
