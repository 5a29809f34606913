/-! answers and visits -/
def s_shy (S : zS) (h : Nat) (sp : Int32) : Int32 := if sp = 0 then S 1 h else S 1 h &&& (S 2 h ^^^ -1)
def s_ans (S : zS) (h : Nat) (sp kn vs : Int32) : Int32 :=
  if S 0 h = 1 then 0 else if S 0 h = 2 then S 1 h ||| kn else if S 0 h = 3 then S 1 h ||| kn ||| sp else if S 0 h = 4 then s_shy S h sp
  else if S 0 h = 5 then ((s_shy S h sp <<< (1 &&& 31)) ||| (s_shy S h sp >>> (7 &&& 31))) &&& 255 else if S 0 h = 6 then (if vs < S 2 h then 0 else S 1 h) else S 1 h
theorem cAns {q h : Nat} {sp kn vs : Int32} {μ : z_M} {S : zS} (s1 : StC q μ S) (hh : h < 8) : f_X6_answerAfter q (nI h) sp kn vs μ = s_ans S h sp (S 3 h ||| kn) (S 4 h + vs) := by
  have e0 : g_get (q + 2) 40 (nI h * 5 + 0) μ = S 0 h := cO0 s1 hh
  have e1 : g_get (q + 2) 40 (nI h * 5 + 1) μ = S 1 h := cO1 s1 hh
  have e2 : g_get (q + 2) 40 (nI h * 5 + 2) μ = S 2 h := cO2 s1 hh
  have e3 : g_get (q + 2) 40 (nI h * 5 + 3) μ = S 3 h := cO3 s1 hh
  have e4 : g_get (q + 2) 40 (nI h * 5 + 4) μ = S 4 h := cO4 s1 hh
  unfold f_X6_answerAfter s_ans s_shy
  simp only [z_letE, f_X6_answerAfter_b62, e0, e1, e2, e3, e4]
  by_cases h0 : sp = 0
  · simp only [if_pos h0]
  · simp only [if_neg h0]
theorem mAns {r h : Nat} {sp : Int32} {ν : z_M} {S : zS} (a0 : ν.1 2 h = S 0 h) (a1 : ν.1 3 h = S 1 h) (a2 : ν.1 4 h = S 2 h) (hr : r < 9) (hh : h < 8) : f_X9_answerOf (nI r) (nI h) sp ν = some (s_ans S h sp (ν.1 10 (8 * r + h)) (ν.1 11 (8 * r + h)), ν) := by
  unfold f_X9_answerOf s_ans s_shy
  simp (disch := omega) only [z_letE, i8_h, z_chkN, z_ixN, f_X9_answerOf_b127, a0, a1, a2]
  repeat' split
  all_goals first | rfl | contradiction
/-- the bird's real visit -/
def sV (S : zS) (g h : Nat) : zS := fun a i => if a = 3 ∧ i = h then S 3 h ||| S 9 (g - 1) else if a = 4 ∧ i = h then S 4 h + 1 else if a = 9 then (if i = 0 then s_ans S h (S 9 (g - 1)) (S 3 h) (S 4 h) else S 9 (i - 1)) else if a = 10 ∧ i = 3 then nI h else if a = 10 ∧ i = 5 then S 10 5 + 1 else S a i
theorem cNext {q g : Nat} {μ : z_M} {S : zS} (s1 : StC q μ S) (hg : S 10 2 = nI g) (h1 : 1 ≤ g) (h3 : g ≤ 3) : f_X6_spokenNext q μ = S 9 (g - 1) := by
  unfold f_X6_spokenNext
  have e : μ.1 q 5 = nI g := (s1.2.2.2 2 (by omega)).trans hg
  rw [e, i_pred (by omega), g_getN (by omega) (by decide)]
  exact s1.2.2.1 _ (by omega)
theorem cAgo {q i : Nat} {μ : z_M} {S : zS} (s1 : StC q μ S) (h3 : i < 3) : f_X6_saidAgo q (nI i) μ = S 9 i := by
  unfold f_X6_saidAgo
  rw [g_getN (by omega) (by decide)]
  exact s1.2.2.1 _ h3
theorem or0 (x : Int32) : x ||| 0 = x := Int32.or_zero
theorem add0 (x : Int32) : x + 0 = x := Int32.add_zero x
theorem sI1f {μ : z_M} {k j : Nat} {v : Int32} {k' : Nat} (h : k' ≠ k) : (z_sI μ k j v).1 k' = μ.1 k' := by
  funext y; rw [sI1, if_neg (fun e => h e.1)]
theorem pB0 (a : Nat) (v : Int32) (μ : z_M) : g_put a 3 0 v μ = z_sI μ a 0 v := rfl
theorem pB1 (a : Nat) (v : Int32) (μ : z_M) : g_put a 3 1 v μ = z_sI μ a 1 v := rfl
theorem pB2 (a : Nat) (v : Int32) (μ : z_M) : g_put a 3 2 v μ = z_sI μ a 2 v := rfl
theorem gB0 (a : Nat) (μ : z_M) : g_get a 3 (1 - 1) μ = μ.1 a 0 := rfl
theorem gB1 (a : Nat) (μ : z_M) : g_get a 3 (2 - 1) μ = μ.1 a 1 := rfl
theorem cVisit {q g h : Nat} {μ : z_M} {S : zS} (s1 : StC q μ S) (hg : S 10 2 = nI g) (h1 : 1 ≤ g) (h3 : g ≤ 3) (hh : h < 8) (n : Nat) : ∃ μ', f_X6_visit q (n + 3) (nI h) μ = some (S 9 (g - 1), μ') ∧ StC q μ' (sV S g h) ∧ (∀ k, k ≠ q → k ≠ q + 2 → k ≠ q + 6 → μ'.1 k = μ.1 k) ∧ μ'.2 = μ.2 := by
  have eA := cAns (sp := S 9 (g - 1)) (kn := 0) (vs := 0) s1 hh
  rw [or0, add0] at eA
  unfold f_X6_visit
  simp only [z_letE, cNext s1 hg h1 h3, eA, cO3 s1 hh, cP3 hh, cP4 hh]
  have t1 := s1.setH (k := 3) (x := h) (v := S 3 h ||| S 9 (g - 1)) (by omega) hh
  have e4 : f_X6_ofHouse q (nI h) 4 (z_sI μ (q + 2) (5 * h + 3) (S 3 h ||| S 9 (g - 1))) = S 4 h := by
    rw [cO4 t1 hh, sUE, if_neg (by omega)]
  rw [e4]
  have t2 := t1.setH (k := 4) (x := h) (v := S 4 h + 1) (by omega) hh
  have f2 : ∀ k, k ≠ q + 2 → (z_sI (z_sI μ (q + 2) (5 * h + 3) (S 3 h ||| S 9 (g - 1))) (q + 2) (5 * h + 4) (S 4 h + 1)).1 k = μ.1 k := fun k hk => by rw [sI1f hk, sI1f hk]
  have f3 : (z_sI (z_sI μ (q + 2) (5 * h + 3) (S 3 h ||| S 9 (g - 1))) (q + 2) (5 * h + 4) (S 4 h + 1)).2 = μ.2 := rfl
  generalize z_sI (z_sI μ (q + 2) (5 * h + 3) (S 3 h ||| S 9 (g - 1))) (q + 2) (5 * h + 4) (S 4 h + 1) = m2 at t2 f2 f3 ⊢
  rw [f_X6_visit_h45, if_pos (by decide), z_letE, f_X6_visit_h45, if_pos (by decide), z_letE, f_X6_visit_h45, if_neg (by decide), z_letE, z_letE, z_letE]
  rw [show (2 : Int32) + -1 = 1 from by decide, gB1, gB0, pB2, pB1, pB0]
  have b1 := t2.2.2.1 0 (by omega)
  have b2 := t2.2.2.1 1 (by omega)
  refine ⟨_, rfl, ?_, fun k h1 h2 h3 => ?_, ?_⟩
  · have t3 := ((((t2.setB (x := 2) (v := m2.1 (q + 6) 1) (by omega)).setB (x := 1) (v := (z_sI m2 (q + 6) 2 (m2.1 (q + 6) 1)).1 (q + 6) 0) (by omega)).setB (x := 0) (v := s_ans S h (S 9 (g - 1)) (S 3 h) (S 4 h)) (by omega)).setN (x := 3) (v := nI h) (by omega))
    have t4 := t3.setN (x := 5) (v := S 10 5 + 1) (by omega)
    have e8 : (z_sI (z_sI (z_sI (z_sI m2 (q + 6) 2 (m2.1 (q + 6) 1)) (q + 6) 1 ((z_sI m2 (q + 6) 2 (m2.1 (q + 6) 1)).1 (q + 6) 0)) (q + 6) 0 (s_ans S h (S 9 (g - 1)) (S 3 h) (S 4 h))) q 6 (nI h)).1 q 8 = S 10 5 := by
      rw [t3.2.2.2 5 (by omega)]
      simp [sUE]
    rw [e8]
    refine t4.eqv (fun a i ha => ?_)
    rw [sI1, if_neg (by omega), b1, b2]
    unfold sD at ha
    by_cases a9 : a = 9
    · subst a9
      rcases (show i = 0 ∨ i = 1 ∨ i = 2 by omega) with rfl | rfl | rfl <;> simp [sUE, sV]
    · by_cases a10 : a = 10
      · subst a10
        rcases (show i = 0 ∨ i = 1 ∨ i = 2 ∨ i = 3 ∨ i = 4 ∨ i = 5 ∨ i = 6 by omega) with rfl | rfl | rfl | rfl | rfl | rfl | rfl <;> simp [sUE, sV]
      · simp only [sUE, sV, a9, a10, false_and, if_false]
        by_cases a3 : a = 3 ∧ i = h
        · rw [if_neg (by omega), if_pos a3, if_pos a3]
        · rw [if_neg a3, if_neg a3]
  · rw [sI1f h1, sI1f h1, sI1f h3, sI1f h3, sI1f h3, f2 k h2]
  · exact f3
/-- the thought of a row: known, heard, visits by houses, what is behind, and where, minutes, what was spoken -/
abbrev zT : Type := Nat → Nat → Int32
def RowM (ν : z_M) (r : Nat) (t : zT) : Prop := (∀ h, h < 8 → ν.1 10 (8 * r + h) = t 0 h ∧ ν.1 12 (8 * r + h) = t 1 h ∧ ν.1 11 (8 * r + h) = t 2 h) ∧ (∃ m, m ≤ 3 ∧ ν.1 14 r = nI m ∧ ∀ i, i < 3 → t 3 i = if i < m then ν.1 13 (3 * r + i) else 0) ∧ ν.1 9 r = t 4 0 ∧ ν.1 15 r = t 4 1 ∧ ν.1 16 r = t 4 2
def tV (S : zS) (g h : Nat) (t : zT) : zT := fun a i => if a = 0 then (if i = h then t 0 h ||| t 3 (g - 1) else t 0 i) else if a = 1 then (if i = h then t 1 h ||| t 3 (g - 1) else t 1 i) else if a = 2 then (if i = h then t 2 h + 1 else t 2 i) else if a = 3 then (if i = 0 then s_ans S h (t 3 (g - 1)) (t 0 h) (t 2 h) else t 3 (i - 1)) else if i = 0 then nI h else if i = 2 then t 3 (g - 1) else t 4 i
theorem mNext {r g : Nat} {ν : z_M} {t : zT} (T : RowM ν r t) (hr : r < 9) (hg : ν.1 0 23 = nI g) (h1 : 1 ≤ g) (h3 : g ≤ 3) : f_X9_speaksNext (nI r) ν = some (t 3 (g - 1), ν) := by
  obtain ⟨-, ⟨m, hm, em, eb⟩, -⟩ := T
  unfold f_X9_speaksNext
  rw [z_chkN (by omega) (by decide), z_ixN (by omega), em, hg, i3_h, i_pred (by omega), z_chkN (by omega) (by decide), z_ixN (by omega), eb (g - 1) (by omega)]
  by_cases h : m < g
  · rw [if_pos (nI_lt h (by omega)), if_neg (by omega)]
  · rw [if_neg (nI_nlt (by omega) (by omega)), if_pos (by omega), show 3 * r + g - 1 = 3 * r + (g - 1) by omega]
theorem mVisit {r g h : Nat} {ν : z_M} {S : zS} {t : zT} (a0 : ν.1 2 h = S 0 h) (a1 : ν.1 3 h = S 1 h) (a2 : ν.1 4 h = S 2 h) (T : RowM ν r t) (hr : r < 9) (hg : ν.1 0 23 = nI g) (h1 : 1 ≤ g) (h3 : g ≤ 3) (hh : h < 8) : ∃ ν', f_X9_visits (nI r) (nI h) ν = some ((), ν') ∧ RowM ν' r (tV S g h t) ∧ (∀ k j, (k ≠ 10 ∧ k ≠ 11 ∧ k ≠ 12 ∨ j < 8 * r ∨ 8 * r + 8 ≤ j) → (k ≠ 13 ∨ j < 3 * r ∨ 3 * r + 3 ≤ j) → (k ≠ 9 ∧ k ≠ 14 ∧ k ≠ 16 ∨ j ≠ r) → ν'.1 k j = ν.1 k j) ∧ ν'.2 = ν.2 := by
  have eN := mNext T hr hg h1 h3
  have eA := mAns (r := r) (sp := t 3 (g - 1)) a0 a1 a2 hr hh
  obtain ⟨k1, k2, k3⟩ := T.1 h hh
  rw [k1, k3] at eA
  obtain ⟨m, hm, em, eb⟩ := T.2.1
  unfold f_X9_visits
  rw [eN, z_bindS, eA, z_bindS]
  simp (disch := omega) only [i8_h, i3_0, i3_1, i3_2, i_succ, i_add2, z_chkN, z_ixN, f_X9_visits_b130]
  refine z_letX fun m3 e3 => z_letX fun m4 e4 => z_letX fun m5 e5 => z_letX fun m6 e6 => z_letX fun m7 e7 => z_letX fun m8 e8 => ?_
  have r4 : m3.1 12 (8 * r + h) = t 1 h := by rw [e3, sI1f (by decide)]; exact k2
  have r5 : m4.1 11 (8 * r + h) = t 2 h := by rw [e4, sI1f (by decide), e3, sI1f (by decide)]; exact k3
  have r8 : m8.1 14 r = nI m := by rw [e8, sI1f (by decide), e7, sI1f (by decide), e6, sI1f (by decide), e5, sI1f (by decide), e4, sI1f (by decide), e3, sI1f (by decide)]; exact em
  rw [k1] at e3
  rw [r4] at e4
  rw [r5] at e5
  have r6 : m5.1 13 = ν.1 13 := by rw [e5, sI1f (by decide), e4, sI1f (by decide), e3, sI1f (by decide)]
  have r7 : m6.1 13 (3 * r) = ν.1 13 (3 * r) := by rw [e6, sI1, if_neg (by omega), r6]
  rw [r6] at e6
  rw [r7] at e7
  have b13 : ∀ i, i < 3 → m8.1 13 (3 * r + i) = if i = 0 then s_ans S h (t 3 (g - 1)) (t 0 h) (t 2 h) else ν.1 13 (3 * r + (i - 1)) := by
    intro i hi
    rw [e8, sI1]
    rcases (show i = 0 ∨ i = 1 ∨ i = 2 by omega) with rfl | rfl | rfl
    · rw [if_pos ⟨rfl, rfl⟩]; rfl
    · rw [if_neg (by omega), if_neg (by omega), e7, sI1, if_pos ⟨rfl, rfl⟩]; rfl
    · rw [if_neg (by omega), if_neg (by omega), e7, sI1, if_neg (by omega), e6, sI1, if_pos ⟨rfl, rfl⟩]
  have fin : ∀ d, nI m + d = nI (if m < 3 then m + 1 else m) → ∃ ν', (z_let (z_sI m8 14 r (nI m + d)) fun m9 => z_let (z_sI m9 9 r (nI h)) fun m10 => z_let (z_sI m10 16 r (t 3 (g - 1))) fun m11 => some ((), m11)) = some ((), ν') ∧ RowM ν' r (tV S g h t) ∧ (∀ k j, (k ≠ 10 ∧ k ≠ 11 ∧ k ≠ 12 ∨ j < 8 * r ∨ 8 * r + 8 ≤ j) → (k ≠ 13 ∨ j < 3 * r ∨ 3 * r + 3 ≤ j) → (k ≠ 9 ∧ k ≠ 14 ∧ k ≠ 16 ∨ j ≠ r) → ν'.1 k j = ν.1 k j) ∧ ν'.2 = ν.2 := by
    intro d hd
    refine z_letX fun m9 e9 => z_letX fun m10 e10 => z_letX fun m11 e11 => ⟨m11, rfl, ⟨fun x hx => ?_, ⟨if m < 3 then m + 1 else m, by split <;> omega, ?_, fun i hi => ?_⟩, ?_, ?_, ?_⟩, fun k j c1 c2 c3 => ?_, ?_⟩
    · obtain ⟨q1, q2, q3⟩ := T.1 x hx
      have g1 : m11.1 10 = m3.1 10 := by rw [e11, sI1f (by decide), e10, sI1f (by decide), e9, sI1f (by decide), e8, sI1f (by decide), e7, sI1f (by decide), e6, sI1f (by decide), e5, sI1f (by decide), e4, sI1f (by decide)]
      have g2 : m11.1 12 = m4.1 12 := by rw [e11, sI1f (by decide), e10, sI1f (by decide), e9, sI1f (by decide), e8, sI1f (by decide), e7, sI1f (by decide), e6, sI1f (by decide), e5, sI1f (by decide)]
      have g3 : m11.1 11 = m5.1 11 := by rw [e11, sI1f (by decide), e10, sI1f (by decide), e9, sI1f (by decide), e8, sI1f (by decide), e7, sI1f (by decide), e6, sI1f (by decide)]
      rw [g1, g2, g3, e3, e4, e5, sI1, sI1, sI1, e3, sI1f (by decide), e4, sI1f (by decide), e3, sI1f (by decide)]
      simp only [tV]
      by_cases ex : x = h
      · subst ex; simp
      · have nx : ¬ (8 * r + x = 8 * r + h) := by omega
        simp [ex, nx, q1, q2, q3]
    · rw [e11, sI1f (by decide), e10, sI1f (by decide), e9, sI1, if_pos ⟨rfl, rfl⟩]; exact hd
    · have g1 : m11.1 13 = m8.1 13 := by rw [e11, sI1f (by decide), e10, sI1f (by decide), e9, sI1f (by decide)]
      rw [g1, b13 i hi]
      rcases (show i = 0 ∨ i = 1 ∨ i = 2 by omega) with rfl | rfl | rfl
      · rw [if_pos (show 0 < (if m < 3 then m + 1 else m) by split <;> omega), if_pos rfl]; rfl
      · rw [if_neg (show ¬ (1 = 0) by omega)]
        show t 3 0 = _
        rw [eb 0 (by omega)]
        by_cases z : 0 < m
        · rw [if_pos z, if_pos (show 1 < (if m < 3 then m + 1 else m) by split <;> omega)]
        · rw [if_neg z, if_neg (show ¬ 1 < (if m < 3 then m + 1 else m) by split <;> omega)]
      · rw [if_neg (show ¬ (2 = 0) by omega)]
        show t 3 1 = _
        rw [eb 1 (by omega)]
        by_cases z : 1 < m
        · rw [if_pos z, if_pos (show 2 < (if m < 3 then m + 1 else m) by split <;> omega)]
        · rw [if_neg z, if_neg (show ¬ 2 < (if m < 3 then m + 1 else m) by split <;> omega)]
    · rw [e11, sI1f (by decide), e10, sI1, if_pos ⟨rfl, rfl⟩]; rfl
    · rw [e11, sI1f (by decide), e10, sI1f (by decide), e9, sI1f (by decide), e8, sI1f (by decide), e7, sI1f (by decide), e6, sI1f (by decide), e5, sI1f (by decide), e4, sI1f (by decide), e3, sI1f (by decide)]; exact T.2.2.2.1
    · rw [e11, sI1, if_pos ⟨rfl, rfl⟩]; rfl
    · rw [e11, sI1, if_neg (by omega), e10, sI1, if_neg (by omega), e9, sI1, if_neg (by omega), e8, sI1, if_neg (by omega), e7, sI1, if_neg (by omega), e6, sI1, if_neg (by omega), e5, sI1, if_neg (by omega), e4, sI1, if_neg (by omega), e3, sI1, if_neg (by omega)]
    · rw [e11, sI2, e10, sI2, e9, sI2, e8, sI2, e7, sI2, e6, sI2, e5, sI2, e4, sI2, e3, sI2]
  by_cases hm3 : m < 3
  · rw [r8, if_pos (show nI m < 3 from nI_lt hm3 (by decide))]
    exact fin 1 (by rw [i_succ, if_pos hm3])
  · rw [r8, if_neg (show ¬ nI m < 3 from nI_nlt (b := 3) (by omega) (by omega))]
    exact fin 0 (by rw [add0, if_neg hm3])
