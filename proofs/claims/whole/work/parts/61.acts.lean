/-! acts, status, image, restore -/
def PQ (μ0 ν0 : z_M) (k a : Int32) (h r : Nat) (μ ν : z_M) : Prop := (μ.1 28 1 = nI r ∧ ν.1 0 51 = nI r ∧ (∀ i, i < 20 → μ.1 30 i = ν.1 26 i) ∧ μ.1 28 2 = k ∧ μ.1 28 3 = nI h ∧ μ.1 28 4 = a ∧ ν.1 2 h = k ∧ ν.1 4 h = a) ∧ ((∀ c, c ≠ 28 → c ≠ 30 → μ.1 c = μ0.1 c) ∧ μ.2 = μ0.2) ∧ (∀ c j, ¬ (c = 0 ∧ j = 51) → c ≠ 26 → ν.1 c j = ν0.1 c j) ∧ ν.2 = ν0.2
theorem PQ.note {μ0 ν0 : z_M} {k a : Int32} {h r : Nat} {μ ν : z_M} (p : PQ μ0 ν0 k a h r μ ν) (hr : r < 20) (b : Int32) : ∃ ν', f_X9_note b ν = some ((), ν') ∧ PQ μ0 ν0 k a h (r + 1) (f_X0_begin b μ) ν' := by
  obtain ⟨⟨p1, p2, p3, p4, p5, p6, p7, p8⟩, ⟨f1, f2⟩, f3, f4⟩ := p
  unfold f_X9_note f_X9_note_b19
  rw [p2, if_pos (show nI r < (20 : Int32) from nI_lt (b := 20) hr (by omega)), z_chkN hr (by decide), z_ixN (by omega), z_letE, z_letE]
  have e1 : (z_sI ν 26 r b).1 0 51 = nI r := p2
  rw [e1, i_succ]
  have eb : f_X0_begin b μ = z_sI (z_sI μ 30 r b) 28 1 (nI (r + 1)) := by
    unfold f_X0_begin
    rw [p1, g_putN hr (by decide), z_letE, z_letE]
    have e2 : (z_sI μ 30 r b).1 28 1 = nI r := p1
    rw [e2, i_succ]
  rw [eb]
  refine ⟨_, rfl, ⟨rfl, rfl, fun i hi => ?_, p4, p5, p6, ?_, ?_⟩, ⟨fun c c1 c2 => ?_, f2⟩, fun c j c1 c2 => ?_, f4⟩
  · show (z_sI μ 30 r b).1 30 i = (z_sI ν 26 r b).1 26 i
    rw [sI1, sI1]
    by_cases e : i = r
    · rw [if_pos ⟨rfl, e⟩, if_pos ⟨rfl, e⟩]
    · rw [if_neg (fun z => e z.2), if_neg (fun z => e z.2)]; exact p3 i hi
  · exact p7
  · exact p8
  · rw [sI1f c1, sI1f c2]; exact f1 c c1 c2
  · rw [sI1, if_neg c1, sI1, if_neg (fun z => c2 z.1)]; exact f3 c j c1 c2
def Act1 (μ0 ν0 : z_M) (k a : Int32) (h n : Nat) (Fc Fm : Option (Int32 × z_M)) : Prop := ∃ v μ' ν' r', Fc = some (v, μ') ∧ Fm = some (v, ν') ∧ PQ μ0 ν0 k a h r' μ' ν' ∧ r' ≤ n
theorem act_calls {μ0 ν0 : z_M} {k a : Int32} {h r : Nat} {μ ν : z_M} (p : PQ μ0 ν0 k a h r μ ν) (hk : zB k 7) (hh : h < 8) (hr : r ≤ 16) (x : Int32) : Act1 μ0 ν0 k a h (r + 2) (f_X0_calls_1 k x μ) (f_X9_callsOf (nI h) x ν) := by
  have e2 := p.1.2.2.2.2.2.2.1
  unfold f_X0_calls_1 f_X0_calls_0 f_X9_callsOf f_X9_callsOf_b16 f_X9_callsOf_b33
  simp only [z_chkN hh (show 8 < 2 ^ 31 by decide), z_ixN (show h < 2 ^ 31 by omega), e2]
  by_cases k1 : k = 1
  · obtain ⟨ν1, q1, p1⟩ := p.note (by omega) 20
    obtain ⟨ν2, q2, p2⟩ := p1.note (by omega) 10
    have g1 := p1.1.2.2.2.2.2.2.1
    have g2 := p2.1
    have n6 : ¬ k = 6 := by rw [k1]; decide
    simp only [if_pos k1, q1, z_bindS, z_letE, g1, if_neg n6, q2, g2.2.2.2.2.2.2.1, g2.2.2.2.2.2.2.2, show ¬ ((0 : Int32) = 1) by decide, show ¬ ((0 : Int32) = 6) by decide, if_false, g2.2.2.2.2.1, g2.2.2.2.2.2.1]
    exact ⟨_, _, _, _, rfl, rfl, p2, by omega⟩
  · by_cases k6 : k = 6
    · obtain ⟨ν1, q1, p1⟩ := p.note (by omega) 70
      obtain ⟨ν2, q2, p2⟩ := p1.note (by omega) 10
      have g2 := p2.1
      simp only [if_neg k1, if_pos k6, q1, z_bindS, z_letE, q2, g2.2.2.2.2.2.2.1, show ¬ ((0 : Int32) = 1) by decide, show ¬ ((0 : Int32) = 6) by decide, if_false, g2.2.2.2.2.1]
      exact ⟨_, _, _, _, rfl, rfl, p2, by omega⟩
    · obtain ⟨ν2, q2, p2⟩ := p.note (by omega) 10
      have g2 := p2.1
      simp only [if_neg k1, if_neg k6, z_bindS, z_letE, q2, g2.2.2.2.2.2.2.1, g2.2.2.2.2.1]
      exact ⟨_, _, _, _, rfl, rfl, p2, by omega⟩
/-- the plain body of hushes -/
theorem act_ph {μ0 ν0 : z_M} {k a : Int32} {h r : Nat} {μ ν : z_M} (p : PQ μ0 ν0 k a h r μ ν) (hk : zB k 7) (hh : h < 8) (hr : r ≤ 15) (x : Int32) : Act1 μ0 ν0 k a h (r + 3) (z_bind (f_X0_calls_1 ((f_X0_begin 11 μ).1 28 2) x (f_X0_begin 11 μ)) (fun p4 => some ((p4.1 * 2), p4.2))) (f_X9_plainHushes (nI h) x ν) := by
  obtain ⟨ν1, q1, p1⟩ := p.note (by omega) 11
  obtain ⟨v, μ', ν', r', c1, c2, c3, c4⟩ := act_calls p1 hk hh (by omega) x
  unfold f_X9_plainHushes
  rw [p1.1.2.2.2.1, c1, q1, z_bindS, z_bindS, c2, z_bindS]
  exact ⟨_, _, _, _, rfl, rfl, c3, by omega⟩
theorem act_hushes {μ0 ν0 : z_M} {k a : Int32} {h r : Nat} {μ ν : z_M} (p : PQ μ0 ν0 k a h r μ ν) (hk : zB k 7) (hh : h < 8) (hr : r ≤ 13) (x : Int32) : Act1 μ0 ν0 k a h (r + 5) (f_X0_hushes_2 k x μ) (f_X9_hushesOf (nI h) x ν) := by
  have e2 := p.1.2.2.2.2.2.2.1
  unfold f_X0_hushes_2 f_X0_hushes_1 f_X0_hushes_0 f_X9_hushesOf
  simp only [z_chkN hh (show 8 < 2 ^ 31 by decide), z_ixN (show h < 2 ^ 31 by omega), e2, z_letE, show ¬ ((0 : Int32) = 2) by decide, show ¬ ((0 : Int32) = 3) by decide, show ¬ ((0 : Int32) = 4) by decide, show ¬ ((0 : Int32) = 5) by decide, show ¬ ((0 : Int32) = 6) by decide, if_false, if_true]
  by_cases k2 : k = 2
  · obtain ⟨ν1, q1, p1⟩ := p.note (by omega) 30
    obtain ⟨v, μ', ν', r', c1, c2, c3, c4⟩ := act_ph p1 hk hh (by omega) x
    simp only [if_pos k2, q1, z_bindS, c2]
    rw [c1, z_bindS]
    exact ⟨_, _, _, _, rfl, rfl, c3, by omega⟩
  · by_cases k3 : k = 3
    · obtain ⟨ν1, q1, p1⟩ := p.note (by omega) 40
      obtain ⟨ν2, q2, p2⟩ := p1.note (by omega) 30
      obtain ⟨v, μ', ν', r', c1, c2, c3, c4⟩ := act_ph p2 hk hh (by omega) (x + 1)
      simp only [if_neg k2, if_pos k3, q1, q2, z_bindS, c2]
      rw [c1, z_bindS, z_bindS]
      exact ⟨_, _, _, _, rfl, rfl, c3, by omega⟩
    · by_cases k6 : k = 6
      · obtain ⟨ν1, q1, p1⟩ := p.note (by omega) 71
        have g1 := p1.1
        obtain ⟨v, μ', ν', r', c1, c2, c3, c4⟩ := act_ph p1 hk hh (by omega) (x - a)
        have n4 : ¬ k = 4 := by rw [k6]; decide
        have n5 : ¬ k = 5 := by rw [k6]; decide
        simp only [if_neg k2, if_neg k3, if_neg n4, if_neg n5, if_pos k6, q1, z_bindS, g1.2.2.2.2.2.2.2, c2, g1.2.2.2.2.2.1]
        rw [c1, z_bindS]
        exact ⟨_, _, _, _, rfl, rfl, c3, by omega⟩
      · obtain ⟨v, μ', ν', r', c1, c2, c3, c4⟩ := act_ph p hk hh (by omega) x
        simp only [if_neg k2, if_neg k3, if_neg k6, ite_self, c2, z_bindS]
        rw [c1]
        exact ⟨_, _, _, _, rfl, rfl, c3, by omega⟩
/-- the plain body of opens -/
theorem act_po {μ0 ν0 : z_M} {k a : Int32} {h r : Nat} {μ ν : z_M} (p : PQ μ0 ν0 k a h r μ ν) (hk : zB k 7) (hh : h < 8) (hr : r ≤ 10) (x : Int32) : Act1 μ0 ν0 k a h (r + 8) (z_bind (f_X0_hushes_2 ((f_X0_begin 12 μ).1 28 2) x (f_X0_begin 12 μ)) (fun p5 => z_bind (f_X0_calls_1 (p5.2.1 28 2) (x - (p5.2.1 28 4)) p5.2) (fun p6 => some ((p5.1 ^^^ p6.1), p6.2)))) (f_X9_plainOpens (nI h) x ν) := by
  obtain ⟨ν1, q1, p1⟩ := p.note (by omega) 12
  obtain ⟨v, μ', ν', r', c1, c2, c3, c4⟩ := act_hushes p1 hk hh (by omega) x
  obtain ⟨v2, μ2, ν2, r2, d1, d2, d3, d4⟩ := act_calls c3 hk hh (by omega) (x - a)
  unfold f_X9_plainOpens
  rw [p1.1.2.2.2.1, c1, q1, z_bindS, z_bindS, c2, z_bindS]
  simp only [z_chkN hh (show 8 < 2 ^ 31 by decide), z_ixN (show h < 2 ^ 31 by omega), c3.1.2.2.2.1, c3.1.2.2.2.2.2.1, c3.1.2.2.2.2.2.2.2, d1, d2, z_bindS]
  exact ⟨_, _, _, _, rfl, rfl, d3, by omega⟩
theorem act_opens {μ0 ν0 : z_M} {k a : Int32} {h r : Nat} {μ ν : z_M} (p : PQ μ0 ν0 k a h r μ ν) (hk : zB k 7) (hh : h < 8) (hr : r ≤ 8) (x : Int32) : Act1 μ0 ν0 k a h (r + 10) (f_X0_opens_2 k x μ) (f_X9_opensOf (nI h) x ν) := by
  have e2 := p.1.2.2.2.2.2.2.1
  unfold f_X0_opens_2 f_X0_opens_1 f_X0_opens_0 f_X9_opensOf
  simp only [z_chkN hh (show 8 < 2 ^ 31 by decide), z_ixN (show h < 2 ^ 31 by omega), e2, z_letE, show ¬ ((0 : Int32) = 3) by decide, show ¬ ((0 : Int32) = 4) by decide, show ¬ ((0 : Int32) = 5) by decide, show ¬ ((4 : Int32) = 3) by decide, if_false, if_true]
  by_cases k3 : k = 3
  · obtain ⟨ν1, q1, p1⟩ := p.note (by omega) 41
    obtain ⟨v, μ', ν', r', c1, c2, c3, c4⟩ := act_po p1 hk hh (by omega) x
    simp only [if_pos k3, q1, z_bindS, c2]
    rw [c1, z_bindS]
    simp only [c3.1.2.2.2.2.1]
    exact ⟨_, _, _, _, rfl, rfl, c3, by omega⟩
  · by_cases k4 : k = 4
    · obtain ⟨ν1, q1, p1⟩ := p.note (by omega) 50
      obtain ⟨v, μ', ν', r', c1, c2, c3, c4⟩ := act_po p1 hk hh (by omega) x
      simp only [if_neg k3, if_pos k4, q1, z_bindS, c2]
      rw [c1, z_bindS]
      exact ⟨_, _, _, _, rfl, rfl, c3, by omega⟩
    · by_cases k5 : k = 5
      · obtain ⟨ν1, q1, p1⟩ := p.note (by omega) 60
        obtain ⟨ν2, q2, p2⟩ := p1.note (by omega) 50
        obtain ⟨v, μ', ν', r', c1, c2, c3, c4⟩ := act_po p2 hk hh (by omega) x
        simp only [if_neg k3, if_neg k4, if_pos k5, q1, q2, z_bindS, c2]
        rw [c1, z_bindS, z_bindS]
        exact ⟨_, _, _, _, rfl, rfl, c3, by omega⟩
      · obtain ⟨v, μ', ν', r', c1, c2, c3, c4⟩ := act_po p hk hh (by omega) x
        simp only [if_neg k3, if_neg k4, if_neg k5, c2, z_bindS]
        rw [c1]
        exact ⟨_, _, _, _, rfl, rfl, c3, by omega⟩
theorem Rr.acted {N : Nat} {μ ν μ' ν' : z_M} (R : Rr N μ ν) (c : (∀ c, c ≠ 28 → c ≠ 30 → μ'.1 c = μ.1 c) ∧ μ'.2 = μ.2) (m : (∀ c j, ¬ (c = 0 ∧ j = 51) → c ≠ 26 → ν'.1 c j = ν.1 c j) ∧ ν'.2 = ν.2) (hA : RA μ' ν') : Rr N μ' ν' := by
  obtain ⟨⟨S, s1, s2, s3, s4, s5⟩, hI, hH, hF, hL, -, hz⟩ := R
  have e := c.1
  have d := m.1
  obtain ⟨k1, k2, ⟨mm, k3, k4, k5⟩, n1, n2, n3, n4, n5, n6, n7⟩ := s2
  refine ⟨⟨S, s1.same (fun j => by rw [e 3 (by decide) (by decide)]) (fun j => by rw [e 5 (by decide) (by decide)]) (fun j => by rw [e 7 (by decide) (by decide)]) (fun j => by rw [e 1 (by decide) (by decide)]), ⟨fun x hx => ?_, fun x hx => ?_, ⟨mm, k3, ?_, fun i hi => ?_⟩, ?_, ?_, ?_, ?_, ?_, ?_, ?_⟩, s3, ?_, ?_⟩, hI.same (fun j => ⟨by rw [e 8 (by decide) (by decide)], by rw [e 10 (by decide) (by decide)], by rw [e 12 (by decide) (by decide)], by rw [e 14 (by decide) (by decide)]⟩) (by rw [e 0 (by decide) (by decide)]) (fun j hj => d 24 j (by omega) (by decide)) (d 0 42 (by omega) (by decide)), hH.same (fun j => ⟨by rw [e 25 (by decide) (by decide)], by rw [e 27 (by decide) (by decide)]⟩) (by rw [c.2]) (fun j => ⟨d 19 j (by omega) (by decide), d 20 j (by omega) (by decide), d 21 j (by omega) (by decide)⟩) (by rw [m.2]), fun i hi => ?_, ?_, hA, ?_⟩
  · rw [d 2 x (by omega) (by decide), d 3 x (by omega) (by decide), d 4 x (by omega) (by decide), d 10 x (by omega) (by decide), d 11 x (by omega) (by decide)]; exact k1 x hx
  · rw [d 5 x (by omega) (by decide), d 6 x (by omega) (by decide), d 7 x (by omega) (by decide), d 8 x (by omega) (by decide)]; exact k2 x hx
  · rw [d 14 0 (by omega) (by decide)]; exact k4
  · rw [d 13 i (by omega) (by decide)]; exact k5 i hi
  · rw [d 0 8 (by omega) (by decide)]; exact n1
  · rw [d 0 9 (by omega) (by decide)]; exact n2
  · rw [d 0 10 (by omega) (by decide)]; exact n3
  · rw [d 9 0 (by omega) (by decide)]; exact n4
  · rw [d 0 11 (by omega) (by decide)]; exact n5
  · rw [d 0 12 (by omega) (by decide)]; exact n6
  · rw [d 0 13 (by omega) (by decide)]; exact n7
  · rw [d 0 23 (by omega) (by decide)]; exact s4
  · rw [d 0 24 (by omega) (by decide)]; exact s5
  · rw [e 49 (by decide) (by decide), d 1 i (by omega) (by decide)]; exact hF i hi
  · rw [e 0 (by decide) (by decide), d 0 36 (by omega) (by decide)]; exact hL
  · rw [e 41 (by decide) (by decide)]; exact hz
theorem ag_act {N : Nat} {μ ν : z_M} (R : Rr N μ ν) (x c v : Int32) : Ag N (fun _ => f_X8_act x c v μ) (fun _ => f_X9_act x c v ν) := by
  obtain ⟨S, H, W, g, O⟩ := R.1.op
  have O' := O
  obtain ⟨⟨s1, s2, V⟩, ⟨hH, hW, hg1, hg3⟩, ⟨eH, eW, eg⟩, ⟨c3, c4, c5, c6⟩, ⟨m8, m9, m10, mb, m23, m24⟩, hb⟩ := O
  have hRA := R.2.2.2.2.2.1
  have r0 : ∀ μ', (∀ c, c ≠ 28 → c ≠ 30 → μ'.1 c = μ.1 c) → μ'.2 = μ.2 → μ'.1 28 1 = 0 → μ'.1 30 = μ.1 30 → Rr N μ' (z_sI ν 0 51 0) := fun μ' h1 h2 h3 h4 => R.acted ⟨h1, h2⟩ ⟨fun c j h _ => by rw [sI1, if_neg h], rfl⟩ ⟨⟨0, by omega, h3, rfl⟩, fun i hi => by rw [h4]; exact hRA.2 i hi⟩
  unfold f_X8_act f_X9_act
  rw [show f_X0_clearTrace μ = z_sI μ 28 1 0 from rfl]
  simp only [z_letE]
  have c3' : (z_sI μ 28 1 0).1 1 3 = nI H := c3
  have m8' : (z_sI ν 0 51 0).1 0 8 = nI H := m8
  rcases dH c3' m8' hH x with ⟨e1, e2⟩ | ⟨j, hj, rfl, e1, e2⟩
  · simp only [e1, e2, if_true]
    exact ⟨_, _, _, ⟨0, rfl⟩, ⟨0, rfl⟩, r0 _ (fun c h _ => sI1f h) rfl rfl (sI1f (by decide))⟩
  · have j8 : j < 8 := by omega
    have s1' : StC 1 (z_sI μ 28 1 0) S := s1.same (fun _ => rfl) (fun _ => rfl) (fun _ => rfl) (fun _ => rfl)
    rw [e1, e2, cO0 s1' j8, cO2 s1' j8]
    simp only [ifn]
    have pq : PQ μ ν (S 0 j) (S 2 j) j 0 (z_sI (z_sI (z_sI (z_sI μ 28 1 0) 28 2 (S 0 j)) 28 3 (nI j)) 28 4 (S 2 j)) (z_sI ν 0 51 0) := by
      refine ⟨⟨rfl, rfl, fun i hi => hRA.2 i hi, rfl, rfl, rfl, (s2.1 j j8).1, (s2.1 j j8).2.2.1⟩, ⟨fun c h _ => by rw [sI1f h, sI1f h, sI1f h, sI1f h], rfl⟩, fun c j h _ => by rw [sI1, if_neg h], rfl⟩
    have fin : ∀ n Fc Fm, n ≤ 20 → Act1 μ ν (S 0 j) (S 2 j) j n Fc Fm → Ag N (fun _ => z_bind Fc (fun p2 => some (p2.1, p2.2))) (fun _ => z_bind Fm (fun p2 => some (p2.1, p2.2))) := by
      rintro n Fc Fm hn ⟨v, μ', ν', r', q1, q2, q3, q4⟩
      rw [q1, q2]
      exact ⟨v, μ', ν', ⟨0, rfl⟩, ⟨0, rfl⟩, R.acted q3.2.1 q3.2.2 ⟨⟨r', by omega, q3.1.1, q3.1.2.1⟩, q3.1.2.2.1⟩⟩
    have hk := (V.H1 j j8).1
    unfold f_X0_perform
    simp only [z_letE]
    by_cases a0 : c = 0
    · subst a0
      have := fin 2 _ _ (by omega) (act_calls pq hk j8 (by omega) v)
      simp only [if_true]
      obtain ⟨r, μ', ν', ⟨n1, q1⟩, ⟨n2, q2⟩, q3⟩ := this
      refine ⟨r, μ', ν', ⟨0, ?_⟩, ⟨0, ?_⟩, q3⟩
      · dsimp only at q1 ⊢; rw [q1]; rfl
      · exact q2
    · by_cases a1 : c = 1
      · subst a1
        have := fin 5 _ _ (by omega) (act_hushes pq hk j8 (by omega) v)
        obtain ⟨r, μ', ν', ⟨n1, q1⟩, ⟨n2, q2⟩, q3⟩ := this
        refine ⟨r, μ', ν', ⟨0, ?_⟩, ⟨0, ?_⟩, q3⟩
        · dsimp only at q1 ⊢; rw [if_neg (by decide), if_pos rfl, q1]; rfl
        · exact q2
      · by_cases a2 : c = 2
        · subst a2
          have := fin 10 _ _ (by omega) (act_opens pq hk j8 (by omega) v)
          obtain ⟨r, μ', ν', ⟨n1, q1⟩, ⟨n2, q2⟩, q3⟩ := this
          refine ⟨r, μ', ν', ⟨0, ?_⟩, ⟨0, ?_⟩, q3⟩
          · dsimp only at q1 ⊢; rw [if_neg (by decide), if_neg (by decide), if_pos rfl, q1]; rfl
          · exact q2
        · have e0 : f_X9_isIn c 0 2 (z_sI ν 0 51 0) = 0 := by
            rw [show f_X9_isIn c 0 2 (z_sI ν 0 51 0) = f_X9_isIn c (nI 0) (nI 2) (z_sI ν 0 51 0) from rfl]
            rcases dIn (z_sI ν 0 51 0) c 0 2 (by omega) (by omega) with e | ⟨y, h1, h3, rfl, e⟩
            · exact e
            · rcases (show y = 0 ∨ y = 1 ∨ y = 2 by omega) with rfl | rfl | rfl
              · exact absurd rfl a0
              · exact absurd rfl a1
              · exact absurd rfl a2
          rw [e0]
          refine ⟨0, _, _, ⟨0, ?_⟩, ⟨0, rfl⟩, r0 (z_sI (z_sI (z_sI (z_sI μ 28 1 0) 28 2 (S 0 j)) 28 3 (nI j)) 28 4 (S 2 j)) (fun c h _ => by rw [sI1f h, sI1f h, sI1f h, sI1f h]) rfl rfl (by rw [sI1f (by decide), sI1f (by decide), sI1f (by decide), sI1f (by decide)])⟩
          dsimp only
          rw [if_neg a0, if_neg a1, if_neg a2]; rfl
