/-! image, restore, status -/
theorem cpyf {a n a' n' k : Nat} {μ : z_M} (h : k ≠ a) : (g_cpy a n a' n' μ).1 k = μ.1 k := by
  funext j
  show (if k = a ∧ j < n then _ else μ.1 k j) = _
  rw [if_neg (fun e => h e.1)]
theorem cpyh {a n a' j : Nat} {μ : z_M} (h : j < n) (hn : n < 2 ^ 31) : (g_cpy a n a' n μ).1 a j = μ.1 a' j := by
  show (if a = a ∧ j < n then g_get a' n (Int32.ofNat j) μ else _) = _
  rw [if_pos ⟨rfl, h⟩]
  exact g_getN h hn
theorem cBecome {q q2 : Nat} {μ : z_M} {S : zS} (s : StC q2 μ S) (hd : q + 7 ≤ q2 ∨ q2 + 7 ≤ q) : StC q (f_X6_becomeAs q q2 μ) S ∧ (∀ k, k ≠ q → k ≠ q + 2 → k ≠ q + 4 → k ≠ q + 6 → (f_X6_becomeAs q q2 μ).1 k = μ.1 k) ∧ (f_X6_becomeAs q q2 μ).2 = μ.2 := by
  unfold f_X6_becomeAs
  simp only [z_letE]
  obtain ⟨m1, e1⟩ : ∃ m, m = g_cpy (q + 2) 40 (q2 + 2) 40 μ := ⟨_, rfl⟩
  rw [← e1]
  obtain ⟨m2, e2⟩ : ∃ m, m = g_cpy (q + 4) 48 (q2 + 4) 48 m1 := ⟨_, rfl⟩
  rw [← e2]
  obtain ⟨m3, e3⟩ : ∃ m, m = g_cpy (q + 6) 3 (q2 + 6) 3 m2 := ⟨_, rfl⟩
  rw [← e3]
  have b : ∀ k, k ≠ q + 2 → k ≠ q + 4 → k ≠ q + 6 → m3.1 k = μ.1 k := fun k h1 h2 h3 => by rw [e3, cpyf h3, e2, cpyf h2, e1, cpyf h1]
  have r : ∀ j, (z_sI m3 q 3 (m3.1 q2 3)).1 q2 j = μ.1 q2 j := fun j => by rw [sI1f (by omega), b q2 (by omega) (by omega) (by omega)]
  have h2' : q2 ≠ q := by omega
  simp only [sI1f h2', b q2 (by omega) (by omega) (by omega)]
  refine ⟨⟨fun k x hk hx => ?_, fun k x hk hx => ?_, fun i hi => ?_, fun i hi => ?_⟩, fun k h1 h2 h3 h4 => ?_, ?_⟩
  · have hh : q + 2 ≠ q := by omega
    simp only [sI1f hh]
    rw [e3, cpyf (by omega), e2, cpyf (by omega), e1, cpyh (by omega) (by decide)]; exact s.1 k x hk hx
  · have hh : q + 4 ≠ q := by omega
    simp only [sI1f hh]
    rw [e3, cpyf (by omega), e2, cpyh (by omega) (by decide), e1, cpyf (by omega)]; exact s.2.1 k x hk hx
  · have hh : q + 6 ≠ q := by omega
    simp only [sI1f hh]
    rw [e3, cpyh (by omega) (by decide), e2, cpyf (by omega), e1, cpyf (by omega)]; exact s.2.2.1 i hi
  · have t := s.2.2.2 i hi
    rcases (show i = 0 ∨ i = 1 ∨ i = 2 ∨ i = 3 ∨ i = 4 ∨ i = 5 ∨ i = 6 by omega) with rfl | rfl | rfl | rfl | rfl | rfl | rfl <;> simp only [sI1] <;> simp <;> exact t
  · simp only [sI1f h1]; exact b k h2 h3 h4
  · rw [e3, e2, e1]; rfl
theorem StK.of {ν ν' : z_M} {S : zS} {o : Nat} (s2 : StM ν S) (h2 : ∀ i, i < 8 → ν'.1 24 (o + i) = ν.1 2 i) (h3 : ∀ i, i < 8 → ν'.1 24 (o + 8 + i) = ν.1 3 i) (h4 : ∀ i, i < 8 → ν'.1 24 (o + 16 + i) = ν.1 4 i) (h5 : ∀ i, i < 12 → ν'.1 24 (o + 24 + i) = ν.1 5 i) (h6 : ∀ i, i < 12 → ν'.1 24 (o + 36 + i) = ν.1 6 i) (h7 : ∀ i, i < 12 → ν'.1 24 (o + 48 + i) = ν.1 7 i) (h8 : ∀ i, i < 12 → ν'.1 24 (o + 60 + i) = ν.1 8 i) (h9 : ∀ i, i < 1 → ν'.1 24 (o + 72 + i) = ν.1 9 i) (h10 : ∀ i, i < 8 → ν'.1 24 (o + 73 + i) = ν.1 10 i) (h11 : ∀ i, i < 8 → ν'.1 24 (o + 81 + i) = ν.1 11 i) (h13 : ∀ i, i < 3 → ν'.1 24 (o + 89 + i) = ν.1 13 i) (h14 : ∀ i, i < 1 → ν'.1 24 (o + 92 + i) = ν.1 14 i) (f0 : ν'.1 24 (o + 93) = ν.1 0 8) (f1 : ν'.1 24 (o + 94) = ν.1 0 9) (f2 : ν'.1 24 (o + 95) = ν.1 0 10) (f3 : ν'.1 24 (o + 96) = ν.1 0 11) (f4 : ν'.1 24 (o + 97) = ν.1 0 12) (f5 : ν'.1 24 (o + 98) = ν.1 0 13) : StK ν' o S := by
  obtain ⟨k1, k2, ⟨m, k3, k4, k5⟩, n1, n2, n3, n4, n5, n6, n7⟩ := s2
  refine ⟨fun x hx => ?_, fun x hx => ?_, ⟨m, k3, ?_, fun i hi => ?_⟩, ?_, ?_, ?_, ?_, ?_, ?_, ?_⟩
  · rw [h2 x hx, h3 x hx, h4 x hx, h10 x hx, h11 x hx]; exact k1 x hx
  · rw [h5 x hx, h6 x hx, h7 x hx, h8 x hx]; exact k2 x hx
  · rw [← k4]; exact h14 0 (by omega)
  · rw [h13 i hi]; exact k5 i hi
  · rw [f0]; exact n1
  · rw [f1]; exact n2
  · rw [f2]; exact n3
  · rw [← n4]; exact h9 0 (by omega)
  · rw [f3]; exact n5
  · rw [f4]; exact n6
  · rw [f5]; exact n7
theorem StM.of {ν ν' : z_M} {S : zS} {o : Nat} (s2 : StK ν o S) (h2 : ∀ i, i < 8 → ν'.1 2 i = ν.1 24 (o + i)) (h3 : ∀ i, i < 8 → ν'.1 3 i = ν.1 24 (o + 8 + i)) (h4 : ∀ i, i < 8 → ν'.1 4 i = ν.1 24 (o + 16 + i)) (h5 : ∀ i, i < 12 → ν'.1 5 i = ν.1 24 (o + 24 + i)) (h6 : ∀ i, i < 12 → ν'.1 6 i = ν.1 24 (o + 36 + i)) (h7 : ∀ i, i < 12 → ν'.1 7 i = ν.1 24 (o + 48 + i)) (h8 : ∀ i, i < 12 → ν'.1 8 i = ν.1 24 (o + 60 + i)) (h9 : ∀ i, i < 1 → ν'.1 9 i = ν.1 24 (o + 72 + i)) (h10 : ∀ i, i < 8 → ν'.1 10 i = ν.1 24 (o + 73 + i)) (h11 : ∀ i, i < 8 → ν'.1 11 i = ν.1 24 (o + 81 + i)) (h13 : ∀ i, i < 3 → ν'.1 13 i = ν.1 24 (o + 89 + i)) (h14 : ∀ i, i < 1 → ν'.1 14 i = ν.1 24 (o + 92 + i)) (f0 : ν'.1 0 8 = ν.1 24 (o + 93)) (f1 : ν'.1 0 9 = ν.1 24 (o + 94)) (f2 : ν'.1 0 10 = ν.1 24 (o + 95)) (f3 : ν'.1 0 11 = ν.1 24 (o + 96)) (f4 : ν'.1 0 12 = ν.1 24 (o + 97)) (f5 : ν'.1 0 13 = ν.1 24 (o + 98)) : StM ν' S := by
  obtain ⟨k1, k2, ⟨m, k3, k4, k5⟩, n1, n2, n3, n4, n5, n6, n7⟩ := s2
  refine ⟨fun x hx => ?_, fun x hx => ?_, ⟨m, k3, ?_, fun i hi => ?_⟩, ?_, ?_, ?_, ?_, ?_, ?_, ?_⟩
  · rw [h2 x hx, h3 x hx, h4 x hx, h10 x hx, h11 x hx]; exact k1 x hx
  · rw [h5 x hx, h6 x hx, h7 x hx, h8 x hx]; exact k2 x hx
  · rw [h14 0 (by omega)]; exact k4
  · rw [h13 i hi]; exact k5 i hi
  · rw [f0]; exact n1
  · rw [f1]; exact n2
  · rw [f2]; exact n3
  · rw [h9 0 (by omega)]; exact n4
  · rw [f3]; exact n5
  · rw [f4]; exact n6
  · rw [f5]; exact n7
theorem ag_image {N : Nat} {μ ν : z_M} (R : Rr N μ ν) : Ag N (fun _ => z_oT (f_X8_image μ)) (fun n => f_X9_image n ν) := by
  obtain ⟨S, H, W, g, O⟩ := R.1.op
  have O' := O
  obtain ⟨⟨s1, s2, V⟩, ⟨hH, hW, hg1, hg3⟩, ⟨eH, eW, eg⟩, ⟨c3, c4, c5, c6⟩, ⟨m8, m9, m10, mb, m23, m24⟩, hb⟩ := O
  have RR := R
  obtain ⟨-, hI, hHs, hF, hL, hA, hz⟩ := RR
  obtain ⟨b1, b2, b3⟩ := cBecome (q := 8) s1 (by omega)
  obtain ⟨ν', u, z, fr, kf, h2, h3, h4, h5, h6, h7, h8, h9, h10, h11, h13, h14, f0, f1, f2, f3, f4, f5, f6⟩ := mPassK (o := 0) (w := 0) rfl (by omega) (z_sI ν 0 42 1)
  have fr' : ∀ k j, k ≠ 24 → (k ≠ 0 ∨ (j ≠ 23 ∧ j ≠ 43 ∧ j ≠ 44 ∧ j ≠ 42)) → ν'.1 k j = ν.1 k j := fun k j q1 q2 => by
    rw [fr k j q1 (by omega), sI1, if_neg (by omega)]
  have s2' : StM (z_sI ν 0 42 1) S := ⟨s2.1, s2.2.1, s2.2.2⟩
  have hc : (f_X6_becomeAs 8 1 μ).1 8 3 = nI H := (b1.2.2.2 0 (by omega)).trans eH
  refine ⟨nI H, z_sI (f_X6_becomeAs 8 1 μ) 0 10 1, ν', ⟨0, ?_⟩, ⟨100, ?_⟩, ⟨S, ?_, ?_, V, ?_, ?_⟩, Or.inr ⟨rfl, ?_, S, ?_, ?_, V⟩, hHs.same (fun j => ⟨?_, ?_⟩) ?_ (fun j => ⟨?_, ?_, ?_⟩) ?_, fun i hi => ?_, ?_, ⟨?_, fun i hi => ?_⟩, ?_⟩
  · unfold f_X8_image
    show some ((z_sI (f_X6_becomeAs 8 1 μ) 0 10 1).1 8 3, _) = _
    rw [sI1f (by decide), hc]
  · unfold f_X9_image
    dsimp only
    rw [z_letE]
    have u' : f_X9_passesAll 100 0 1 (z_sI ν 0 42 1) = some ((), ν') := u
    rw [u', z_bindS]
    dsimp only
    rw [fr' 0 8 (by decide) (by omega), m8]
  · exact s1.same (fun j => by rw [sI1f (by decide), b2 3 (by decide) (by decide) (by decide) (by decide)]) (fun j => by rw [sI1f (by decide), b2 5 (by decide) (by decide) (by decide) (by decide)]) (fun j => by rw [sI1f (by decide), b2 7 (by decide) (by decide) (by decide) (by decide)]) (fun j => by rw [sI1f (by decide), b2 1 (by decide) (by decide) (by decide) (by decide)])
  · obtain ⟨k1, k2, ⟨m, k3, k4, k5⟩, n1, n2, n3, n4, n5, n6, n7⟩ := s2
    refine ⟨fun x hx => ?_, fun x hx => ?_, ⟨m, k3, ?_, fun i hi => ?_⟩, ?_, ?_, ?_, ?_, ?_, ?_, ?_⟩
    · rw [fr' 2 x (by decide) (by omega), fr' 3 x (by decide) (by omega), fr' 4 x (by decide) (by omega), fr' 10 x (by decide) (by omega), fr' 11 x (by decide) (by omega)]; exact k1 x hx
    · rw [fr' 5 x (by decide) (by omega), fr' 6 x (by decide) (by omega), fr' 7 x (by decide) (by omega), fr' 8 x (by decide) (by omega)]; exact k2 x hx
    · rw [fr' 14 0 (by decide) (by omega)]; exact k4
    · rw [fr' 13 i (by decide) (by omega)]; exact k5 i hi
    · rw [fr' 0 8 (by decide) (by omega)]; exact n1
    · rw [fr' 0 9 (by decide) (by omega)]; exact n2
    · rw [fr' 0 10 (by decide) (by omega)]; exact n3
    · rw [fr' 9 0 (by decide) (by omega)]; exact n4
    · rw [fr' 0 11 (by decide) (by omega)]; exact n5
    · rw [fr' 0 12 (by decide) (by omega)]; exact n6
    · rw [fr' 0 13 (by decide) (by omega)]; exact n7
  · rw [f6]; show ν.1 0 10 = _; rw [m10, eg]
  · rw [fr' 0 24 (by decide) (by omega), m24]
  · rw [fr 0 42 (by decide) (by omega)]; rfl
  · exact b1.same (fun j => by rw [sI1f (by decide)]) (fun j => by rw [sI1f (by decide)]) (fun j => by rw [sI1f (by decide)]) (fun j => by rw [sI1f (by decide)])
  · exact StK.of s2' h2 h3 h4 h5 h6 h7 h8 h9 h10 h11 h13 h14 f0 f1 f2 f3 f4 f5
  · rw [sI1f (by decide), b2 25 (by decide) (by decide) (by decide) (by decide)]
  · rw [sI1f (by decide), b2 27 (by decide) (by decide) (by decide) (by decide)]
  · rw [sI2, b3]
  · rw [fr' 19 j (by decide) (by omega)]
  · rw [fr' 20 j (by decide) (by omega)]
  · rw [fr' 21 j (by decide) (by omega)]
  · rw [z]; rfl
  · rw [sI1f (by decide), b2 49 (by decide) (by decide) (by decide) (by decide), fr' 1 i (by decide) (by omega)]; exact hF i hi
  · rw [sI1, if_neg (by omega), b2 0 (by decide) (by decide) (by decide) (by decide), fr' 0 36 (by decide) (by omega)]; exact hL
  · obtain ⟨r, a1, a2, a3⟩ := hA.1
    exact ⟨r, a1, by rw [sI1f (by decide), b2 28 (by decide) (by decide) (by decide) (by decide)]; exact a2, by rw [fr' 0 51 (by decide) (by omega)]; exact a3⟩
  · rw [sI1f (by decide), b2 30 (by decide) (by decide) (by decide) (by decide), fr' 26 i (by decide) (by omega)]; exact hA.2 i hi
  · rw [sI1f (by decide), b2 41 (by decide) (by decide) (by decide) (by decide)]; exact hz
theorem drop_loop {H : Nat} (hH : H ≤ 8) : ∀ (d s N : Nat) (μ ν : z_M), s + d = 8 → Rr N μ ν → ν.1 0 8 = nI H → ∃ μ' ν', (∀ n, d + 1 ≤ n → f_X5_dropHousesFrom_h2 n (nI H) (nI s) μ = some ((), μ')) ∧ (∀ n, d + 1 ≤ n → f_X9_restore_h22 n (nI s) ν = some (nI H, ν')) ∧ Rr N μ' ν' ∧ μ'.1 1 = μ.1 1 := by
  intro d
  induction d with
  | zero =>
    intro s N μ ν e R m8
    obtain rfl : s = 8 := by omega
    refine ⟨μ, ν, fun n hn => ?_, fun n hn => ?_, R, rfl⟩
    · obtain ⟨l, rfl⟩ : ∃ l, n = l + 1 := ⟨n - 1, by omega⟩
      rfl
    · obtain ⟨l, rfl⟩ : ∃ l, n = l + 1 := ⟨n - 1, by omega⟩
      unfold f_X9_restore_h22
      rw [if_neg (show ¬ nI 8 < (8 : Int32) by decide), m8]
  | succ d ih =>
    intro s N μ ν e R m8
    have hs : s < 8 := by omega
    have st1 : ∀ l, f_X5_dropHousesFrom_h2 (l + 1) (nI H) (nI s) μ = if f_X5_isHouse (μ.1 25 s) μ = 0 then f_X5_dropHousesFrom_h2 l (nI H) (nI (s + 1)) μ else if μ.1 25 s < nI H then f_X5_dropHousesFrom_h2 l (nI H) (nI (s + 1)) μ else f_X5_dropHousesFrom_h2 l (nI H) (nI (s + 1)) (z_sI μ 25 s (-1)) := by
      intro l
      rw [f_X5_dropHousesFrom_h2, if_pos (show nI s < (8 : Int32) from nI_lt (b := 8) hs (by omega)), g_getN hs (by decide), g_putN hs (by decide), z_letE]
      unfold f_X5_dropHousesFrom_b43
      rw [i_succ]
    have st2 : ∀ l, f_X9_restore_h22 (l + 1) (nI s) ν = if ν.1 19 s = 4 then (if ν.1 21 s < nI H then f_X9_restore_h22 l (nI (s + 1)) ν else f_X9_restore_h22 l (nI (s + 1)) (z_sI ν 19 s (-1))) else f_X9_restore_h22 l (nI (s + 1)) ν := by
      intro l
      rw [f_X9_restore_h22, if_pos (show nI s < (8 : Int32) from nI_lt (b := 8) hs (by omega)), z_chkN hs (by decide), z_chkN hs (by decide), z_chkN hs (by decide), z_ixN (by omega), m8, z_letE]
      unfold f_X9_restore_b58
      rw [i_succ]
    have skip : (∀ l, f_X5_dropHousesFrom_h2 (l + 1) (nI H) (nI s) μ = f_X5_dropHousesFrom_h2 l (nI H) (nI (s + 1)) μ) → (∀ l, f_X9_restore_h22 (l + 1) (nI s) ν = f_X9_restore_h22 l (nI (s + 1)) ν) → ∃ μ' ν', (∀ n, d + 1 + 1 ≤ n → f_X5_dropHousesFrom_h2 n (nI H) (nI s) μ = some ((), μ')) ∧ (∀ n, d + 1 + 1 ≤ n → f_X9_restore_h22 n (nI s) ν = some (nI H, ν')) ∧ Rr N μ' ν' ∧ μ'.1 1 = μ.1 1 := by
      intro a1 a2
      obtain ⟨μ', ν', q1, q2, q3, q4⟩ := ih (s + 1) N μ ν (by omega) R m8
      refine ⟨μ', ν', fun n hn => ?_, fun n hn => ?_, q3, q4⟩
      · obtain ⟨l, rfl⟩ : ∃ l, n = l + 1 := ⟨n - 1, by omega⟩
        rw [a1]; exact q1 l (by omega)
      · obtain ⟨l, rfl⟩ : ∃ l, n = l + 1 := ⟨n - 1, by omega⟩
        rw [a2]; exact q2 l (by omega)
    rcases R.2.2.1 s hs with ⟨a1, a2, a3⟩ | ⟨h, hh, a1, a2, a3, a4⟩ | ⟨t, m, ht, hm, D⟩
    · exact skip (fun l => by rw [st1, a2, cIsHm, if_pos rfl]) (fun l => by rw [st2, a1, if_neg (by decide)])
    · by_cases c : h < H
      · exact skip (fun l => by rw [st1, a3, cIsH1 (by omega), ifn, if_pos (nI_lt c (by omega))]) (fun l => by rw [st2, a1, if_pos rfl, a2, if_pos (nI_lt c (by omega))])
      · have R1 : Rr N (z_sI μ 25 s (-1)) (z_sI ν 19 s (-1)) := R.shelf hs (fun k h1 h2 => sI1f h1) (fun k _ j hj => sIne hj) (fun _ _ => rfl) (fun k h1 h2 h3 => sI1f h1) (fun k _ j hj => sIne hj) (fun _ _ => rfl) (Or.inl ⟨by rw [sI1, if_pos ⟨rfl, rfl⟩], by rw [sI1, if_pos ⟨rfl, rfl⟩], by rw [sI1, if_neg (by omega)]; exact a4⟩)
        obtain ⟨μ', ν', q1, q2, q3, q4⟩ := ih (s + 1) N _ _ (by omega) R1 m8
        refine ⟨μ', ν', fun n hn => ?_, fun n hn => ?_, q3, by rw [q4, sI1f (by decide)]⟩
        · obtain ⟨l, rfl⟩ : ∃ l, n = l + 1 := ⟨n - 1, by omega⟩
          rw [st1, a3, cIsH1 (by omega), ifn, if_neg (nI_nlt (by omega) (by omega))]; exact q1 l (by omega)
        · obtain ⟨l, rfl⟩ : ∃ l, n = l + 1 := ⟨n - 1, by omega⟩
          rw [st2, a1, if_pos rfl, a2, if_neg (nI_nlt (by omega) (by omega))]; exact q2 l (by omega)
    · exact skip (fun l => by rw [st1, D.2.1, cIsH0 ht, ifz]) (fun l => by rw [st2, D.1, if_neg (nIne4 ht)])
/-- the street put back in both -/
theorem Rr.back {N w' : Nat} {μ ν μ' : z_M} {S : zS} {o : Nat} (R : Rr N μ ν) (ho : o = 200 * w') (hw : w' < 2) (hc : StC 1 μ' S) (hk : StK ν o S) (V : Vd N S) (c : KX μ μ') (m24 : ν.1 0 24 = 0) : ∃ ν', f_X9_passesAll 100 (nI w') 0 ν = some ((), ν') ∧ Rr N μ' ν' ∧ ν'.1 0 8 = S 10 0 ∧ ν'.2 = ν.2 := by
  obtain ⟨ν', u, z, fr, h2, h3, h4, h5, h6, h7, h8, h9, h10, h11, h13, h14, f0, f1, f2, f3, f4, f5, f6⟩ := mPassB ho hw ν
  have fr' : ∀ k j, k ≠ 2 → k ≠ 3 → k ≠ 4 → k ≠ 5 → k ≠ 6 → k ≠ 7 → k ≠ 8 → k ≠ 9 → k ≠ 10 → k ≠ 11 → k ≠ 13 → k ≠ 14 → (k ≠ 0 ∨ (j < 8 ∨ (13 < j ∧ j ≠ 23 ∧ j ≠ 43 ∧ j ≠ 44))) → ν'.1 k j = ν.1 k j := fun k j a1 a2 a3 a4 a5 a6 a7 a8 a9 a10 a11 a12 q => fr k j (Or.inl a1) (Or.inl a2) (Or.inl a3) (Or.inl a4) (Or.inl a5) (Or.inl a6) (Or.inl a7) (Or.inl a8) (Or.inl a9) (Or.inl a10) (Or.inl a11) (Or.inl a12) q
  have t2 := StM.of hk h2 h3 h4 h5 h6 h7 h8 h9 h10 h11 h13 h14 f0 f1 f2 f3 f4 f5
  have ky : KY ν ν' := by
    refine ⟨fun k j q => ?_, by rw [z]⟩
    unfold LY at q
    rcases q with ⟨q0, q | q | q⟩ | q0 | q0 | q0 | q0 | ⟨q0, q⟩ | q0 <;> exact fr' k j (by omega) (by omega) (by omega) (by omega) (by omega) (by omega) (by omega) (by omega) (by omega) (by omega) (by omega) (by omega) (by omega)
  refine ⟨ν', u, R.street (Nat.le_refl N) ⟨S, hc, t2, V, ?_, ?_⟩ c ky, t2.2.2.2.1, z⟩
  · rw [f6]; exact hk.2.2.2.2.2.1
  · rw [fr' 0 24 (by decide) (by decide) (by decide) (by decide) (by decide) (by decide) (by decide) (by decide) (by decide) (by decide) (by decide) (by decide) (by omega)]; exact m24
theorem ag_restore {N : Nat} {μ ν : z_M} (R : Rr N μ ν) : Ag N (fun n => f_X8_restore n μ) (fun n => f_X9_restore n ν) := by
  obtain ⟨S, H, W, g, O⟩ := R.1.op
  have O' := O
  obtain ⟨⟨s1, s2, V⟩, ⟨hH, hW, hg1, hg3⟩, ⟨eH, eW, eg⟩, ⟨c3, c4, c5, c6⟩, ⟨m8, m9, m10, mb, m23, m24⟩, hb⟩ := O
  unfold f_X8_restore f_X9_restore
  rcases R.2.1 with ⟨i1, i2⟩ | ⟨i1, i2, S', t1, t2, V'⟩
  · rw [i1, i2]; exact ⟨_, _, _, ⟨0, rfl⟩, ⟨0, rfl⟩, R.refuse 6⟩
  · rw [i1, i2]
    simp only [ifn]
    obtain ⟨b1, b2, b3⟩ := cBecome (q := 1) t1 (by omega)
    obtain ⟨H', hH', eH'⟩ := V'.1
    obtain ⟨ν1, u, R1, e8, -⟩ := R.back (w' := 0) (o := 0) rfl (by omega) b1 t2 V' ⟨fun k j z => by rw [b2 k z.ne.1 z.ne.2.1 z.ne.2.2.1 z.ne.2.2.2], b3⟩ m24
    obtain ⟨μ', ν', q1, q2, q3, q4⟩ := drop_loop hH' 8 0 N _ _ (by omega) R1 (e8.trans eH')
    have hc : (f_X6_becomeAs 1 8 μ).1 1 3 = nI H' := (b1.2.2.2 0 (by omega)).trans eH'
    refine ⟨nI H', μ', ν', ⟨20, ?_⟩, ⟨100, ?_⟩, q3⟩
    · dsimp only
      rw [z_letE]
      unfold f_X5_dropHousesFrom
      have q1' : f_X5_dropHousesFrom_h2 20 (nI H') 0 (f_X6_becomeAs 1 8 μ) = some ((), μ') := q1 20 (by omega)
      rw [show f_X6_houseCount 1 (f_X6_becomeAs 1 8 μ) = (f_X6_becomeAs 1 8 μ).1 1 3 from rfl, hc, q1', z_bindS]
      show some (μ'.1 1 3, μ') = _
      rw [q4, hc]
    · dsimp only
      have u' : f_X9_passesAll 100 0 0 ν = some ((), ν1) := u
      rw [u', z_bindS]
      exact q2 100 (by omega)
/-- the open ways as bits, of the first n -/
noncomputable def sMk (S : zS) : Nat → Nat
  | 0 => 0
  | n + 1 => sMk S n ||| @ite _ (sO S 0 n) (Classical.propDecidable _) (2 ^ n) 0
theorem sMk_s (S : zS) (n : Nat) : sMk S (n + 1) = sMk S n ||| @ite _ (sO S 0 n) (Classical.propDecidable _) (2 ^ n) 0 := rfl
theorem sMk_lt (S : zS) (n : Nat) : sMk S n < 2 ^ n := by
  induction n with
  | zero => exact Nat.one_pos
  | succ n ih =>
    rw [sMk_s]
    refine Nat.or_lt_two_pow (Nat.lt_of_lt_of_le ih (Nat.pow_le_pow_right (by omega) (by omega))) ?_
    by_cases c : sO S 0 n
    · rw [if_pos c]; exact Nat.pow_lt_pow_right (by omega) (by omega)
    · rw [if_neg c]; exact Nat.two_pow_pos _
theorem z_bit1 {j : Nat} (hj : j < 31) : (1 : Int32) <<< (nI j &&& 31) = nI (2 ^ j) := by
  have h := pk_shlN (n := 1) (nI j &&& 31) j (z_sl j (by omega)) (by rw [Nat.one_mul]; exact Nat.pow_lt_pow_right (by omega) (by omega))
  rw [Nat.one_mul] at h
  exact h
theorem cOpenWays {q W : Nat} {μ : z_M} {S : zS} (s1 : StC q μ S) (c4 : μ.1 q 4 = nI W) (hW : W ≤ 12) (n : Nat) (hn : 13 ≤ n) : f_X6_openWays q n μ = some (nI (sMk S W), μ) := by
  have key : ∀ (d j n : Nat), j + d = 12 → d < n → f_X6_openWays_h4 q n (nI (sMk S (min j W))) (nI j) μ = some (nI (sMk S W), μ) := by
    intro d
    induction d with
    | zero =>
      intro j n e hn
      obtain ⟨m, rfl⟩ : ∃ m, n = m + 1 := ⟨n - 1, by omega⟩
      unfold f_X6_openWays_h4
      rw [if_neg (show ¬ nI j < (12 : Int32) from nI_nlt (b := 12) (by omega) (by omega)), show min j W = W by omega]
    | succ d ih =>
      intro j n e hn
      obtain ⟨m, rfl⟩ : ∃ m, n = m + 1 := ⟨n - 1, by omega⟩
      unfold f_X6_openWays_h4 f_X6_openWays_b24
      rw [if_pos (show nI j < (12 : Int32) from nI_lt (b := 12) (by omega) (by omega)), cOpen s1 c4 hW (by omega), i_succ, z_letE, z_bit1 (by omega), z_or]
      have k := ih (j + 1) m (by omega) (by omega)
      by_cases c : j < W
      · rw [show min (j + 1) W = j + 1 by omega, sMk_s] at k
        rw [show min j W = j by omega]
        by_cases c2 : sO S 0 j
        · rw [if_pos c2] at k
          rw [if_pos (⟨c, c2⟩ : j < W ∧ sO S 0 j), ifn]; exact k
        · rw [if_neg c2, Nat.or_zero] at k
          rw [if_neg (fun z : j < W ∧ sO S 0 j => c2 z.2), ifz]; exact k
      · rw [show min (j + 1) W = min j W by omega] at k
        rw [if_neg (fun z : j < W ∧ sO S 0 j => c z.1), ifz]; exact k
  have k := key 12 0 n (by omega) (by omega)
  rw [show min 0 W = 0 by omega] at k
  exact k
def pcN (n : Nat) : Bool := (List.range (2 ^ n)).all (fun m => pc (m ||| 2 ^ n) == pc m + 1)
theorem pcN_all : (List.range 12).all pcN = true := by decide +kernel
theorem pc_or {m n : Nat} (hn : n < 12) (hm : m < 2 ^ n) : pc (m ||| 2 ^ n) = pc m + 1 := by
  have h := List.all_eq_true.mp (List.all_eq_true.mp pcN_all n (List.mem_range.mpr hn)) m (List.mem_range.mpr hm)
  exact eq_of_beq h
def sSh (S : zS) : Nat → Nat
  | 0 => 0
  | n + 1 => sSh S n + (S 8 n).toNatClampNeg
theorem mk_sh {S : zS} (h : ∀ w, w < 12 → zB (S 8 w) 2) : ∀ n, n ≤ 12 → pc (sMk S n) + sSh S n = n := by
  intro n
  induction n with
  | zero => intro _; show pc 0 + 0 = 0; decide
  | succ n ih =>
    intro hn
    have k := ih (by omega)
    obtain ⟨v, hv, ev⟩ := h n (by omega)
    rw [sMk_s, show sSh S (n + 1) = sSh S n + (S 8 n).toNatClampNeg from rfl, ev, nI_clamp (by omega)]
    rcases (show v = 0 ∨ v = 1 by omega) with rfl | rfl
    · rw [if_pos ((sO0 S n).2 ev), pc_or (by omega) (sMk_lt S n)]; omega
    · rw [if_neg (fun z => by have := (sO0 S n).1 z; rw [ev] at this; exact absurd this (by decide)), Nat.or_zero]; omega
theorem mSh {W : Nat} {ν : z_M} {S : zS} (s2 : StM ν S) (m9 : ν.1 0 9 = nI W) (hW : W ≤ 12) (h : ∀ w, w < 12 → zB (S 8 w) 2) : ∀ (d j n : Nat), j + d = W → d < n → f_X9_status_h84 n (nI (sSh S j)) (nI j) ν = some (nI (sSh S W), ν) := by
  intro d
  induction d with
  | zero =>
    intro j n e hn
    obtain ⟨m, rfl⟩ : ∃ m, n = m + 1 := ⟨n - 1, by omega⟩
    unfold f_X9_status_h84
    rw [m9, if_neg (nI_nlt (by omega) (by omega)), show j = W by omega]
  | succ d ih =>
    intro j n e hn
    obtain ⟨m, rfl⟩ : ∃ m, n = m + 1 := ⟨n - 1, by omega⟩
    obtain ⟨v, hv, ev⟩ := h j (by omega)
    have k := ih (j + 1) m (by omega) (by omega)
    rw [show sSh S (j + 1) = sSh S j + (S 8 j).toNatClampNeg from rfl, ev, nI_clamp (by omega)] at k
    unfold f_X9_status_h84
    rw [m9, if_pos (nI_lt (by omega) (by omega)), z_chkN (by omega) (by decide), z_ixN (by omega), (s2.2.1 j (by omega)).2.2.2, ev, nI_add, z_letE, i_succ]
    exact k
theorem ag_status {N : Nat} {μ ν : z_M} (R : Rr N μ ν) (x : Int32) : Ag N (fun n => f_X8_status n x μ) (fun n => f_X9_status n x ν) := by
  obtain ⟨S, H, W, g, O⟩ := R.1.op
  have O' := O
  obtain ⟨⟨s1, s2, V⟩, ⟨hH, hW, hg1, hg3⟩, ⟨eH, eW, eg⟩, ⟨c3, c4, c5, c6⟩, ⟨m8, m9, m10, mb, m23, m24⟩, hb⟩ := O
  have RR := R
  obtain ⟨-, -, -, hF, -, ⟨⟨r, a1, a2, a3⟩, a4⟩, -⟩ := RR
  unfold f_X8_status f_X9_status
  have rest : f_X9_isIn x 11 17 ν = 0 → Ag N (fun n => f_X8_status_b24 n x μ) (fun n => f_X9_status n x ν) := by
    intro e
    unfold f_X8_status_b24 f_X9_status f_X6_count f_X0_howManyRan
    rw [e]
    simp only [if_true]
    by_cases h7 : x = 7
    · subst h7
      exact ⟨nI r, μ, ν, ⟨0, by show some (μ.1 28 1, μ) = _; rw [a2]⟩, ⟨0, by show some (ν.1 0 51, ν) = _; rw [a3]⟩, R⟩
    · simp only [if_neg h7]
      by_cases h0 : x = 0
      · subst h0; exact ⟨nI H, μ, ν, ⟨0, by show some (μ.1 1 3, μ) = _; rw [c3]⟩, ⟨0, by show some (ν.1 0 8, ν) = _; rw [m8]⟩, R⟩
      · by_cases h1 : x = 1
        · subst h1; exact ⟨nI W, μ, ν, ⟨0, by show some (μ.1 1 4, μ) = _; rw [c4]⟩, ⟨0, by show some (ν.1 0 9, ν) = _; rw [m9]⟩, R⟩
        · by_cases h2 : x = 2
          · subst h2
            have hb8 := V.2.2.2.2.2.2.1
            have ms := mk_sh hb8 W hW
            have lt := sMk_lt S W
            have lt2 : 2 ^ W ≤ 2 ^ 12 := Nat.pow_le_pow_right (by omega) hW
            refine ⟨nI (sSh S W), μ, ν, ⟨20, ?_⟩, ⟨20, ?_⟩, R⟩
            · simp only [if_neg h0, if_neg h1, if_true, cOpenWays s1 c4 hW 20 (by omega), z_bindS, cBits (show sMk S W < 4096 by omega), c4, nI_sub (show pc (sMk S W) ≤ W by omega)]
              rw [show W - pc (sMk S W) = sSh S W by omega]
            · simp only [if_neg h0, if_neg h1, if_true]
              exact mSh s2 m9 hW hb8 W 0 20 (by omega) (by omega)
          · by_cases h3 : x = 3
            · subst h3; exact ⟨nI g, μ, ν, ⟨0, by show some (μ.1 1 5, μ) = _; rw [c5]⟩, ⟨0, by show some (ν.1 0 10, ν) = _; rw [m10]⟩, R⟩
            · by_cases h4 : x = 4
              · subst h4; exact ⟨S 10 4, μ, ν, ⟨0, by show some (μ.1 1 7, μ) = _; rw [show μ.1 1 7 = S 10 4 from s1.2.2.2 4 (by omega)]⟩, ⟨0, by show some (ν.1 0 11, ν) = _; rw [s2.2.2.2.2.2.2.2.1]⟩, R⟩
              · by_cases h5 : x = 5
                · subst h5; exact ⟨S 10 5, μ, ν, ⟨0, by show some (μ.1 1 8, μ) = _; rw [show μ.1 1 8 = S 10 5 from s1.2.2.2 5 (by omega)]⟩, ⟨0, by show some (ν.1 0 12, ν) = _; rw [s2.2.2.2.2.2.2.2.2.1]⟩, R⟩
                · by_cases h6 : x = 6
                  · subst h6; exact ⟨S 10 6, μ, ν, ⟨0, by show some (μ.1 1 9, μ) = _; rw [show μ.1 1 9 = S 10 6 from s1.2.2.2 6 (by omega)]⟩, ⟨0, by show some (ν.1 0 13, ν) = _; rw [s2.2.2.2.2.2.2.2.2.2]⟩, R⟩
                  · simp only [if_neg h0, if_neg h1, if_neg h2, if_neg h3, if_neg h4, if_neg h5, if_neg h6, if_neg h7, z_bindS]
                    exact ⟨-1, μ, ν, ⟨0, rfl⟩, ⟨0, rfl⟩, R⟩
  rcases n3 x (n := 18) (by omega) with ⟨j, hj, rfl⟩ | h | ⟨j, hj, hj2, rfl⟩
  · by_cases c : 10 < j
    · have e : f_X9_isIn (nI j) 11 17 ν = 1 := by
        unfold f_X9_isIn
        rw [if_neg (show ¬ nI j < (11 : Int32) from nI_nlt (b := 11) (by omega) (by omega)), if_neg (show ¬ (17 : Int32) < nI j from nI_nlt (a := 17) (by omega) (by omega))]
      simp only [e, ifn, if_pos (show (10 : Int32) < nI j from nI_lt (a := 10) c (by omega)), if_neg (show ¬ (17 : Int32) < nI j from nI_nlt (a := 17) (by omega) (by omega)), show nI j - 10 = nI (j - 10) from nI_sub (b := 10) (by omega), g_getN (show j - 10 < 8 by omega) (show 8 < 2 ^ 31 by decide), z_chkN (show j - 10 < 8 by omega) (show 8 < 2 ^ 31 by decide), z_ixN (show j - 10 < 2 ^ 31 by omega), hF (j - 10) (by omega)]
      exact ⟨_, _, _, ⟨0, rfl⟩, ⟨0, rfl⟩, R⟩
    · have e : f_X9_isIn (nI j) 11 17 ν = 0 := by
        unfold f_X9_isIn
        rw [if_pos (show nI j < (11 : Int32) from nI_lt (b := 11) (by omega) (by omega))]
      have := rest e
      unfold f_X9_status at this
      simp only [if_neg (show ¬ (10 : Int32) < nI j from nI_nlt (a := 10) (by omega) (by omega))]
      exact this
  · have e : f_X9_isIn x 11 17 ν = 0 := by
      unfold f_X9_isIn
      rw [if_pos (Int32.lt_trans h (by decide))]
    have := rest e
    unfold f_X9_status at this
    simp only [if_neg (show ¬ (10 : Int32) < x from fun z => Int32.lt_irrefl (Int32.lt_trans h (Int32.lt_trans (by decide : (0 : Int32) < 10) z)))]
    exact this
  · have e : f_X9_isIn (nI j) 11 17 ν = 0 := by
      unfold f_X9_isIn
      rw [if_neg (show ¬ nI j < (11 : Int32) from nI_nlt (b := 11) (by omega) (by omega)), if_pos (show (17 : Int32) < nI j from nI_lt (a := 17) (by omega) hj2)]
    have := rest e
    unfold f_X9_status at this
    simp only [if_pos (show (10 : Int32) < nI j from nI_lt (a := 10) (by omega) hj2), if_pos (show (17 : Int32) < nI j from nI_lt (a := 17) (by omega) hj2)]
    exact this
