/-! image, restore, status -/
/-- kept: a row's first so many -/
theorem mKeepLoop {a n0 : Nat} (h24 : a ≠ 24) (h0 : a ≠ 0) (hn0 : n0 < 2 ^ 31) : ∀ (d l c n : Nat) (ν : z_M), l + d ≤ n0 → c + d ≤ 400 → d < n → ν.1 0 43 = 1 → ν.1 0 44 = nI c → ∃ ν', f_X9_passes_h2 a n0 n (nI (l + d)) (nI l) ν = some ((), ν') ∧ ν'.2 = ν.2 ∧ ∀ k j, ν'.1 k j = if k = 24 ∧ c ≤ j ∧ j < c + d then ν.1 a (l + (j - c)) else if k = 0 ∧ j = 44 then nI (c + d) else ν.1 k j := by
  intro d
  induction d with
  | zero =>
    intro l c n ν e1 e2 hn k1 k2
    obtain ⟨m, rfl⟩ : ∃ m, n = m + 1 := ⟨n - 1, by omega⟩
    unfold f_X9_passes_h2
    rw [if_neg (nI_nlt (by omega) (by omega))]
    refine ⟨ν, rfl, rfl, fun k j => ?_⟩
    rw [if_neg (by omega)]
    by_cases z : k = 0 ∧ j = 44
    · rw [if_pos z, z.1, z.2, k2]; rfl
    · rw [if_neg z]
  | succ d ih =>
    intro l c n ν e1 e2 hn k1 k2
    obtain ⟨m, rfl⟩ : ∃ m, n = m + 1 := ⟨n - 1, by omega⟩
    unfold f_X9_passes_h2 f_X9_passes_b41
    rw [if_pos (nI_lt (by omega) (by omega)), k1, ifn, k2, z_chkN (by omega) hn0, z_chkN (by omega) (by decide), z_ixN (by omega), z_ixN (by omega), z_letE, z_letE]
    have q : (z_sI ν 24 c (ν.1 a l)).1 0 44 = nI c := k2
    rw [q, i_succ, i_succ]
    obtain ⟨ν', r1, r2, r3⟩ := ih (l + 1) (c + 1) m (z_sI (z_sI ν 24 c (ν.1 a l)) 0 44 (nI (c + 1))) (by omega) (by omega) (by omega) k1 rfl
    rw [show l + 1 + d = l + (d + 1) by omega] at r1
    refine ⟨ν', r1, r2, fun k j => ?_⟩
    rw [r3, sI1f h0, sI1f h24]
    by_cases z1 : k = 24 ∧ c + 1 ≤ j ∧ j < c + 1 + d
    · rw [if_pos z1, if_pos (by omega), show l + 1 + (j - (c + 1)) = l + (j - c) by omega]
    · rw [if_neg z1]
      by_cases z2 : k = 0 ∧ j = 44
      · rw [if_pos z2, if_neg (by omega), if_pos z2, show c + 1 + d = c + (d + 1) by omega]
      · rw [if_neg z2, sI1, if_neg z2, sI1]
        by_cases z3 : k = 24 ∧ j = c
        · rw [if_pos z3, if_pos (by omega), show l + (j - c) = l by omega]
        · rw [if_neg z3, if_neg (by omega), if_neg z2]
theorem mKeep {a n0 : Nat} (h24 : a ≠ 24) (h0 : a ≠ 0) (hn0 : n0 < 2 ^ 31) (d c : Nat) (ν : z_M) (e1 : d ≤ n0) (e2 : c + d ≤ 400) (hd : d < 100) (k1 : ν.1 0 43 = 1) (k2 : ν.1 0 44 = nI c) : ∃ ν', f_X9_passes a n0 100 (nI d) ν = some ((), ν') ∧ ν'.2 = ν.2 ∧ ∀ k j, ν'.1 k j = if k = 24 ∧ c ≤ j ∧ j < c + d then ν.1 a (j - c) else if k = 0 ∧ j = 44 then nI (c + d) else ν.1 k j := by
  obtain ⟨ν', r1, r2, r3⟩ := mKeepLoop h24 h0 hn0 d 0 c 100 ν (by omega) e2 hd k1 k2
  rw [Nat.zero_add] at r1
  exact ⟨ν', r1, r2, fun k j => by rw [r3, Nat.zero_add]⟩
theorem mBackLoop {a n0 : Nat} (h24 : a ≠ 24) (h0 : a ≠ 0) (hn0 : n0 < 2 ^ 31) : ∀ (d l c n : Nat) (ν : z_M), l + d ≤ n0 → c + d ≤ 400 → d < n → ν.1 0 43 = 0 → ν.1 0 44 = nI c → ∃ ν', f_X9_passes_h2 a n0 n (nI (l + d)) (nI l) ν = some ((), ν') ∧ ν'.2 = ν.2 ∧ ∀ k j, ν'.1 k j = if k = a ∧ l ≤ j ∧ j < l + d then ν.1 24 (c + (j - l)) else if k = 0 ∧ j = 44 then nI (c + d) else ν.1 k j := by
  intro d
  induction d with
  | zero =>
    intro l c n ν e1 e2 hn k1 k2
    obtain ⟨m, rfl⟩ : ∃ m, n = m + 1 := ⟨n - 1, by omega⟩
    unfold f_X9_passes_h2
    rw [if_neg (nI_nlt (by omega) (by omega))]
    refine ⟨ν, rfl, rfl, fun k j => ?_⟩
    rw [if_neg (by omega)]
    by_cases z : k = 0 ∧ j = 44
    · rw [if_pos z, z.1, z.2, k2]; rfl
    · rw [if_neg z]
  | succ d ih =>
    intro l c n ν e1 e2 hn k1 k2
    obtain ⟨m, rfl⟩ : ∃ m, n = m + 1 := ⟨n - 1, by omega⟩
    unfold f_X9_passes_h2 f_X9_passes_b41
    rw [if_pos (nI_lt (by omega) (by omega)), k1, ifz, k2, z_chkN (by omega) (by decide), z_chkN (by omega) hn0, z_ixN (by omega), z_ixN (by omega), z_letE, z_letE]
    have q : (z_sI ν a l (ν.1 24 c)).1 0 44 = nI c := by rw [sI1f (Ne.symm h0)]; exact k2
    have q3 : (z_sI (z_sI ν a l (ν.1 24 c)) 0 44 (nI (c + 1))).1 0 43 = 0 := by rw [sI1, if_neg (by omega), sI1f (Ne.symm h0)]; exact k1
    rw [q, i_succ, i_succ]
    obtain ⟨ν', r1, r2, r3⟩ := ih (l + 1) (c + 1) m (z_sI (z_sI ν a l (ν.1 24 c)) 0 44 (nI (c + 1))) (by omega) (by omega) (by omega) q3 rfl
    rw [show l + 1 + d = l + (d + 1) by omega] at r1
    refine ⟨ν', r1, r2, fun k j => ?_⟩
    rw [r3, sI1f (by decide), sI1f (Ne.symm h24)]
    by_cases z1 : k = a ∧ l + 1 ≤ j ∧ j < l + 1 + d
    · rw [if_pos z1, if_pos (by omega), show c + 1 + (j - (l + 1)) = c + (j - l) by omega]
    · rw [if_neg z1]
      by_cases z2 : k = 0 ∧ j = 44
      · rw [if_pos z2, if_neg (by omega), if_pos z2, show c + 1 + d = c + (d + 1) by omega]
      · rw [if_neg z2, sI1, if_neg z2, sI1]
        by_cases z3 : k = a ∧ j = l
        · rw [if_pos z3, if_pos (by omega), show c + (j - l) = c by omega]
        · rw [if_neg z3, if_neg (by omega), if_neg z2]
theorem mBack {a n0 : Nat} (h24 : a ≠ 24) (h0 : a ≠ 0) (hn0 : n0 < 2 ^ 31) (d c : Nat) (ν : z_M) (e1 : d ≤ n0) (e2 : c + d ≤ 400) (hd : d < 100) (k1 : ν.1 0 43 = 0) (k2 : ν.1 0 44 = nI c) : ∃ ν', f_X9_passes a n0 100 (nI d) ν = some ((), ν') ∧ ν'.2 = ν.2 ∧ ∀ k j, ν'.1 k j = if k = a ∧ j < d then ν.1 24 (c + j) else if k = 0 ∧ j = 44 then nI (c + d) else ν.1 k j := by
  obtain ⟨ν', r1, r2, r3⟩ := mBackLoop h24 h0 hn0 d 0 c 100 ν (by omega) e2 hd k1 k2
  rw [Nat.zero_add] at r1
  refine ⟨ν', r1, r2, fun k j => ?_⟩
  rw [r3, Nat.zero_add, Nat.sub_zero]
  by_cases z : k = a ∧ j < d
  · rw [if_pos z, if_pos ⟨z.1, Nat.zero_le _, z.2⟩]
  · rw [if_neg z, if_neg (fun y => z ⟨y.1, y.2.2⟩)]
theorem mKeep1 (c : Nat) (v : Int32) (ν : z_M) (e2 : c < 400) (k1 : ν.1 0 43 = 1) (k2 : ν.1 0 44 = nI c) : ∃ ν', f_X9_passOne v ν = some (v, ν') ∧ ν'.2 = ν.2 ∧ ∀ k j, ν'.1 k j = if k = 24 ∧ j = c then v else if k = 0 ∧ j = 44 then nI (c + 1) else ν.1 k j := by
  unfold f_X9_passOne f_X9_passOne_b20 f_X9_passOne_b38
  rw [k1, ifn, ifn, k2, z_chkN e2 (by decide), z_ixN (by omega), z_letE, z_letE]
  have q : (z_sI ν 24 c v).1 0 44 = nI c := k2
  rw [q, i_succ]
  refine ⟨_, rfl, rfl, fun k j => ?_⟩
  rw [sI1, sI1]
  by_cases z1 : k = 24 ∧ j = c
  · rw [if_pos z1, if_neg (by omega), if_pos z1]
  · simp only [if_neg z1]
theorem mBack1 (c : Nat) (v : Int32) (ν : z_M) (e2 : c < 400) (k1 : ν.1 0 43 = 0) (k2 : ν.1 0 44 = nI c) : ∃ ν', f_X9_passOne v ν = some (ν.1 24 c, ν') ∧ ν'.2 = ν.2 ∧ ∀ k j, ν'.1 k j = if k = 0 ∧ j = 44 then nI (c + 1) else ν.1 k j := by
  unfold f_X9_passOne f_X9_passOne_b20 f_X9_passOne_b38
  rw [k1, ifz, ifz, k2, z_chkN e2 (by decide), z_ixN (by omega), z_letE, i_succ]
  exact ⟨_, rfl, rfl, fun k j => sI1 _ _ _ _ _ _⟩
theorem mPassK {o w : Nat} (ho : o = 200 * w) (hw : w < 2) (ν : z_M) : ∃ ν', f_X9_passesAll 100 (nI w) 1 ν = some ((), ν') ∧ ν'.2 = ν.2 ∧ (∀ k j, k ≠ 24 → (k ≠ 0 ∨ (j ≠ 23 ∧ j ≠ 43 ∧ j ≠ 44)) → ν'.1 k j = ν.1 k j) ∧ (∀ j, (j < o ∨ o + 99 ≤ j) → ν'.1 24 j = ν.1 24 j) ∧ (∀ i, i < 8 → ν'.1 24 (o + i) = ν.1 2 i) ∧ (∀ i, i < 8 → ν'.1 24 (o + 8 + i) = ν.1 3 i) ∧ (∀ i, i < 8 → ν'.1 24 (o + 16 + i) = ν.1 4 i) ∧ (∀ i, i < 12 → ν'.1 24 (o + 24 + i) = ν.1 5 i) ∧ (∀ i, i < 12 → ν'.1 24 (o + 36 + i) = ν.1 6 i) ∧ (∀ i, i < 12 → ν'.1 24 (o + 48 + i) = ν.1 7 i) ∧ (∀ i, i < 12 → ν'.1 24 (o + 60 + i) = ν.1 8 i) ∧ (∀ i, i < 1 → ν'.1 24 (o + 72 + i) = ν.1 9 i) ∧ (∀ i, i < 8 → ν'.1 24 (o + 73 + i) = ν.1 10 i) ∧ (∀ i, i < 8 → ν'.1 24 (o + 81 + i) = ν.1 11 i) ∧ (∀ i, i < 3 → ν'.1 24 (o + 89 + i) = ν.1 13 i) ∧ (∀ i, i < 1 → ν'.1 24 (o + 92 + i) = ν.1 14 i) ∧ ν'.1 24 (o + 93) = ν.1 0 8 ∧ ν'.1 24 (o + 94) = ν.1 0 9 ∧ ν'.1 24 (o + 95) = ν.1 0 10 ∧ ν'.1 24 (o + 96) = ν.1 0 11 ∧ ν'.1 24 (o + 97) = ν.1 0 12 ∧ ν'.1 24 (o + 98) = ν.1 0 13 ∧ ν'.1 0 23 = ν.1 0 10 := by
  unfold f_X9_passesAll
  rw [show (200 : Int32) * nI w = nI o from by rw [ho, show (200 : Int32) = nI 200 from rfl, nI_mulN], z_letE, z_boolE (by exact Or.inr rfl), z_letE]
  obtain ⟨x0, e0⟩ : ∃ x, x = z_sI (z_sI ν 0 44 (nI o)) 0 43 1 := ⟨_, rfl⟩
  rw [← e0]
  have g0 : ∀ k j, x0.1 k j = if k = 0 ∧ j = 43 then 1 else if k = 0 ∧ j = 44 then nI o else ν.1 k j := fun k j => by rw [e0, sI1, sI1]
  have z0 : x0.2 = ν.2 := by rw [e0]; rfl
  have x0k : x0.1 0 43 = 1 := by rw [g0, if_pos ⟨rfl, rfl⟩]
  have x0c : x0.1 0 44 = nI o := by rw [g0, if_neg (by omega), if_pos ⟨rfl, rfl⟩]
  obtain ⟨x1, u1, z1, g1⟩ := mKeep (a := 2) (n0 := 8) (by decide) (by decide) (by decide) 8 o x0 (by decide) (by omega) (by decide) x0k x0c
  have u1' : f_X9_passes 2 8 100 8 x0 = some ((), x1) := u1
  rw [u1', z_bindS]
  have x1k : x1.1 0 43 = 1 := by rw [g1, if_neg (by omega), if_neg (by omega)]; exact x0k
  have x1c : x1.1 0 44 = nI (o + 8) := by rw [g1, if_neg (by omega), if_pos ⟨rfl, rfl⟩]
  obtain ⟨x2, u2, z2, g2⟩ := mKeep (a := 3) (n0 := 8) (by decide) (by decide) (by decide) 8 (o + 8) x1 (by decide) (by omega) (by decide) x1k x1c
  have u2' : f_X9_passes 3 8 100 8 x1 = some ((), x2) := u2
  rw [u2', z_bindS]
  have x2k : x2.1 0 43 = 1 := by rw [g2, if_neg (by omega), if_neg (by omega)]; exact x1k
  have x2c : x2.1 0 44 = nI (o + 16) := by rw [g2, if_neg (by omega), if_pos ⟨rfl, rfl⟩]
  obtain ⟨x3, u3, z3, g3⟩ := mKeep (a := 4) (n0 := 8) (by decide) (by decide) (by decide) 8 (o + 16) x2 (by decide) (by omega) (by decide) x2k x2c
  have u3' : f_X9_passes 4 8 100 8 x2 = some ((), x3) := u3
  rw [u3', z_bindS]
  have x3k : x3.1 0 43 = 1 := by rw [g3, if_neg (by omega), if_neg (by omega)]; exact x2k
  have x3c : x3.1 0 44 = nI (o + 24) := by rw [g3, if_neg (by omega), if_pos ⟨rfl, rfl⟩]
  obtain ⟨x4, u4, z4, g4⟩ := mKeep (a := 5) (n0 := 12) (by decide) (by decide) (by decide) 12 (o + 24) x3 (by decide) (by omega) (by decide) x3k x3c
  have u4' : f_X9_passes 5 12 100 12 x3 = some ((), x4) := u4
  rw [u4', z_bindS]
  have x4k : x4.1 0 43 = 1 := by rw [g4, if_neg (by omega), if_neg (by omega)]; exact x3k
  have x4c : x4.1 0 44 = nI (o + 36) := by rw [g4, if_neg (by omega), if_pos ⟨rfl, rfl⟩]
  obtain ⟨x5, u5, z5, g5⟩ := mKeep (a := 6) (n0 := 12) (by decide) (by decide) (by decide) 12 (o + 36) x4 (by decide) (by omega) (by decide) x4k x4c
  have u5' : f_X9_passes 6 12 100 12 x4 = some ((), x5) := u5
  rw [u5', z_bindS]
  have x5k : x5.1 0 43 = 1 := by rw [g5, if_neg (by omega), if_neg (by omega)]; exact x4k
  have x5c : x5.1 0 44 = nI (o + 48) := by rw [g5, if_neg (by omega), if_pos ⟨rfl, rfl⟩]
  obtain ⟨x6, u6, z6, g6⟩ := mKeep (a := 7) (n0 := 12) (by decide) (by decide) (by decide) 12 (o + 48) x5 (by decide) (by omega) (by decide) x5k x5c
  have u6' : f_X9_passes 7 12 100 12 x5 = some ((), x6) := u6
  rw [u6', z_bindS]
  have x6k : x6.1 0 43 = 1 := by rw [g6, if_neg (by omega), if_neg (by omega)]; exact x5k
  have x6c : x6.1 0 44 = nI (o + 60) := by rw [g6, if_neg (by omega), if_pos ⟨rfl, rfl⟩]
  obtain ⟨x7, u7, z7, g7⟩ := mKeep (a := 8) (n0 := 12) (by decide) (by decide) (by decide) 12 (o + 60) x6 (by decide) (by omega) (by decide) x6k x6c
  have u7' : f_X9_passes 8 12 100 12 x6 = some ((), x7) := u7
  rw [u7', z_bindS]
  have x7k : x7.1 0 43 = 1 := by rw [g7, if_neg (by omega), if_neg (by omega)]; exact x6k
  have x7c : x7.1 0 44 = nI (o + 72) := by rw [g7, if_neg (by omega), if_pos ⟨rfl, rfl⟩]
  obtain ⟨x8, u8, z8, g8⟩ := mKeep (a := 9) (n0 := 9) (by decide) (by decide) (by decide) 1 (o + 72) x7 (by decide) (by omega) (by decide) x7k x7c
  have u8' : f_X9_passes 9 9 100 1 x7 = some ((), x8) := u8
  rw [u8', z_bindS]
  have x8k : x8.1 0 43 = 1 := by rw [g8, if_neg (by omega), if_neg (by omega)]; exact x7k
  have x8c : x8.1 0 44 = nI (o + 73) := by rw [g8, if_neg (by omega), if_pos ⟨rfl, rfl⟩]
  obtain ⟨x9, u9, z9, g9⟩ := mKeep (a := 10) (n0 := 72) (by decide) (by decide) (by decide) 8 (o + 73) x8 (by decide) (by omega) (by decide) x8k x8c
  have u9' : f_X9_passes 10 72 100 8 x8 = some ((), x9) := u9
  rw [u9', z_bindS]
  have x9k : x9.1 0 43 = 1 := by rw [g9, if_neg (by omega), if_neg (by omega)]; exact x8k
  have x9c : x9.1 0 44 = nI (o + 81) := by rw [g9, if_neg (by omega), if_pos ⟨rfl, rfl⟩]
  obtain ⟨x10, u10, z10, g10⟩ := mKeep (a := 11) (n0 := 72) (by decide) (by decide) (by decide) 8 (o + 81) x9 (by decide) (by omega) (by decide) x9k x9c
  have u10' : f_X9_passes 11 72 100 8 x9 = some ((), x10) := u10
  rw [u10', z_bindS]
  have x10k : x10.1 0 43 = 1 := by rw [g10, if_neg (by omega), if_neg (by omega)]; exact x9k
  have x10c : x10.1 0 44 = nI (o + 89) := by rw [g10, if_neg (by omega), if_pos ⟨rfl, rfl⟩]
  obtain ⟨x11, u11, z11, g11⟩ := mKeep (a := 13) (n0 := 27) (by decide) (by decide) (by decide) 3 (o + 89) x10 (by decide) (by omega) (by decide) x10k x10c
  have u11' : f_X9_passes 13 27 100 3 x10 = some ((), x11) := u11
  rw [u11', z_bindS]
  have x11k : x11.1 0 43 = 1 := by rw [g11, if_neg (by omega), if_neg (by omega)]; exact x10k
  have x11c : x11.1 0 44 = nI (o + 92) := by rw [g11, if_neg (by omega), if_pos ⟨rfl, rfl⟩]
  obtain ⟨x12, u12, z12, g12⟩ := mKeep (a := 14) (n0 := 9) (by decide) (by decide) (by decide) 1 (o + 92) x11 (by decide) (by omega) (by decide) x11k x11c
  have u12' : f_X9_passes 14 9 100 1 x11 = some ((), x12) := u12
  rw [u12', z_bindS]
  have x12k : x12.1 0 43 = 1 := by rw [g12, if_neg (by omega), if_neg (by omega)]; exact x11k
  have x12c : x12.1 0 44 = nI (o + 93) := by rw [g12, if_neg (by omega), if_pos ⟨rfl, rfl⟩]
  obtain ⟨y13, u13, w13, h13⟩ := mKeep1 (o + 93) (x12.1 0 8) x12 (by omega) x12k x12c
  simp only [u13, z_bindS, z_letE]
  obtain ⟨x13, e13⟩ : ∃ x, x = z_sI y13 0 8 (x12.1 0 8) := ⟨_, rfl⟩
  rw [← e13]
  have g13 : ∀ k j, x13.1 k j = if k = 24 ∧ j = o + 93 then x12.1 0 8 else if k = 0 ∧ j = 44 then nI (o + 94) else x12.1 k j := fun k j => by
    rw [e13, sI1]
    by_cases q : k = 0 ∧ j = 8
    · rw [if_pos q, if_neg (by omega), if_neg (by omega), q.1, q.2]
    · rw [if_neg q, h13]
  have z13 : x13.2 = x12.2 := by rw [e13]; exact w13
  have x13k : x13.1 0 43 = 1 := by rw [g13, if_neg (by omega), if_neg (by omega)]; exact x12k
  have x13c : x13.1 0 44 = nI (o + 94) := by rw [g13, if_neg (by omega), if_pos ⟨rfl, rfl⟩]
  obtain ⟨y14, u14, w14, h14⟩ := mKeep1 (o + 94) (x13.1 0 9) x13 (by omega) x13k x13c
  simp only [u14, z_bindS, z_letE]
  obtain ⟨x14, e14⟩ : ∃ x, x = z_sI y14 0 9 (x13.1 0 9) := ⟨_, rfl⟩
  rw [← e14]
  have g14 : ∀ k j, x14.1 k j = if k = 24 ∧ j = o + 94 then x13.1 0 9 else if k = 0 ∧ j = 44 then nI (o + 95) else x13.1 k j := fun k j => by
    rw [e14, sI1]
    by_cases q : k = 0 ∧ j = 9
    · rw [if_pos q, if_neg (by omega), if_neg (by omega), q.1, q.2]
    · rw [if_neg q, h14]
  have z14 : x14.2 = x13.2 := by rw [e14]; exact w14
  have x14k : x14.1 0 43 = 1 := by rw [g14, if_neg (by omega), if_neg (by omega)]; exact x13k
  have x14c : x14.1 0 44 = nI (o + 95) := by rw [g14, if_neg (by omega), if_pos ⟨rfl, rfl⟩]
  obtain ⟨y15, u15, w15, h15⟩ := mKeep1 (o + 95) (x14.1 0 10) x14 (by omega) x14k x14c
  simp only [u15, z_bindS, z_letE]
  obtain ⟨x15, e15⟩ : ∃ x, x = z_sI y15 0 10 (x14.1 0 10) := ⟨_, rfl⟩
  rw [← e15]
  have g15 : ∀ k j, x15.1 k j = if k = 24 ∧ j = o + 95 then x14.1 0 10 else if k = 0 ∧ j = 44 then nI (o + 96) else x14.1 k j := fun k j => by
    rw [e15, sI1]
    by_cases q : k = 0 ∧ j = 10
    · rw [if_pos q, if_neg (by omega), if_neg (by omega), q.1, q.2]
    · rw [if_neg q, h15]
  have z15 : x15.2 = x14.2 := by rw [e15]; exact w15
  have x15k : x15.1 0 43 = 1 := by rw [g15, if_neg (by omega), if_neg (by omega)]; exact x14k
  have x15c : x15.1 0 44 = nI (o + 96) := by rw [g15, if_neg (by omega), if_pos ⟨rfl, rfl⟩]
  obtain ⟨y16, u16, w16, h16⟩ := mKeep1 (o + 96) (x15.1 0 11) x15 (by omega) x15k x15c
  simp only [u16, z_bindS, z_letE]
  obtain ⟨x16, e16⟩ : ∃ x, x = z_sI y16 0 11 (x15.1 0 11) := ⟨_, rfl⟩
  rw [← e16]
  have g16 : ∀ k j, x16.1 k j = if k = 24 ∧ j = o + 96 then x15.1 0 11 else if k = 0 ∧ j = 44 then nI (o + 97) else x15.1 k j := fun k j => by
    rw [e16, sI1]
    by_cases q : k = 0 ∧ j = 11
    · rw [if_pos q, if_neg (by omega), if_neg (by omega), q.1, q.2]
    · rw [if_neg q, h16]
  have z16 : x16.2 = x15.2 := by rw [e16]; exact w16
  have x16k : x16.1 0 43 = 1 := by rw [g16, if_neg (by omega), if_neg (by omega)]; exact x15k
  have x16c : x16.1 0 44 = nI (o + 97) := by rw [g16, if_neg (by omega), if_pos ⟨rfl, rfl⟩]
  obtain ⟨y17, u17, w17, h17⟩ := mKeep1 (o + 97) (x16.1 0 12) x16 (by omega) x16k x16c
  simp only [u17, z_bindS, z_letE]
  obtain ⟨x17, e17⟩ : ∃ x, x = z_sI y17 0 12 (x16.1 0 12) := ⟨_, rfl⟩
  rw [← e17]
  have g17 : ∀ k j, x17.1 k j = if k = 24 ∧ j = o + 97 then x16.1 0 12 else if k = 0 ∧ j = 44 then nI (o + 98) else x16.1 k j := fun k j => by
    rw [e17, sI1]
    by_cases q : k = 0 ∧ j = 12
    · rw [if_pos q, if_neg (by omega), if_neg (by omega), q.1, q.2]
    · rw [if_neg q, h17]
  have z17 : x17.2 = x16.2 := by rw [e17]; exact w17
  have x17k : x17.1 0 43 = 1 := by rw [g17, if_neg (by omega), if_neg (by omega)]; exact x16k
  have x17c : x17.1 0 44 = nI (o + 98) := by rw [g17, if_neg (by omega), if_pos ⟨rfl, rfl⟩]
  obtain ⟨y18, u18, w18, h18⟩ := mKeep1 (o + 98) (x17.1 0 13) x17 (by omega) x17k x17c
  simp only [u18, z_bindS, z_letE]
  obtain ⟨x18, e18⟩ : ∃ x, x = z_sI y18 0 13 (x17.1 0 13) := ⟨_, rfl⟩
  rw [← e18]
  have g18 : ∀ k j, x18.1 k j = if k = 24 ∧ j = o + 98 then x17.1 0 13 else if k = 0 ∧ j = 44 then nI (o + 99) else x17.1 k j := fun k j => by
    rw [e18, sI1]
    by_cases q : k = 0 ∧ j = 13
    · rw [if_pos q, if_neg (by omega), if_neg (by omega), q.1, q.2]
    · rw [if_neg q, h18]
  have z18 : x18.2 = x17.2 := by rw [e18]; exact w18
  have x18k : x18.1 0 43 = 1 := by rw [g18, if_neg (by omega), if_neg (by omega)]; exact x17k
  have x18c : x18.1 0 44 = nI (o + 99) := by rw [g18, if_neg (by omega), if_pos ⟨rfl, rfl⟩]
  have gl : ∀ k j, (z_sI x18 0 23 (x18.1 0 10)).1 k j = if k = 0 ∧ j = 23 then x18.1 0 10 else x18.1 k j := fun k j => sI1 _ _ _ _ _ _
  refine ⟨_, rfl, by rw [sI2, z18, z17, z16, z15, z14, z13, z12, z11, z10, z9, z8, z7, z6, z5, z4, z3, z2, z1, z0], ?_, ?_, ?_, ?_, ?_, ?_, ?_, ?_, ?_, ?_, ?_, ?_, ?_, ?_, ?_, ?_, ?_, ?_, ?_, ?_, ?_⟩
  · intro k j hk hj
    rw [gl, if_neg (by omega), g18, if_neg (by omega), if_neg (by omega), g17, if_neg (by omega), if_neg (by omega), g16, if_neg (by omega), if_neg (by omega), g15, if_neg (by omega), if_neg (by omega), g14, if_neg (by omega), if_neg (by omega), g13, if_neg (by omega), if_neg (by omega), g12, if_neg (by omega), if_neg (by omega), g11, if_neg (by omega), if_neg (by omega), g10, if_neg (by omega), if_neg (by omega), g9, if_neg (by omega), if_neg (by omega), g8, if_neg (by omega), if_neg (by omega), g7, if_neg (by omega), if_neg (by omega), g6, if_neg (by omega), if_neg (by omega), g5, if_neg (by omega), if_neg (by omega), g4, if_neg (by omega), if_neg (by omega), g3, if_neg (by omega), if_neg (by omega), g2, if_neg (by omega), if_neg (by omega), g1, if_neg (by omega), if_neg (by omega), g0, if_neg (by omega), if_neg (by omega)]
  · intro j hj
    rw [gl, if_neg (by omega), g18, if_neg (by omega), if_neg (by omega), g17, if_neg (by omega), if_neg (by omega), g16, if_neg (by omega), if_neg (by omega), g15, if_neg (by omega), if_neg (by omega), g14, if_neg (by omega), if_neg (by omega), g13, if_neg (by omega), if_neg (by omega), g12, if_neg (by omega), if_neg (by omega), g11, if_neg (by omega), if_neg (by omega), g10, if_neg (by omega), if_neg (by omega), g9, if_neg (by omega), if_neg (by omega), g8, if_neg (by omega), if_neg (by omega), g7, if_neg (by omega), if_neg (by omega), g6, if_neg (by omega), if_neg (by omega), g5, if_neg (by omega), if_neg (by omega), g4, if_neg (by omega), if_neg (by omega), g3, if_neg (by omega), if_neg (by omega), g2, if_neg (by omega), if_neg (by omega), g1, if_neg (by omega), if_neg (by omega), g0, if_neg (by omega), if_neg (by omega)]
  · intro i hi
    rw [gl, if_neg (by omega), g18, if_neg (by omega), if_neg (by omega), g17, if_neg (by omega), if_neg (by omega), g16, if_neg (by omega), if_neg (by omega), g15, if_neg (by omega), if_neg (by omega), g14, if_neg (by omega), if_neg (by omega), g13, if_neg (by omega), if_neg (by omega), g12, if_neg (by omega), if_neg (by omega), g11, if_neg (by omega), if_neg (by omega), g10, if_neg (by omega), if_neg (by omega), g9, if_neg (by omega), if_neg (by omega), g8, if_neg (by omega), if_neg (by omega), g7, if_neg (by omega), if_neg (by omega), g6, if_neg (by omega), if_neg (by omega), g5, if_neg (by omega), if_neg (by omega), g4, if_neg (by omega), if_neg (by omega), g3, if_neg (by omega), if_neg (by omega), g2, if_neg (by omega), if_neg (by omega), g1, if_pos (by omega), g0, if_neg (by omega), if_neg (by omega), show o + i - o = i by omega]
  · intro i hi
    rw [gl, if_neg (by omega), g18, if_neg (by omega), if_neg (by omega), g17, if_neg (by omega), if_neg (by omega), g16, if_neg (by omega), if_neg (by omega), g15, if_neg (by omega), if_neg (by omega), g14, if_neg (by omega), if_neg (by omega), g13, if_neg (by omega), if_neg (by omega), g12, if_neg (by omega), if_neg (by omega), g11, if_neg (by omega), if_neg (by omega), g10, if_neg (by omega), if_neg (by omega), g9, if_neg (by omega), if_neg (by omega), g8, if_neg (by omega), if_neg (by omega), g7, if_neg (by omega), if_neg (by omega), g6, if_neg (by omega), if_neg (by omega), g5, if_neg (by omega), if_neg (by omega), g4, if_neg (by omega), if_neg (by omega), g3, if_neg (by omega), if_neg (by omega), g2, if_pos (by omega), g1, if_neg (by omega), if_neg (by omega), g0, if_neg (by omega), if_neg (by omega), show o + 8 + i - (o + 8) = i by omega]
  · intro i hi
    rw [gl, if_neg (by omega), g18, if_neg (by omega), if_neg (by omega), g17, if_neg (by omega), if_neg (by omega), g16, if_neg (by omega), if_neg (by omega), g15, if_neg (by omega), if_neg (by omega), g14, if_neg (by omega), if_neg (by omega), g13, if_neg (by omega), if_neg (by omega), g12, if_neg (by omega), if_neg (by omega), g11, if_neg (by omega), if_neg (by omega), g10, if_neg (by omega), if_neg (by omega), g9, if_neg (by omega), if_neg (by omega), g8, if_neg (by omega), if_neg (by omega), g7, if_neg (by omega), if_neg (by omega), g6, if_neg (by omega), if_neg (by omega), g5, if_neg (by omega), if_neg (by omega), g4, if_neg (by omega), if_neg (by omega), g3, if_pos (by omega), g2, if_neg (by omega), if_neg (by omega), g1, if_neg (by omega), if_neg (by omega), g0, if_neg (by omega), if_neg (by omega), show o + 16 + i - (o + 16) = i by omega]
  · intro i hi
    rw [gl, if_neg (by omega), g18, if_neg (by omega), if_neg (by omega), g17, if_neg (by omega), if_neg (by omega), g16, if_neg (by omega), if_neg (by omega), g15, if_neg (by omega), if_neg (by omega), g14, if_neg (by omega), if_neg (by omega), g13, if_neg (by omega), if_neg (by omega), g12, if_neg (by omega), if_neg (by omega), g11, if_neg (by omega), if_neg (by omega), g10, if_neg (by omega), if_neg (by omega), g9, if_neg (by omega), if_neg (by omega), g8, if_neg (by omega), if_neg (by omega), g7, if_neg (by omega), if_neg (by omega), g6, if_neg (by omega), if_neg (by omega), g5, if_neg (by omega), if_neg (by omega), g4, if_pos (by omega), g3, if_neg (by omega), if_neg (by omega), g2, if_neg (by omega), if_neg (by omega), g1, if_neg (by omega), if_neg (by omega), g0, if_neg (by omega), if_neg (by omega), show o + 24 + i - (o + 24) = i by omega]
  · intro i hi
    rw [gl, if_neg (by omega), g18, if_neg (by omega), if_neg (by omega), g17, if_neg (by omega), if_neg (by omega), g16, if_neg (by omega), if_neg (by omega), g15, if_neg (by omega), if_neg (by omega), g14, if_neg (by omega), if_neg (by omega), g13, if_neg (by omega), if_neg (by omega), g12, if_neg (by omega), if_neg (by omega), g11, if_neg (by omega), if_neg (by omega), g10, if_neg (by omega), if_neg (by omega), g9, if_neg (by omega), if_neg (by omega), g8, if_neg (by omega), if_neg (by omega), g7, if_neg (by omega), if_neg (by omega), g6, if_neg (by omega), if_neg (by omega), g5, if_pos (by omega), g4, if_neg (by omega), if_neg (by omega), g3, if_neg (by omega), if_neg (by omega), g2, if_neg (by omega), if_neg (by omega), g1, if_neg (by omega), if_neg (by omega), g0, if_neg (by omega), if_neg (by omega), show o + 36 + i - (o + 36) = i by omega]
  · intro i hi
    rw [gl, if_neg (by omega), g18, if_neg (by omega), if_neg (by omega), g17, if_neg (by omega), if_neg (by omega), g16, if_neg (by omega), if_neg (by omega), g15, if_neg (by omega), if_neg (by omega), g14, if_neg (by omega), if_neg (by omega), g13, if_neg (by omega), if_neg (by omega), g12, if_neg (by omega), if_neg (by omega), g11, if_neg (by omega), if_neg (by omega), g10, if_neg (by omega), if_neg (by omega), g9, if_neg (by omega), if_neg (by omega), g8, if_neg (by omega), if_neg (by omega), g7, if_neg (by omega), if_neg (by omega), g6, if_pos (by omega), g5, if_neg (by omega), if_neg (by omega), g4, if_neg (by omega), if_neg (by omega), g3, if_neg (by omega), if_neg (by omega), g2, if_neg (by omega), if_neg (by omega), g1, if_neg (by omega), if_neg (by omega), g0, if_neg (by omega), if_neg (by omega), show o + 48 + i - (o + 48) = i by omega]
  · intro i hi
    rw [gl, if_neg (by omega), g18, if_neg (by omega), if_neg (by omega), g17, if_neg (by omega), if_neg (by omega), g16, if_neg (by omega), if_neg (by omega), g15, if_neg (by omega), if_neg (by omega), g14, if_neg (by omega), if_neg (by omega), g13, if_neg (by omega), if_neg (by omega), g12, if_neg (by omega), if_neg (by omega), g11, if_neg (by omega), if_neg (by omega), g10, if_neg (by omega), if_neg (by omega), g9, if_neg (by omega), if_neg (by omega), g8, if_neg (by omega), if_neg (by omega), g7, if_pos (by omega), g6, if_neg (by omega), if_neg (by omega), g5, if_neg (by omega), if_neg (by omega), g4, if_neg (by omega), if_neg (by omega), g3, if_neg (by omega), if_neg (by omega), g2, if_neg (by omega), if_neg (by omega), g1, if_neg (by omega), if_neg (by omega), g0, if_neg (by omega), if_neg (by omega), show o + 60 + i - (o + 60) = i by omega]
  · intro i hi
    rw [gl, if_neg (by omega), g18, if_neg (by omega), if_neg (by omega), g17, if_neg (by omega), if_neg (by omega), g16, if_neg (by omega), if_neg (by omega), g15, if_neg (by omega), if_neg (by omega), g14, if_neg (by omega), if_neg (by omega), g13, if_neg (by omega), if_neg (by omega), g12, if_neg (by omega), if_neg (by omega), g11, if_neg (by omega), if_neg (by omega), g10, if_neg (by omega), if_neg (by omega), g9, if_neg (by omega), if_neg (by omega), g8, if_pos (by omega), g7, if_neg (by omega), if_neg (by omega), g6, if_neg (by omega), if_neg (by omega), g5, if_neg (by omega), if_neg (by omega), g4, if_neg (by omega), if_neg (by omega), g3, if_neg (by omega), if_neg (by omega), g2, if_neg (by omega), if_neg (by omega), g1, if_neg (by omega), if_neg (by omega), g0, if_neg (by omega), if_neg (by omega), show o + 72 + i - (o + 72) = i by omega]
  · intro i hi
    rw [gl, if_neg (by omega), g18, if_neg (by omega), if_neg (by omega), g17, if_neg (by omega), if_neg (by omega), g16, if_neg (by omega), if_neg (by omega), g15, if_neg (by omega), if_neg (by omega), g14, if_neg (by omega), if_neg (by omega), g13, if_neg (by omega), if_neg (by omega), g12, if_neg (by omega), if_neg (by omega), g11, if_neg (by omega), if_neg (by omega), g10, if_neg (by omega), if_neg (by omega), g9, if_pos (by omega), g8, if_neg (by omega), if_neg (by omega), g7, if_neg (by omega), if_neg (by omega), g6, if_neg (by omega), if_neg (by omega), g5, if_neg (by omega), if_neg (by omega), g4, if_neg (by omega), if_neg (by omega), g3, if_neg (by omega), if_neg (by omega), g2, if_neg (by omega), if_neg (by omega), g1, if_neg (by omega), if_neg (by omega), g0, if_neg (by omega), if_neg (by omega), show o + 73 + i - (o + 73) = i by omega]
  · intro i hi
    rw [gl, if_neg (by omega), g18, if_neg (by omega), if_neg (by omega), g17, if_neg (by omega), if_neg (by omega), g16, if_neg (by omega), if_neg (by omega), g15, if_neg (by omega), if_neg (by omega), g14, if_neg (by omega), if_neg (by omega), g13, if_neg (by omega), if_neg (by omega), g12, if_neg (by omega), if_neg (by omega), g11, if_neg (by omega), if_neg (by omega), g10, if_pos (by omega), g9, if_neg (by omega), if_neg (by omega), g8, if_neg (by omega), if_neg (by omega), g7, if_neg (by omega), if_neg (by omega), g6, if_neg (by omega), if_neg (by omega), g5, if_neg (by omega), if_neg (by omega), g4, if_neg (by omega), if_neg (by omega), g3, if_neg (by omega), if_neg (by omega), g2, if_neg (by omega), if_neg (by omega), g1, if_neg (by omega), if_neg (by omega), g0, if_neg (by omega), if_neg (by omega), show o + 81 + i - (o + 81) = i by omega]
  · intro i hi
    rw [gl, if_neg (by omega), g18, if_neg (by omega), if_neg (by omega), g17, if_neg (by omega), if_neg (by omega), g16, if_neg (by omega), if_neg (by omega), g15, if_neg (by omega), if_neg (by omega), g14, if_neg (by omega), if_neg (by omega), g13, if_neg (by omega), if_neg (by omega), g12, if_neg (by omega), if_neg (by omega), g11, if_pos (by omega), g10, if_neg (by omega), if_neg (by omega), g9, if_neg (by omega), if_neg (by omega), g8, if_neg (by omega), if_neg (by omega), g7, if_neg (by omega), if_neg (by omega), g6, if_neg (by omega), if_neg (by omega), g5, if_neg (by omega), if_neg (by omega), g4, if_neg (by omega), if_neg (by omega), g3, if_neg (by omega), if_neg (by omega), g2, if_neg (by omega), if_neg (by omega), g1, if_neg (by omega), if_neg (by omega), g0, if_neg (by omega), if_neg (by omega), show o + 89 + i - (o + 89) = i by omega]
  · intro i hi
    rw [gl, if_neg (by omega), g18, if_neg (by omega), if_neg (by omega), g17, if_neg (by omega), if_neg (by omega), g16, if_neg (by omega), if_neg (by omega), g15, if_neg (by omega), if_neg (by omega), g14, if_neg (by omega), if_neg (by omega), g13, if_neg (by omega), if_neg (by omega), g12, if_pos (by omega), g11, if_neg (by omega), if_neg (by omega), g10, if_neg (by omega), if_neg (by omega), g9, if_neg (by omega), if_neg (by omega), g8, if_neg (by omega), if_neg (by omega), g7, if_neg (by omega), if_neg (by omega), g6, if_neg (by omega), if_neg (by omega), g5, if_neg (by omega), if_neg (by omega), g4, if_neg (by omega), if_neg (by omega), g3, if_neg (by omega), if_neg (by omega), g2, if_neg (by omega), if_neg (by omega), g1, if_neg (by omega), if_neg (by omega), g0, if_neg (by omega), if_neg (by omega), show o + 92 + i - (o + 92) = i by omega]
  · rw [gl, if_neg (by omega), g18, if_neg (by omega), if_neg (by omega), g17, if_neg (by omega), if_neg (by omega), g16, if_neg (by omega), if_neg (by omega), g15, if_neg (by omega), if_neg (by omega), g14, if_neg (by omega), if_neg (by omega), g13, if_pos (by omega), g12, if_neg (by omega), if_neg (by omega), g11, if_neg (by omega), if_neg (by omega), g10, if_neg (by omega), if_neg (by omega), g9, if_neg (by omega), if_neg (by omega), g8, if_neg (by omega), if_neg (by omega), g7, if_neg (by omega), if_neg (by omega), g6, if_neg (by omega), if_neg (by omega), g5, if_neg (by omega), if_neg (by omega), g4, if_neg (by omega), if_neg (by omega), g3, if_neg (by omega), if_neg (by omega), g2, if_neg (by omega), if_neg (by omega), g1, if_neg (by omega), if_neg (by omega), g0, if_neg (by omega), if_neg (by omega)]
  · rw [gl, if_neg (by omega), g18, if_neg (by omega), if_neg (by omega), g17, if_neg (by omega), if_neg (by omega), g16, if_neg (by omega), if_neg (by omega), g15, if_neg (by omega), if_neg (by omega), g14, if_pos (by omega), g13, if_neg (by omega), if_neg (by omega), g12, if_neg (by omega), if_neg (by omega), g11, if_neg (by omega), if_neg (by omega), g10, if_neg (by omega), if_neg (by omega), g9, if_neg (by omega), if_neg (by omega), g8, if_neg (by omega), if_neg (by omega), g7, if_neg (by omega), if_neg (by omega), g6, if_neg (by omega), if_neg (by omega), g5, if_neg (by omega), if_neg (by omega), g4, if_neg (by omega), if_neg (by omega), g3, if_neg (by omega), if_neg (by omega), g2, if_neg (by omega), if_neg (by omega), g1, if_neg (by omega), if_neg (by omega), g0, if_neg (by omega), if_neg (by omega)]
  · rw [gl, if_neg (by omega), g18, if_neg (by omega), if_neg (by omega), g17, if_neg (by omega), if_neg (by omega), g16, if_neg (by omega), if_neg (by omega), g15, if_pos (by omega), g14, if_neg (by omega), if_neg (by omega), g13, if_neg (by omega), if_neg (by omega), g12, if_neg (by omega), if_neg (by omega), g11, if_neg (by omega), if_neg (by omega), g10, if_neg (by omega), if_neg (by omega), g9, if_neg (by omega), if_neg (by omega), g8, if_neg (by omega), if_neg (by omega), g7, if_neg (by omega), if_neg (by omega), g6, if_neg (by omega), if_neg (by omega), g5, if_neg (by omega), if_neg (by omega), g4, if_neg (by omega), if_neg (by omega), g3, if_neg (by omega), if_neg (by omega), g2, if_neg (by omega), if_neg (by omega), g1, if_neg (by omega), if_neg (by omega), g0, if_neg (by omega), if_neg (by omega)]
  · rw [gl, if_neg (by omega), g18, if_neg (by omega), if_neg (by omega), g17, if_neg (by omega), if_neg (by omega), g16, if_pos (by omega), g15, if_neg (by omega), if_neg (by omega), g14, if_neg (by omega), if_neg (by omega), g13, if_neg (by omega), if_neg (by omega), g12, if_neg (by omega), if_neg (by omega), g11, if_neg (by omega), if_neg (by omega), g10, if_neg (by omega), if_neg (by omega), g9, if_neg (by omega), if_neg (by omega), g8, if_neg (by omega), if_neg (by omega), g7, if_neg (by omega), if_neg (by omega), g6, if_neg (by omega), if_neg (by omega), g5, if_neg (by omega), if_neg (by omega), g4, if_neg (by omega), if_neg (by omega), g3, if_neg (by omega), if_neg (by omega), g2, if_neg (by omega), if_neg (by omega), g1, if_neg (by omega), if_neg (by omega), g0, if_neg (by omega), if_neg (by omega)]
  · rw [gl, if_neg (by omega), g18, if_neg (by omega), if_neg (by omega), g17, if_pos (by omega), g16, if_neg (by omega), if_neg (by omega), g15, if_neg (by omega), if_neg (by omega), g14, if_neg (by omega), if_neg (by omega), g13, if_neg (by omega), if_neg (by omega), g12, if_neg (by omega), if_neg (by omega), g11, if_neg (by omega), if_neg (by omega), g10, if_neg (by omega), if_neg (by omega), g9, if_neg (by omega), if_neg (by omega), g8, if_neg (by omega), if_neg (by omega), g7, if_neg (by omega), if_neg (by omega), g6, if_neg (by omega), if_neg (by omega), g5, if_neg (by omega), if_neg (by omega), g4, if_neg (by omega), if_neg (by omega), g3, if_neg (by omega), if_neg (by omega), g2, if_neg (by omega), if_neg (by omega), g1, if_neg (by omega), if_neg (by omega), g0, if_neg (by omega), if_neg (by omega)]
  · rw [gl, if_neg (by omega), g18, if_pos (by omega), g17, if_neg (by omega), if_neg (by omega), g16, if_neg (by omega), if_neg (by omega), g15, if_neg (by omega), if_neg (by omega), g14, if_neg (by omega), if_neg (by omega), g13, if_neg (by omega), if_neg (by omega), g12, if_neg (by omega), if_neg (by omega), g11, if_neg (by omega), if_neg (by omega), g10, if_neg (by omega), if_neg (by omega), g9, if_neg (by omega), if_neg (by omega), g8, if_neg (by omega), if_neg (by omega), g7, if_neg (by omega), if_neg (by omega), g6, if_neg (by omega), if_neg (by omega), g5, if_neg (by omega), if_neg (by omega), g4, if_neg (by omega), if_neg (by omega), g3, if_neg (by omega), if_neg (by omega), g2, if_neg (by omega), if_neg (by omega), g1, if_neg (by omega), if_neg (by omega), g0, if_neg (by omega), if_neg (by omega)]
  · rw [gl, if_pos ⟨rfl, rfl⟩, g18, if_neg (by omega), if_neg (by omega), g17, if_neg (by omega), if_neg (by omega), g16, if_neg (by omega), if_neg (by omega), g15, if_neg (by omega), if_neg (by omega), g14, if_neg (by omega), if_neg (by omega), g13, if_neg (by omega), if_neg (by omega), g12, if_neg (by omega), if_neg (by omega), g11, if_neg (by omega), if_neg (by omega), g10, if_neg (by omega), if_neg (by omega), g9, if_neg (by omega), if_neg (by omega), g8, if_neg (by omega), if_neg (by omega), g7, if_neg (by omega), if_neg (by omega), g6, if_neg (by omega), if_neg (by omega), g5, if_neg (by omega), if_neg (by omega), g4, if_neg (by omega), if_neg (by omega), g3, if_neg (by omega), if_neg (by omega), g2, if_neg (by omega), if_neg (by omega), g1, if_neg (by omega), if_neg (by omega), g0, if_neg (by omega), if_neg (by omega)]
theorem mPassB {o w : Nat} (ho : o = 200 * w) (hw : w < 2) (ν : z_M) : ∃ ν', f_X9_passesAll 100 (nI w) 0 ν = some ((), ν') ∧ ν'.2 = ν.2 ∧ (∀ k j, (k ≠ 2 ∨ 8 ≤ j) → (k ≠ 3 ∨ 8 ≤ j) → (k ≠ 4 ∨ 8 ≤ j) → (k ≠ 5 ∨ 12 ≤ j) → (k ≠ 6 ∨ 12 ≤ j) → (k ≠ 7 ∨ 12 ≤ j) → (k ≠ 8 ∨ 12 ≤ j) → (k ≠ 9 ∨ 1 ≤ j) → (k ≠ 10 ∨ 8 ≤ j) → (k ≠ 11 ∨ 8 ≤ j) → (k ≠ 13 ∨ 3 ≤ j) → (k ≠ 14 ∨ 1 ≤ j) → (k ≠ 0 ∨ (j < 8 ∨ (13 < j ∧ j ≠ 23 ∧ j ≠ 43 ∧ j ≠ 44))) → ν'.1 k j = ν.1 k j) ∧ (∀ i, i < 8 → ν'.1 2 i = ν.1 24 (o + i)) ∧ (∀ i, i < 8 → ν'.1 3 i = ν.1 24 (o + 8 + i)) ∧ (∀ i, i < 8 → ν'.1 4 i = ν.1 24 (o + 16 + i)) ∧ (∀ i, i < 12 → ν'.1 5 i = ν.1 24 (o + 24 + i)) ∧ (∀ i, i < 12 → ν'.1 6 i = ν.1 24 (o + 36 + i)) ∧ (∀ i, i < 12 → ν'.1 7 i = ν.1 24 (o + 48 + i)) ∧ (∀ i, i < 12 → ν'.1 8 i = ν.1 24 (o + 60 + i)) ∧ (∀ i, i < 1 → ν'.1 9 i = ν.1 24 (o + 72 + i)) ∧ (∀ i, i < 8 → ν'.1 10 i = ν.1 24 (o + 73 + i)) ∧ (∀ i, i < 8 → ν'.1 11 i = ν.1 24 (o + 81 + i)) ∧ (∀ i, i < 3 → ν'.1 13 i = ν.1 24 (o + 89 + i)) ∧ (∀ i, i < 1 → ν'.1 14 i = ν.1 24 (o + 92 + i)) ∧ ν'.1 0 8 = ν.1 24 (o + 93) ∧ ν'.1 0 9 = ν.1 24 (o + 94) ∧ ν'.1 0 10 = ν.1 24 (o + 95) ∧ ν'.1 0 11 = ν.1 24 (o + 96) ∧ ν'.1 0 12 = ν.1 24 (o + 97) ∧ ν'.1 0 13 = ν.1 24 (o + 98) ∧ ν'.1 0 23 = ν.1 24 (o + 95) := by
  unfold f_X9_passesAll
  rw [show (200 : Int32) * nI w = nI o from by rw [ho, show (200 : Int32) = nI 200 from rfl, nI_mulN], z_letE, z_boolE (by exact Or.inl rfl), z_letE]
  obtain ⟨x0, e0⟩ : ∃ x, x = z_sI (z_sI ν 0 44 (nI o)) 0 43 0 := ⟨_, rfl⟩
  rw [← e0]
  have g0 : ∀ k j, x0.1 k j = if k = 0 ∧ j = 43 then 0 else if k = 0 ∧ j = 44 then nI o else ν.1 k j := fun k j => by rw [e0, sI1, sI1]
  have z0 : x0.2 = ν.2 := by rw [e0]; rfl
  have x0k : x0.1 0 43 = 0 := by rw [g0, if_pos ⟨rfl, rfl⟩]
  have x0c : x0.1 0 44 = nI o := by rw [g0, if_neg (by omega), if_pos ⟨rfl, rfl⟩]
  obtain ⟨x1, u1, z1, g1⟩ := mBack (a := 2) (n0 := 8) (by decide) (by decide) (by decide) 8 o x0 (by decide) (by omega) (by decide) x0k x0c
  have u1' : f_X9_passes 2 8 100 8 x0 = some ((), x1) := u1
  rw [u1', z_bindS]
  have x1k : x1.1 0 43 = 0 := by rw [g1, if_neg (by omega), if_neg (by omega)]; exact x0k
  have x1c : x1.1 0 44 = nI (o + 8) := by rw [g1, if_neg (by omega), if_pos ⟨rfl, rfl⟩]
  obtain ⟨x2, u2, z2, g2⟩ := mBack (a := 3) (n0 := 8) (by decide) (by decide) (by decide) 8 (o + 8) x1 (by decide) (by omega) (by decide) x1k x1c
  have u2' : f_X9_passes 3 8 100 8 x1 = some ((), x2) := u2
  rw [u2', z_bindS]
  have x2k : x2.1 0 43 = 0 := by rw [g2, if_neg (by omega), if_neg (by omega)]; exact x1k
  have x2c : x2.1 0 44 = nI (o + 16) := by rw [g2, if_neg (by omega), if_pos ⟨rfl, rfl⟩]
  obtain ⟨x3, u3, z3, g3⟩ := mBack (a := 4) (n0 := 8) (by decide) (by decide) (by decide) 8 (o + 16) x2 (by decide) (by omega) (by decide) x2k x2c
  have u3' : f_X9_passes 4 8 100 8 x2 = some ((), x3) := u3
  rw [u3', z_bindS]
  have x3k : x3.1 0 43 = 0 := by rw [g3, if_neg (by omega), if_neg (by omega)]; exact x2k
  have x3c : x3.1 0 44 = nI (o + 24) := by rw [g3, if_neg (by omega), if_pos ⟨rfl, rfl⟩]
  obtain ⟨x4, u4, z4, g4⟩ := mBack (a := 5) (n0 := 12) (by decide) (by decide) (by decide) 12 (o + 24) x3 (by decide) (by omega) (by decide) x3k x3c
  have u4' : f_X9_passes 5 12 100 12 x3 = some ((), x4) := u4
  rw [u4', z_bindS]
  have x4k : x4.1 0 43 = 0 := by rw [g4, if_neg (by omega), if_neg (by omega)]; exact x3k
  have x4c : x4.1 0 44 = nI (o + 36) := by rw [g4, if_neg (by omega), if_pos ⟨rfl, rfl⟩]
  obtain ⟨x5, u5, z5, g5⟩ := mBack (a := 6) (n0 := 12) (by decide) (by decide) (by decide) 12 (o + 36) x4 (by decide) (by omega) (by decide) x4k x4c
  have u5' : f_X9_passes 6 12 100 12 x4 = some ((), x5) := u5
  rw [u5', z_bindS]
  have x5k : x5.1 0 43 = 0 := by rw [g5, if_neg (by omega), if_neg (by omega)]; exact x4k
  have x5c : x5.1 0 44 = nI (o + 48) := by rw [g5, if_neg (by omega), if_pos ⟨rfl, rfl⟩]
  obtain ⟨x6, u6, z6, g6⟩ := mBack (a := 7) (n0 := 12) (by decide) (by decide) (by decide) 12 (o + 48) x5 (by decide) (by omega) (by decide) x5k x5c
  have u6' : f_X9_passes 7 12 100 12 x5 = some ((), x6) := u6
  rw [u6', z_bindS]
  have x6k : x6.1 0 43 = 0 := by rw [g6, if_neg (by omega), if_neg (by omega)]; exact x5k
  have x6c : x6.1 0 44 = nI (o + 60) := by rw [g6, if_neg (by omega), if_pos ⟨rfl, rfl⟩]
  obtain ⟨x7, u7, z7, g7⟩ := mBack (a := 8) (n0 := 12) (by decide) (by decide) (by decide) 12 (o + 60) x6 (by decide) (by omega) (by decide) x6k x6c
  have u7' : f_X9_passes 8 12 100 12 x6 = some ((), x7) := u7
  rw [u7', z_bindS]
  have x7k : x7.1 0 43 = 0 := by rw [g7, if_neg (by omega), if_neg (by omega)]; exact x6k
  have x7c : x7.1 0 44 = nI (o + 72) := by rw [g7, if_neg (by omega), if_pos ⟨rfl, rfl⟩]
  obtain ⟨x8, u8, z8, g8⟩ := mBack (a := 9) (n0 := 9) (by decide) (by decide) (by decide) 1 (o + 72) x7 (by decide) (by omega) (by decide) x7k x7c
  have u8' : f_X9_passes 9 9 100 1 x7 = some ((), x8) := u8
  rw [u8', z_bindS]
  have x8k : x8.1 0 43 = 0 := by rw [g8, if_neg (by omega), if_neg (by omega)]; exact x7k
  have x8c : x8.1 0 44 = nI (o + 73) := by rw [g8, if_neg (by omega), if_pos ⟨rfl, rfl⟩]
  obtain ⟨x9, u9, z9, g9⟩ := mBack (a := 10) (n0 := 72) (by decide) (by decide) (by decide) 8 (o + 73) x8 (by decide) (by omega) (by decide) x8k x8c
  have u9' : f_X9_passes 10 72 100 8 x8 = some ((), x9) := u9
  rw [u9', z_bindS]
  have x9k : x9.1 0 43 = 0 := by rw [g9, if_neg (by omega), if_neg (by omega)]; exact x8k
  have x9c : x9.1 0 44 = nI (o + 81) := by rw [g9, if_neg (by omega), if_pos ⟨rfl, rfl⟩]
  obtain ⟨x10, u10, z10, g10⟩ := mBack (a := 11) (n0 := 72) (by decide) (by decide) (by decide) 8 (o + 81) x9 (by decide) (by omega) (by decide) x9k x9c
  have u10' : f_X9_passes 11 72 100 8 x9 = some ((), x10) := u10
  rw [u10', z_bindS]
  have x10k : x10.1 0 43 = 0 := by rw [g10, if_neg (by omega), if_neg (by omega)]; exact x9k
  have x10c : x10.1 0 44 = nI (o + 89) := by rw [g10, if_neg (by omega), if_pos ⟨rfl, rfl⟩]
  obtain ⟨x11, u11, z11, g11⟩ := mBack (a := 13) (n0 := 27) (by decide) (by decide) (by decide) 3 (o + 89) x10 (by decide) (by omega) (by decide) x10k x10c
  have u11' : f_X9_passes 13 27 100 3 x10 = some ((), x11) := u11
  rw [u11', z_bindS]
  have x11k : x11.1 0 43 = 0 := by rw [g11, if_neg (by omega), if_neg (by omega)]; exact x10k
  have x11c : x11.1 0 44 = nI (o + 92) := by rw [g11, if_neg (by omega), if_pos ⟨rfl, rfl⟩]
  obtain ⟨x12, u12, z12, g12⟩ := mBack (a := 14) (n0 := 9) (by decide) (by decide) (by decide) 1 (o + 92) x11 (by decide) (by omega) (by decide) x11k x11c
  have u12' : f_X9_passes 14 9 100 1 x11 = some ((), x12) := u12
  rw [u12', z_bindS]
  have x12k : x12.1 0 43 = 0 := by rw [g12, if_neg (by omega), if_neg (by omega)]; exact x11k
  have x12c : x12.1 0 44 = nI (o + 93) := by rw [g12, if_neg (by omega), if_pos ⟨rfl, rfl⟩]
  obtain ⟨y13, u13, w13, h13⟩ := mBack1 (o + 93) (x12.1 0 8) x12 (by omega) x12k x12c
  simp only [u13, z_bindS, z_letE]
  obtain ⟨x13, e13⟩ : ∃ x, x = z_sI y13 0 8 (x12.1 24 (o + 93)) := ⟨_, rfl⟩
  rw [← e13]
  have g13 : ∀ k j, x13.1 k j = if k = 0 ∧ j = 8 then x12.1 24 (o + 93) else if k = 0 ∧ j = 44 then nI (o + 94) else x12.1 k j := fun k j => by
    rw [e13, sI1, h13]
  have z13 : x13.2 = x12.2 := by rw [e13]; exact w13
  have x13k : x13.1 0 43 = 0 := by rw [g13, if_neg (by omega), if_neg (by omega)]; exact x12k
  have x13c : x13.1 0 44 = nI (o + 94) := by rw [g13, if_neg (by omega), if_pos ⟨rfl, rfl⟩]
  obtain ⟨y14, u14, w14, h14⟩ := mBack1 (o + 94) (x13.1 0 9) x13 (by omega) x13k x13c
  simp only [u14, z_bindS, z_letE]
  obtain ⟨x14, e14⟩ : ∃ x, x = z_sI y14 0 9 (x13.1 24 (o + 94)) := ⟨_, rfl⟩
  rw [← e14]
  have g14 : ∀ k j, x14.1 k j = if k = 0 ∧ j = 9 then x13.1 24 (o + 94) else if k = 0 ∧ j = 44 then nI (o + 95) else x13.1 k j := fun k j => by
    rw [e14, sI1, h14]
  have z14 : x14.2 = x13.2 := by rw [e14]; exact w14
  have x14k : x14.1 0 43 = 0 := by rw [g14, if_neg (by omega), if_neg (by omega)]; exact x13k
  have x14c : x14.1 0 44 = nI (o + 95) := by rw [g14, if_neg (by omega), if_pos ⟨rfl, rfl⟩]
  obtain ⟨y15, u15, w15, h15⟩ := mBack1 (o + 95) (x14.1 0 10) x14 (by omega) x14k x14c
  simp only [u15, z_bindS, z_letE]
  obtain ⟨x15, e15⟩ : ∃ x, x = z_sI y15 0 10 (x14.1 24 (o + 95)) := ⟨_, rfl⟩
  rw [← e15]
  have g15 : ∀ k j, x15.1 k j = if k = 0 ∧ j = 10 then x14.1 24 (o + 95) else if k = 0 ∧ j = 44 then nI (o + 96) else x14.1 k j := fun k j => by
    rw [e15, sI1, h15]
  have z15 : x15.2 = x14.2 := by rw [e15]; exact w15
  have x15k : x15.1 0 43 = 0 := by rw [g15, if_neg (by omega), if_neg (by omega)]; exact x14k
  have x15c : x15.1 0 44 = nI (o + 96) := by rw [g15, if_neg (by omega), if_pos ⟨rfl, rfl⟩]
  obtain ⟨y16, u16, w16, h16⟩ := mBack1 (o + 96) (x15.1 0 11) x15 (by omega) x15k x15c
  simp only [u16, z_bindS, z_letE]
  obtain ⟨x16, e16⟩ : ∃ x, x = z_sI y16 0 11 (x15.1 24 (o + 96)) := ⟨_, rfl⟩
  rw [← e16]
  have g16 : ∀ k j, x16.1 k j = if k = 0 ∧ j = 11 then x15.1 24 (o + 96) else if k = 0 ∧ j = 44 then nI (o + 97) else x15.1 k j := fun k j => by
    rw [e16, sI1, h16]
  have z16 : x16.2 = x15.2 := by rw [e16]; exact w16
  have x16k : x16.1 0 43 = 0 := by rw [g16, if_neg (by omega), if_neg (by omega)]; exact x15k
  have x16c : x16.1 0 44 = nI (o + 97) := by rw [g16, if_neg (by omega), if_pos ⟨rfl, rfl⟩]
  obtain ⟨y17, u17, w17, h17⟩ := mBack1 (o + 97) (x16.1 0 12) x16 (by omega) x16k x16c
  simp only [u17, z_bindS, z_letE]
  obtain ⟨x17, e17⟩ : ∃ x, x = z_sI y17 0 12 (x16.1 24 (o + 97)) := ⟨_, rfl⟩
  rw [← e17]
  have g17 : ∀ k j, x17.1 k j = if k = 0 ∧ j = 12 then x16.1 24 (o + 97) else if k = 0 ∧ j = 44 then nI (o + 98) else x16.1 k j := fun k j => by
    rw [e17, sI1, h17]
  have z17 : x17.2 = x16.2 := by rw [e17]; exact w17
  have x17k : x17.1 0 43 = 0 := by rw [g17, if_neg (by omega), if_neg (by omega)]; exact x16k
  have x17c : x17.1 0 44 = nI (o + 98) := by rw [g17, if_neg (by omega), if_pos ⟨rfl, rfl⟩]
  obtain ⟨y18, u18, w18, h18⟩ := mBack1 (o + 98) (x17.1 0 13) x17 (by omega) x17k x17c
  simp only [u18, z_bindS, z_letE]
  obtain ⟨x18, e18⟩ : ∃ x, x = z_sI y18 0 13 (x17.1 24 (o + 98)) := ⟨_, rfl⟩
  rw [← e18]
  have g18 : ∀ k j, x18.1 k j = if k = 0 ∧ j = 13 then x17.1 24 (o + 98) else if k = 0 ∧ j = 44 then nI (o + 99) else x17.1 k j := fun k j => by
    rw [e18, sI1, h18]
  have z18 : x18.2 = x17.2 := by rw [e18]; exact w18
  have x18k : x18.1 0 43 = 0 := by rw [g18, if_neg (by omega), if_neg (by omega)]; exact x17k
  have x18c : x18.1 0 44 = nI (o + 99) := by rw [g18, if_neg (by omega), if_pos ⟨rfl, rfl⟩]
  have gl : ∀ k j, (z_sI x18 0 23 (x18.1 0 10)).1 k j = if k = 0 ∧ j = 23 then x18.1 0 10 else x18.1 k j := fun k j => sI1 _ _ _ _ _ _
  refine ⟨_, rfl, by rw [sI2, z18, z17, z16, z15, z14, z13, z12, z11, z10, z9, z8, z7, z6, z5, z4, z3, z2, z1, z0], ?_, ?_, ?_, ?_, ?_, ?_, ?_, ?_, ?_, ?_, ?_, ?_, ?_, ?_, ?_, ?_, ?_, ?_, ?_, ?_⟩
  · intro k j q0 q1 q2 q3 q4 q5 q6 q7 q8 q9 q10 q11 q
    rw [gl, if_neg (by omega), g18, if_neg (by omega), if_neg (by omega), g17, if_neg (by omega), if_neg (by omega), g16, if_neg (by omega), if_neg (by omega), g15, if_neg (by omega), if_neg (by omega), g14, if_neg (by omega), if_neg (by omega), g13, if_neg (by omega), if_neg (by omega), g12, if_neg (by omega), if_neg (by omega), g11, if_neg (by omega), if_neg (by omega), g10, if_neg (by omega), if_neg (by omega), g9, if_neg (by omega), if_neg (by omega), g8, if_neg (by omega), if_neg (by omega), g7, if_neg (by omega), if_neg (by omega), g6, if_neg (by omega), if_neg (by omega), g5, if_neg (by omega), if_neg (by omega), g4, if_neg (by omega), if_neg (by omega), g3, if_neg (by omega), if_neg (by omega), g2, if_neg (by omega), if_neg (by omega), g1, if_neg (by omega), if_neg (by omega), g0, if_neg (by omega), if_neg (by omega)]
  · intro i hi
    rw [gl, if_neg (by omega), g18, if_neg (by omega), if_neg (by omega), g17, if_neg (by omega), if_neg (by omega), g16, if_neg (by omega), if_neg (by omega), g15, if_neg (by omega), if_neg (by omega), g14, if_neg (by omega), if_neg (by omega), g13, if_neg (by omega), if_neg (by omega), g12, if_neg (by omega), if_neg (by omega), g11, if_neg (by omega), if_neg (by omega), g10, if_neg (by omega), if_neg (by omega), g9, if_neg (by omega), if_neg (by omega), g8, if_neg (by omega), if_neg (by omega), g7, if_neg (by omega), if_neg (by omega), g6, if_neg (by omega), if_neg (by omega), g5, if_neg (by omega), if_neg (by omega), g4, if_neg (by omega), if_neg (by omega), g3, if_neg (by omega), if_neg (by omega), g2, if_neg (by omega), if_neg (by omega), g1, if_pos (by omega), g0, if_neg (by omega), if_neg (by omega)]
  · intro i hi
    rw [gl, if_neg (by omega), g18, if_neg (by omega), if_neg (by omega), g17, if_neg (by omega), if_neg (by omega), g16, if_neg (by omega), if_neg (by omega), g15, if_neg (by omega), if_neg (by omega), g14, if_neg (by omega), if_neg (by omega), g13, if_neg (by omega), if_neg (by omega), g12, if_neg (by omega), if_neg (by omega), g11, if_neg (by omega), if_neg (by omega), g10, if_neg (by omega), if_neg (by omega), g9, if_neg (by omega), if_neg (by omega), g8, if_neg (by omega), if_neg (by omega), g7, if_neg (by omega), if_neg (by omega), g6, if_neg (by omega), if_neg (by omega), g5, if_neg (by omega), if_neg (by omega), g4, if_neg (by omega), if_neg (by omega), g3, if_neg (by omega), if_neg (by omega), g2, if_pos (by omega), g1, if_neg (by omega), if_neg (by omega), g0, if_neg (by omega), if_neg (by omega)]
  · intro i hi
    rw [gl, if_neg (by omega), g18, if_neg (by omega), if_neg (by omega), g17, if_neg (by omega), if_neg (by omega), g16, if_neg (by omega), if_neg (by omega), g15, if_neg (by omega), if_neg (by omega), g14, if_neg (by omega), if_neg (by omega), g13, if_neg (by omega), if_neg (by omega), g12, if_neg (by omega), if_neg (by omega), g11, if_neg (by omega), if_neg (by omega), g10, if_neg (by omega), if_neg (by omega), g9, if_neg (by omega), if_neg (by omega), g8, if_neg (by omega), if_neg (by omega), g7, if_neg (by omega), if_neg (by omega), g6, if_neg (by omega), if_neg (by omega), g5, if_neg (by omega), if_neg (by omega), g4, if_neg (by omega), if_neg (by omega), g3, if_pos (by omega), g2, if_neg (by omega), if_neg (by omega), g1, if_neg (by omega), if_neg (by omega), g0, if_neg (by omega), if_neg (by omega)]
  · intro i hi
    rw [gl, if_neg (by omega), g18, if_neg (by omega), if_neg (by omega), g17, if_neg (by omega), if_neg (by omega), g16, if_neg (by omega), if_neg (by omega), g15, if_neg (by omega), if_neg (by omega), g14, if_neg (by omega), if_neg (by omega), g13, if_neg (by omega), if_neg (by omega), g12, if_neg (by omega), if_neg (by omega), g11, if_neg (by omega), if_neg (by omega), g10, if_neg (by omega), if_neg (by omega), g9, if_neg (by omega), if_neg (by omega), g8, if_neg (by omega), if_neg (by omega), g7, if_neg (by omega), if_neg (by omega), g6, if_neg (by omega), if_neg (by omega), g5, if_neg (by omega), if_neg (by omega), g4, if_pos (by omega), g3, if_neg (by omega), if_neg (by omega), g2, if_neg (by omega), if_neg (by omega), g1, if_neg (by omega), if_neg (by omega), g0, if_neg (by omega), if_neg (by omega)]
  · intro i hi
    rw [gl, if_neg (by omega), g18, if_neg (by omega), if_neg (by omega), g17, if_neg (by omega), if_neg (by omega), g16, if_neg (by omega), if_neg (by omega), g15, if_neg (by omega), if_neg (by omega), g14, if_neg (by omega), if_neg (by omega), g13, if_neg (by omega), if_neg (by omega), g12, if_neg (by omega), if_neg (by omega), g11, if_neg (by omega), if_neg (by omega), g10, if_neg (by omega), if_neg (by omega), g9, if_neg (by omega), if_neg (by omega), g8, if_neg (by omega), if_neg (by omega), g7, if_neg (by omega), if_neg (by omega), g6, if_neg (by omega), if_neg (by omega), g5, if_pos (by omega), g4, if_neg (by omega), if_neg (by omega), g3, if_neg (by omega), if_neg (by omega), g2, if_neg (by omega), if_neg (by omega), g1, if_neg (by omega), if_neg (by omega), g0, if_neg (by omega), if_neg (by omega)]
  · intro i hi
    rw [gl, if_neg (by omega), g18, if_neg (by omega), if_neg (by omega), g17, if_neg (by omega), if_neg (by omega), g16, if_neg (by omega), if_neg (by omega), g15, if_neg (by omega), if_neg (by omega), g14, if_neg (by omega), if_neg (by omega), g13, if_neg (by omega), if_neg (by omega), g12, if_neg (by omega), if_neg (by omega), g11, if_neg (by omega), if_neg (by omega), g10, if_neg (by omega), if_neg (by omega), g9, if_neg (by omega), if_neg (by omega), g8, if_neg (by omega), if_neg (by omega), g7, if_neg (by omega), if_neg (by omega), g6, if_pos (by omega), g5, if_neg (by omega), if_neg (by omega), g4, if_neg (by omega), if_neg (by omega), g3, if_neg (by omega), if_neg (by omega), g2, if_neg (by omega), if_neg (by omega), g1, if_neg (by omega), if_neg (by omega), g0, if_neg (by omega), if_neg (by omega)]
  · intro i hi
    rw [gl, if_neg (by omega), g18, if_neg (by omega), if_neg (by omega), g17, if_neg (by omega), if_neg (by omega), g16, if_neg (by omega), if_neg (by omega), g15, if_neg (by omega), if_neg (by omega), g14, if_neg (by omega), if_neg (by omega), g13, if_neg (by omega), if_neg (by omega), g12, if_neg (by omega), if_neg (by omega), g11, if_neg (by omega), if_neg (by omega), g10, if_neg (by omega), if_neg (by omega), g9, if_neg (by omega), if_neg (by omega), g8, if_neg (by omega), if_neg (by omega), g7, if_pos (by omega), g6, if_neg (by omega), if_neg (by omega), g5, if_neg (by omega), if_neg (by omega), g4, if_neg (by omega), if_neg (by omega), g3, if_neg (by omega), if_neg (by omega), g2, if_neg (by omega), if_neg (by omega), g1, if_neg (by omega), if_neg (by omega), g0, if_neg (by omega), if_neg (by omega)]
  · intro i hi
    rw [gl, if_neg (by omega), g18, if_neg (by omega), if_neg (by omega), g17, if_neg (by omega), if_neg (by omega), g16, if_neg (by omega), if_neg (by omega), g15, if_neg (by omega), if_neg (by omega), g14, if_neg (by omega), if_neg (by omega), g13, if_neg (by omega), if_neg (by omega), g12, if_neg (by omega), if_neg (by omega), g11, if_neg (by omega), if_neg (by omega), g10, if_neg (by omega), if_neg (by omega), g9, if_neg (by omega), if_neg (by omega), g8, if_pos (by omega), g7, if_neg (by omega), if_neg (by omega), g6, if_neg (by omega), if_neg (by omega), g5, if_neg (by omega), if_neg (by omega), g4, if_neg (by omega), if_neg (by omega), g3, if_neg (by omega), if_neg (by omega), g2, if_neg (by omega), if_neg (by omega), g1, if_neg (by omega), if_neg (by omega), g0, if_neg (by omega), if_neg (by omega)]
  · intro i hi
    rw [gl, if_neg (by omega), g18, if_neg (by omega), if_neg (by omega), g17, if_neg (by omega), if_neg (by omega), g16, if_neg (by omega), if_neg (by omega), g15, if_neg (by omega), if_neg (by omega), g14, if_neg (by omega), if_neg (by omega), g13, if_neg (by omega), if_neg (by omega), g12, if_neg (by omega), if_neg (by omega), g11, if_neg (by omega), if_neg (by omega), g10, if_neg (by omega), if_neg (by omega), g9, if_pos (by omega), g8, if_neg (by omega), if_neg (by omega), g7, if_neg (by omega), if_neg (by omega), g6, if_neg (by omega), if_neg (by omega), g5, if_neg (by omega), if_neg (by omega), g4, if_neg (by omega), if_neg (by omega), g3, if_neg (by omega), if_neg (by omega), g2, if_neg (by omega), if_neg (by omega), g1, if_neg (by omega), if_neg (by omega), g0, if_neg (by omega), if_neg (by omega)]
  · intro i hi
    rw [gl, if_neg (by omega), g18, if_neg (by omega), if_neg (by omega), g17, if_neg (by omega), if_neg (by omega), g16, if_neg (by omega), if_neg (by omega), g15, if_neg (by omega), if_neg (by omega), g14, if_neg (by omega), if_neg (by omega), g13, if_neg (by omega), if_neg (by omega), g12, if_neg (by omega), if_neg (by omega), g11, if_neg (by omega), if_neg (by omega), g10, if_pos (by omega), g9, if_neg (by omega), if_neg (by omega), g8, if_neg (by omega), if_neg (by omega), g7, if_neg (by omega), if_neg (by omega), g6, if_neg (by omega), if_neg (by omega), g5, if_neg (by omega), if_neg (by omega), g4, if_neg (by omega), if_neg (by omega), g3, if_neg (by omega), if_neg (by omega), g2, if_neg (by omega), if_neg (by omega), g1, if_neg (by omega), if_neg (by omega), g0, if_neg (by omega), if_neg (by omega)]
  · intro i hi
    rw [gl, if_neg (by omega), g18, if_neg (by omega), if_neg (by omega), g17, if_neg (by omega), if_neg (by omega), g16, if_neg (by omega), if_neg (by omega), g15, if_neg (by omega), if_neg (by omega), g14, if_neg (by omega), if_neg (by omega), g13, if_neg (by omega), if_neg (by omega), g12, if_neg (by omega), if_neg (by omega), g11, if_pos (by omega), g10, if_neg (by omega), if_neg (by omega), g9, if_neg (by omega), if_neg (by omega), g8, if_neg (by omega), if_neg (by omega), g7, if_neg (by omega), if_neg (by omega), g6, if_neg (by omega), if_neg (by omega), g5, if_neg (by omega), if_neg (by omega), g4, if_neg (by omega), if_neg (by omega), g3, if_neg (by omega), if_neg (by omega), g2, if_neg (by omega), if_neg (by omega), g1, if_neg (by omega), if_neg (by omega), g0, if_neg (by omega), if_neg (by omega)]
  · intro i hi
    rw [gl, if_neg (by omega), g18, if_neg (by omega), if_neg (by omega), g17, if_neg (by omega), if_neg (by omega), g16, if_neg (by omega), if_neg (by omega), g15, if_neg (by omega), if_neg (by omega), g14, if_neg (by omega), if_neg (by omega), g13, if_neg (by omega), if_neg (by omega), g12, if_pos (by omega), g11, if_neg (by omega), if_neg (by omega), g10, if_neg (by omega), if_neg (by omega), g9, if_neg (by omega), if_neg (by omega), g8, if_neg (by omega), if_neg (by omega), g7, if_neg (by omega), if_neg (by omega), g6, if_neg (by omega), if_neg (by omega), g5, if_neg (by omega), if_neg (by omega), g4, if_neg (by omega), if_neg (by omega), g3, if_neg (by omega), if_neg (by omega), g2, if_neg (by omega), if_neg (by omega), g1, if_neg (by omega), if_neg (by omega), g0, if_neg (by omega), if_neg (by omega)]
  · rw [gl, if_neg (by omega), g18, if_neg (by omega), if_neg (by omega), g17, if_neg (by omega), if_neg (by omega), g16, if_neg (by omega), if_neg (by omega), g15, if_neg (by omega), if_neg (by omega), g14, if_neg (by omega), if_neg (by omega), g13, if_pos (by omega), g12, if_neg (by omega), if_neg (by omega), g11, if_neg (by omega), if_neg (by omega), g10, if_neg (by omega), if_neg (by omega), g9, if_neg (by omega), if_neg (by omega), g8, if_neg (by omega), if_neg (by omega), g7, if_neg (by omega), if_neg (by omega), g6, if_neg (by omega), if_neg (by omega), g5, if_neg (by omega), if_neg (by omega), g4, if_neg (by omega), if_neg (by omega), g3, if_neg (by omega), if_neg (by omega), g2, if_neg (by omega), if_neg (by omega), g1, if_neg (by omega), if_neg (by omega), g0, if_neg (by omega), if_neg (by omega)]
  · rw [gl, if_neg (by omega), g18, if_neg (by omega), if_neg (by omega), g17, if_neg (by omega), if_neg (by omega), g16, if_neg (by omega), if_neg (by omega), g15, if_neg (by omega), if_neg (by omega), g14, if_pos (by omega), g13, if_neg (by omega), if_neg (by omega), g12, if_neg (by omega), if_neg (by omega), g11, if_neg (by omega), if_neg (by omega), g10, if_neg (by omega), if_neg (by omega), g9, if_neg (by omega), if_neg (by omega), g8, if_neg (by omega), if_neg (by omega), g7, if_neg (by omega), if_neg (by omega), g6, if_neg (by omega), if_neg (by omega), g5, if_neg (by omega), if_neg (by omega), g4, if_neg (by omega), if_neg (by omega), g3, if_neg (by omega), if_neg (by omega), g2, if_neg (by omega), if_neg (by omega), g1, if_neg (by omega), if_neg (by omega), g0, if_neg (by omega), if_neg (by omega)]
  · rw [gl, if_neg (by omega), g18, if_neg (by omega), if_neg (by omega), g17, if_neg (by omega), if_neg (by omega), g16, if_neg (by omega), if_neg (by omega), g15, if_pos (by omega), g14, if_neg (by omega), if_neg (by omega), g13, if_neg (by omega), if_neg (by omega), g12, if_neg (by omega), if_neg (by omega), g11, if_neg (by omega), if_neg (by omega), g10, if_neg (by omega), if_neg (by omega), g9, if_neg (by omega), if_neg (by omega), g8, if_neg (by omega), if_neg (by omega), g7, if_neg (by omega), if_neg (by omega), g6, if_neg (by omega), if_neg (by omega), g5, if_neg (by omega), if_neg (by omega), g4, if_neg (by omega), if_neg (by omega), g3, if_neg (by omega), if_neg (by omega), g2, if_neg (by omega), if_neg (by omega), g1, if_neg (by omega), if_neg (by omega), g0, if_neg (by omega), if_neg (by omega)]
  · rw [gl, if_neg (by omega), g18, if_neg (by omega), if_neg (by omega), g17, if_neg (by omega), if_neg (by omega), g16, if_pos (by omega), g15, if_neg (by omega), if_neg (by omega), g14, if_neg (by omega), if_neg (by omega), g13, if_neg (by omega), if_neg (by omega), g12, if_neg (by omega), if_neg (by omega), g11, if_neg (by omega), if_neg (by omega), g10, if_neg (by omega), if_neg (by omega), g9, if_neg (by omega), if_neg (by omega), g8, if_neg (by omega), if_neg (by omega), g7, if_neg (by omega), if_neg (by omega), g6, if_neg (by omega), if_neg (by omega), g5, if_neg (by omega), if_neg (by omega), g4, if_neg (by omega), if_neg (by omega), g3, if_neg (by omega), if_neg (by omega), g2, if_neg (by omega), if_neg (by omega), g1, if_neg (by omega), if_neg (by omega), g0, if_neg (by omega), if_neg (by omega)]
  · rw [gl, if_neg (by omega), g18, if_neg (by omega), if_neg (by omega), g17, if_pos (by omega), g16, if_neg (by omega), if_neg (by omega), g15, if_neg (by omega), if_neg (by omega), g14, if_neg (by omega), if_neg (by omega), g13, if_neg (by omega), if_neg (by omega), g12, if_neg (by omega), if_neg (by omega), g11, if_neg (by omega), if_neg (by omega), g10, if_neg (by omega), if_neg (by omega), g9, if_neg (by omega), if_neg (by omega), g8, if_neg (by omega), if_neg (by omega), g7, if_neg (by omega), if_neg (by omega), g6, if_neg (by omega), if_neg (by omega), g5, if_neg (by omega), if_neg (by omega), g4, if_neg (by omega), if_neg (by omega), g3, if_neg (by omega), if_neg (by omega), g2, if_neg (by omega), if_neg (by omega), g1, if_neg (by omega), if_neg (by omega), g0, if_neg (by omega), if_neg (by omega)]
  · rw [gl, if_neg (by omega), g18, if_pos (by omega), g17, if_neg (by omega), if_neg (by omega), g16, if_neg (by omega), if_neg (by omega), g15, if_neg (by omega), if_neg (by omega), g14, if_neg (by omega), if_neg (by omega), g13, if_neg (by omega), if_neg (by omega), g12, if_neg (by omega), if_neg (by omega), g11, if_neg (by omega), if_neg (by omega), g10, if_neg (by omega), if_neg (by omega), g9, if_neg (by omega), if_neg (by omega), g8, if_neg (by omega), if_neg (by omega), g7, if_neg (by omega), if_neg (by omega), g6, if_neg (by omega), if_neg (by omega), g5, if_neg (by omega), if_neg (by omega), g4, if_neg (by omega), if_neg (by omega), g3, if_neg (by omega), if_neg (by omega), g2, if_neg (by omega), if_neg (by omega), g1, if_neg (by omega), if_neg (by omega), g0, if_neg (by omega), if_neg (by omega)]
  · rw [gl, if_pos ⟨rfl, rfl⟩, g18, if_neg (by omega), if_neg (by omega), g17, if_neg (by omega), if_neg (by omega), g16, if_neg (by omega), if_neg (by omega), g15, if_pos (by omega), g14, if_neg (by omega), if_neg (by omega), g13, if_neg (by omega), if_neg (by omega), g12, if_neg (by omega), if_neg (by omega), g11, if_neg (by omega), if_neg (by omega), g10, if_neg (by omega), if_neg (by omega), g9, if_neg (by omega), if_neg (by omega), g8, if_neg (by omega), if_neg (by omega), g7, if_neg (by omega), if_neg (by omega), g6, if_neg (by omega), if_neg (by omega), g5, if_neg (by omega), if_neg (by omega), g4, if_neg (by omega), if_neg (by omega), g3, if_neg (by omega), if_neg (by omega), g2, if_neg (by omega), if_neg (by omega), g1, if_neg (by omega), if_neg (by omega), g0, if_neg (by omega), if_neg (by omega)]
