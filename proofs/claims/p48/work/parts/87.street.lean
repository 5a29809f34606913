/-! the law's street: houses, ways, a lag, the bird -/
/-- the class's memory in a street as it is made -/
def Bs (μ : z_M) (S : zS) (H W g : Nat) : Prop := StC 1 μ S ∧ (∃ N, 0 < N ∧ Vd N S) ∧ (S 10 0 = nI H ∧ S 10 1 = nI W ∧ S 10 2 = nI g) ∧ (H ≤ 8 ∧ W ≤ 12 ∧ 1 ≤ g ∧ g ≤ 3) ∧ μ.1 41 0 = 0
theorem Bs.fr {μ μ' : z_M} {S : zS} {H W g : Nat} (C : Bs μ S H W g) (k : ∀ k, k ≠ 49 → μ'.1 k = μ.1 k) : Bs μ' S H W g := by
  obtain ⟨s1, V, e, h, z⟩ := C
  exact ⟨s1.same (fun j => by rw [k 3 (by omega)]) (fun j => by rw [k 5 (by omega)]) (fun j => by rw [k 7 (by omega)]) (fun j => by rw [k 1 (by omega)]), V, e, h, by rw [k 41 (by omega)]; exact z⟩
theorem Bs.c3 {μ : z_M} {S : zS} {H W g : Nat} (C : Bs μ S H W g) : μ.1 1 3 = nI H := (C.1.2.2.2 0 (by omega)).trans C.2.2.1.1
theorem Bs.c4 {μ : z_M} {S : zS} {H W g : Nat} (C : Bs μ S H W g) : μ.1 1 4 = nI W := (C.1.2.2.2 1 (by omega)).trans C.2.2.1.2.1
theorem bHouse {μ : z_M} {S : zS} {H W g k s a : Nat} (B : Bs μ S H W g) (hH : H < 8) (hk : k < 7) (hs : s < 256) (ha : a < 256) : ∃ r μ' S', f_X8_house (nI k) (nI s) (nI a) μ = (r, μ') ∧ Bs μ' S' (H + 1) W g := by
  have B' := B
  obtain ⟨s1, ⟨N, hN, V⟩, ⟨eH, eW, eg⟩, ⟨hH8, hW, hg1, hg3⟩, z⟩ := B
  obtain ⟨μ', q1, q2, q3, q4⟩ := cAddHouse (k := nI k) (s := nI s) (a := nI a) s1 hH eH
  refine ⟨nI H, μ', sAH S H (nI k) (nI s) (nI a), ?_, q2, ⟨N, hN, V.addHouse hN hH eH ⟨k, hk, rfl⟩ ⟨s, hs, rfl⟩ ⟨a, ha, rfl⟩⟩, ⟨rfl, eW, eg⟩, ⟨by omega, hW, hg1, hg3⟩, by rw [q3 41 (by omega) (by omega)]; exact z⟩
  unfold f_X8_house f_X6_hasRoomForHouse
  have e1 : f_X2_isKind (nI k) μ = 1 := by
    unfold f_X2_isKind
    rw [if_neg (nI_pos (by omega)), if_neg (show ¬ (6 : Int32) < nI k from nI_nlt (a := 6) (by omega) (by omega))]
  rw [e1, ifn, isSet_y hs, ifn, if_neg (nI_pos (by omega)), if_neg (show ¬ (255 : Int32) < nI a from nI_nlt (a := 255) (by omega) (by omega)), B'.c3, if_pos (show nI H < 8 from nI_lt (b := 8) hH (by omega)), ifn, q1]
  rfl
theorem bWay {μ : z_M} {S : zS} {H W g a c m : Nat} (B : Bs μ S H W g) (hW : W < 12) (ha : a < H) (hc : c < H) (h1 : 1 ≤ m) (h60 : m ≤ 60) : ∃ r μ' S' W', f_X8_way (nI a) (nI c) (nI m) μ = (r, μ') ∧ Bs μ' S' H W' g ∧ W' ≤ W + 1 := by
  have B' := B
  obtain ⟨s1, ⟨N, hN, V⟩, ⟨eH, eW, eg⟩, ⟨hH8, hW12, hg1, hg3⟩, z⟩ := B
  unfold f_X8_way
  have tr : f_X8_troubleWithWay (nI a) (nI c) (nI m) μ = if nI a = nI c then -6 else 0 := by
    unfold f_X8_troubleWithWay f_X6_hasRoomForWay
    rw [isH_y B'.c3 hH8 ha, ifn, isH_y B'.c3 hH8 hc, ifn, if_neg (show ¬ nI m < 1 from nI_nlt (b := 1) h1 (by omega)), if_neg (show ¬ (60 : Int32) < nI m from nI_nlt (a := 60) h60 (by omega)), B'.c4, if_pos (show nI W < 12 from nI_lt (b := 12) hW (by omega)), ifn]
  rw [tr]
  by_cases e : nI a = nI c
  · rw [if_pos e, z_letE, if_neg (by decide), refC6]
    exact ⟨-6, _, S, W, rfl, B'.fr (fun k hk => sI1f hk), by omega⟩
  · rw [if_neg e, z_letE, if_pos rfl]
    obtain ⟨μ', q1, q2, q3, q4⟩ := cAddWay (a := nI a) (b := nI c) (m := nI m) s1 hW eW
    rw [q1, z_letE]
    refine ⟨nI W, μ', sAW S W (nI a) (nI c) (nI m), W + 1, rfl, ⟨q2, ⟨N, hN, V.addWay (sH_of eH hH8) hW eW ⟨a, ha, rfl⟩ ⟨c, hc, rfl⟩ e ⟨m, by omega, rfl⟩⟩, ⟨eH, rfl, eg⟩, ⟨hH8, by omega, hg1, hg3⟩, by rw [q3 41 (by omega) (by omega)]; exact z⟩, Nat.le_refl _⟩
theorem bShut {μ : z_M} {S : zS} {H W g w : Nat} (B : Bs μ S H W g) (hw : w < W) : ∃ r μ' S', f_X8_shut (nI w) 1 μ = (r, μ') ∧ Bs μ' S' H W g := by
  have B' := B
  obtain ⟨s1, ⟨N, hN, V⟩, ⟨eH, eW, eg⟩, ⟨hH8, hW12, hg1, hg3⟩, z⟩ := B
  have j8 : w < 12 := by omega
  unfold f_X8_shut f_X6_changeShut f_X6_changeShut_b9
  rw [isW_y B'.c4 hW12 hw, ifn, ifn, cW3 s1 j8, cV3 j8]
  by_cases c : S 8 w = 1
  · rw [if_pos c, z_letE]
    exact ⟨0, μ, S, rfl, B'⟩
  · rw [if_neg c, z_letE, z_letE]
    refine ⟨1, z_sI μ 5 (4 * w + 3) 1, sU S 8 w 1, rfl, s1.setW (k := 3) (by omega) j8, ⟨N, hN, V.shut ⟨1, by omega, rfl⟩⟩, ⟨eH, eW, eg⟩, ⟨hH8, hW12, hg1, hg3⟩, ?_⟩
    rw [sI1f (by omega)]; exact z
theorem bLag {μ : z_M} {S : zS} {H W g j : Nat} (B : Bs μ S H W g) (h1 : 1 ≤ j) (h3 : j ≤ 3) : ∃ r μ' S', f_X8_lag (nI j) μ = (r, μ') ∧ Bs μ' S' H W j := by
  obtain ⟨s1, ⟨N, hN, V⟩, ⟨eH, eW, eg⟩, ⟨hH8, hW12, hg1, hg3⟩, z⟩ := B
  refine ⟨μ.1 1 5, g_clr 7 3 (z_sI μ 1 5 (nI j)), sB0 (sU S 10 2 (nI j)), ?_, (s1.setN (x := 2) (by omega)).clr, ⟨N, hN, (V.lag h1 h3).clr⟩, ⟨eH, eW, rfl⟩, ⟨hH8, hW12, h1, h3⟩, ?_⟩
  · unfold f_X8_lag
    rw [show f_X8_isLag (nI j) μ = 1 from isCnt_y (a := 1) (b := 3) h1 h3 (by omega) μ, ifn]
    rfl
  · show (if 41 = 7 ∧ 0 < 3 then 0 else (z_sI μ 1 5 (nI j)).1 41 0) = 0
    rw [if_neg (by omega), sI1f (by omega)]; exact z
theorem bPut {μ : z_M} {S : zS} {H W g j : Nat} (B : Bs μ S H W g) (hj : j < H) (n : Nat) : ∃ r μ' S', f_X8_put (n + 3) (nI j) μ = some (r, μ') ∧ Cs μ' S' H W g j := by
  have B' := B
  obtain ⟨s1, ⟨N, hN, V⟩, ⟨eH, eW, eg⟩, ⟨hH8, hW12, hg1, hg3⟩, z⟩ := B
  obtain ⟨μ', q1, q2, q3, q4⟩ := cVisit s1 eg hg1 hg3 (show j < 8 by omega) n
  refine ⟨S 9 (g - 1), μ', sV S g j, ?_, q2, ⟨N + 1, V.visit hg1 hg3 (by rw [sH_of eH hH8]; exact hj) (by omega)⟩, ⟨eH, eW, eg⟩, ⟨hH8, hW12, hg1, hg3⟩, ⟨rfl, hj⟩, by rw [q3 41 (by omega) (by omega) (by omega)]; exact z⟩
  unfold f_X8_put
  rw [isH_y B'.c3 hH8 hj, ifn, q1, z_bindS]
theorem bStatus1 {μ : z_M} {S : zS} {H W g : Nat} (C : Bs μ S H W g) (n : Nat) : f_X8_status n 1 μ = some (nI W, μ) := by
  have e : f_X8_status n 1 μ = some (μ.1 1 4, μ) := rfl
  rw [e, C.c4]
/-! cells of the script -/
def clV (nn : Nat) (xs : Nat → Int32) (j : Nat) : Int32 := if j < nn then xs j else 7919 * nI j + 12
theorem cellE {nn : Nat} {xs : Nat → Int32} (hn : nn < 2 ^ 31) {j : Nat} (hj : j < 2 ^ 31) (μ : z_M) : f_L_cell nn xs (nI j) μ = some (clV nn xs j, μ) := by
  unfold f_L_cell clV
  by_cases c : j < nn
  · rw [if_pos (show nI j < Int32.ofNat nn from nI_lt c hn), z_chkN c hn, z_ixN hj, if_pos c]
  · rw [if_neg (show ¬ nI j < Int32.ofNat nn from nI_nlt (by omega) hj), if_neg c]
def pkV (v : Int32) (n : Nat) : Nat := (v.toBitVec.toNat % 2 ^ 31) % n
theorem pkV_lt {v : Int32} {n : Nat} (h : 0 < n) : pkV v n < n := Nat.mod_lt _ h
theorem pickE {v : Int32} {n : Nat} (h : 0 < n) (hn : n < 2 ^ 31) (μ : z_M) : f_L_pick v (nI n) μ = some (nI (pkV v n), μ) := by
  unfold f_L_pick z_nz
  rw [if_neg (show ¬ nI n = 0 from nI_ne (b := 0) hn (by omega) (by omega)), pk_and v (m := 2147483647) 31 (by decide), z_remN (Nat.mod_lt _ (by decide)) hn]
  rfl
theorem Cs.b {μ : z_M} {S : zS} {H W g b : Nat} (C : Cs μ S H W g b) : b < H := C.2.2.2.2.1.2
theorem lwGo {nn : Nat} {xs : Nat → Int32} (hn : nn < 2 ^ 31) {h : Nat} : ∀ (d j n : Nat) (μ : z_M) (S : zS) (W g b : Nat), j + d = 4 → d + 10 ≤ n → Cs μ S h W g b → ∃ μ' S' b', f_L_street_h223 nn xs n (nI h) (nI j) μ = some (nI h, μ') ∧ Cs μ' S' h W g b' := by
  have e4 : ∀ μ, f_L_pick (clV nn xs 18) 4 μ = some (nI (pkV (clV nn xs 18) 4), μ) := fun μ => pickE (n := 4) (by omega) (by omega) μ
  have l4 : pkV (clV nn xs 18) 4 < 4 := pkV_lt (by omega)
  have e18 : ∀ μ, f_L_cell nn xs 18 μ = some (clV nn xs 18, μ) := fun μ => cellE (j := 18) hn (by omega) μ
  intro d
  induction d with
  | zero =>
    intro j n μ S W g b e hd C
    obtain ⟨m, rfl⟩ : ∃ m, n = m + 1 := ⟨n - 1, by omega⟩
    refine ⟨μ, S, b, ?_, C⟩
    rw [f_L_street_h223, e18, z_bindS, e4, z_bindS]
    dsimp only
    rw [if_neg (nI_nlt (by omega) (by omega))]
  | succ d ih =>
    intro j n μ S W g b e hd C
    obtain ⟨m, rfl⟩ : ∃ m, n = m + 1 := ⟨n - 1, by omega⟩
    rw [f_L_street_h223, e18, z_bindS, e4, z_bindS]
    dsimp only
    by_cases c : j < pkV (clV nn xs 18) 4
    · rw [if_pos (nI_lt c (by omega)), cStatus1 C, z_bindS]
      dsimp only
      by_cases w0 : 0 < W
      · have hW := C.2.2.2.1.2.1
        rw [if_pos (show (0 : Int32) < nI W from nI_lt (a := 0) w0 (by omega)), show (19 : Int32) + nI j = nI (19 + j) from nI_add 19 j, cellE hn (by omega), z_bindS, cStatus1 C, z_bindS]
        dsimp only
        rw [pickE w0 (by omega), z_bindS]
        dsimp only
        obtain ⟨m', rfl⟩ : ∃ m', m = m' + 3 := ⟨m - 3, by omega⟩
        obtain ⟨r, μ1, S1, b1, q1, q2⟩ := bGo C (pkV_lt w0) m'
        rw [q1, z_bindS]
        unfold f_L_street_b268
        rw [i_succ]
        exact ih (j + 1) (m' + 3) μ1 S1 W g b1 (by omega) (by omega) q2
      · rw [if_neg (show ¬ (0 : Int32) < nI W from nI_nlt (a := 0) (by omega) (by omega))]
        unfold f_L_street_b268
        rw [i_succ]
        exact ih (j + 1) m μ S W g b (by omega) (by omega) C
    · rw [if_neg (nI_nlt (by omega) (by omega))]
      exact ⟨μ, S, b, rfl, C⟩
theorem lwWays {nn : Nat} {xs : Nat → Int32} (hn : nn < 2 ^ 31) {h : Nat} (h0 : 0 < h) (h8 : h < 8) : ∀ (d j n : Nat) (μ : z_M) (S : zS) (W g : Nat), j + d = 7 → d + 30 ≤ n → W ≤ j → Bs μ S h W g → ∃ μ' S' W' g' b', f_L_street_h93 nn xs n (nI h) (nI j) μ = some (nI h, μ') ∧ Cs μ' S' h W' g' b' := by
  intro d
  induction d with
  | zero =>
    intro j n μ S W g e hd hw B
    obtain ⟨m, rfl⟩ : ∃ m, n = m + 1 := ⟨n - 1, by omega⟩
    rw [f_L_street_h93, if_neg (show ¬ nI j < 7 from nI_nlt (b := 7) (by omega) (by omega)), show (16 : Int32) = nI 16 from rfl, cellE hn (by omega), z_bindS, show (3 : Int32) = nI 3 from rfl, pickE (by omega) (by omega), z_bindS]
    dsimp only
    have l3 : pkV (clV nn xs 16) 3 < 3 := pkV_lt (by omega)
    obtain ⟨r, μ1, S1, q1, q2⟩ := bLag B (j := 1 + pkV (clV nn xs 16) 3) (by omega) (by omega)
    rw [show (1 : Int32) + nI (pkV (clV nn xs 16) 3) = nI (1 + pkV (clV nn xs 16) 3) from nI_add 1 _, q1, z_letE]
    dsimp only
    rw [show (17 : Int32) = nI 17 from rfl, cellE hn (by omega), z_bindS]
    dsimp only
    rw [pickE h0 (by omega), z_bindS]
    dsimp only
    obtain ⟨m', rfl⟩ : ∃ m', m = m' + 3 := ⟨m - 3, by omega⟩
    obtain ⟨r2, μ2, S2, q3, q4⟩ := bPut q2 (pkV_lt h0) m'
    rw [q3, z_bindS]
    obtain ⟨μ3, S3, b3, q5, q6⟩ := lwGo (xs := xs) hn 4 0 (m' + 3) μ2 S2 W _ _ (by omega) (by omega) q4
    exact ⟨μ3, S3, W, _, b3, q5, q6⟩
  | succ d ih =>
    intro j n μ S W g e hd hw B
    obtain ⟨m, rfl⟩ : ∃ m, n = m + 1 := ⟨n - 1, by omega⟩
    rw [f_L_street_h93, if_pos (show nI j < 7 from nI_lt (b := 7) (by omega) (by omega)), show (9 : Int32) + nI j = nI (9 + j) from nI_add 9 j, cellE hn (by omega), z_bindS]
    dsimp only
    rw [pickE h0 (by omega), z_bindS]
    dsimp only
    rw [pickE h0 (by omega), z_bindS]
    dsimp only
    rw [show f_L_pick (clV nn xs (9 + j) >>> (6 &&& 31)) 12 μ = _ from pickE (n := 12) (by omega) (by omega) μ, z_bindS]
    dsimp only
    have l12 : pkV (clV nn xs (9 + j) >>> (6 &&& 31)) 12 < 12 := pkV_lt (by omega)
    obtain ⟨r, μ1, S1, W1, q1, q2, q3⟩ := bWay (m := 1 + pkV (clV nn xs (9 + j) >>> (6 &&& 31)) 12) B (by omega) (pkV_lt (v := clV nn xs (9 + j)) h0) (pkV_lt (v := clV nn xs (9 + j) >>> (3 &&& 31)) h0) (by omega) (by omega)
    rw [show (1 : Int32) + nI (pkV (clV nn xs (9 + j) >>> (6 &&& 31)) 12) = nI (1 + pkV (clV nn xs (9 + j) >>> (6 &&& 31)) 12) from nI_add 1 _, q1, z_letE]
    dsimp only
    rw [show (8 : Int32) = nI 8 from rfl, pickE (by omega) (by omega), z_bindS]
    dsimp only
    have next : ∀ μ2 S2, Bs μ2 S2 h W1 g → ∃ μ' S' W' g' b', f_L_street_b182 nn xs (f_L_street_h93 nn xs m) m (nI h) (nI j) μ2 = some (nI h, μ') ∧ Cs μ' S' h W' g' b' := by
      intro μ2 S2 B2
      unfold f_L_street_b182
      rw [i_succ]
      exact ih (j + 1) m μ2 S2 W1 g (by omega) (by omega) (by omega) B2
    by_cases c : nI (pkV (clV nn xs (9 + j) >>> (12 &&& 31)) 8) = 0
    · rw [if_pos c, bStatus1 q2, z_bindS]
      dsimp only
      by_cases w0 : 0 < W1
      · rw [if_pos (show (0 : Int32) < nI W1 from nI_lt (a := 0) w0 (by omega)), bStatus1 q2, z_bindS]
        dsimp only
        rw [pickE w0 (by omega), z_bindS]
        dsimp only
        obtain ⟨r3, μ3, S3, q4, q5⟩ := bShut q2 (pkV_lt (v := clV nn xs (9 + j) >>> (15 &&& 31)) w0)
        rw [q4, z_letE]
        exact next μ3 S3 q5
      · rw [if_neg (show ¬ (0 : Int32) < nI W1 from nI_nlt (a := 0) (by omega) (by omega))]
        exact next μ1 S1 q2
    · rw [if_neg c]
      exact next μ1 S1 q2
theorem lwHouses {nn : Nat} {xs : Nat → Int32} (hn : nn < 2 ^ 31) {h : Nat} (h0 : 0 < h) (h8 : h < 8) : ∀ (d j n : Nat) (μ : z_M) (S : zS) (g : Nat), j + d = h → d + 60 ≤ n → Bs μ S j 0 g → ∃ μ' S' W' g' b', f_L_street_h17 nn xs n (nI h) (nI j) μ = some (nI h, μ') ∧ Cs μ' S' h W' g' b' := by
  intro d
  induction d with
  | zero =>
    intro j n μ S g e hd B
    obtain ⟨m, rfl⟩ : ∃ m, n = m + 1 := ⟨n - 1, by omega⟩
    obtain rfl : j = h := by omega
    rw [f_L_street_h17, if_neg (nI_nlt (Nat.le_refl _) (by omega))]
    exact lwWays hn h0 h8 7 0 m μ S 0 g (by omega) (by omega) (Nat.le_refl 0) B
  | succ d ih =>
    intro j n μ S g e hd B
    obtain ⟨m, rfl⟩ : ∃ m, n = m + 1 := ⟨n - 1, by omega⟩
    rw [f_L_street_h17, if_pos (nI_lt (by omega) (by omega)), show (1 : Int32) + nI j = nI (1 + j) from nI_add 1 j, cellE hn (by omega), z_bindS]
    dsimp only
    rw [show (7 : Int32) = nI 7 from rfl, pickE (by omega) (by omega), z_bindS]
    dsimp only
    have l7 : pkV (clV nn xs (1 + j)) 7 < 7 := pkV_lt (by omega)
    obtain ⟨s, hs, es⟩ := pk_andE (clV nn xs (1 + j) >>> (4 &&& 31)) (m := 15) 4 (by decide)
    have next : ∀ a, a < 256 → ∃ μ' S' W' g' b', f_L_street_b80 nn xs (f_L_street_h17 nn xs m) m (nI h) (nI j) (nI a) ((clV nn xs (1 + j) >>> (4 &&& 31)) &&& 15) (nI (pkV (clV nn xs (1 + j)) 7)) μ = some (nI h, μ') ∧ Cs μ' S' h W' g' b' := by
      intro a ha
      rw [es]
      unfold f_L_street_b80
      obtain ⟨r, μ1, S1, q1, q2⟩ := bHouse B (by omega) l7 (show s < 256 by omega) ha
      rw [q1, z_letE, i_succ]
      exact ih (j + 1) m μ1 S1 g (by omega) (by omega) q2
    by_cases c : nI (pkV (clV nn xs (1 + j)) 7) = 6
    · rw [if_pos c, show (3 : Int32) = nI 3 from rfl, pickE (by omega) (by omega), z_bindS]
      dsimp only
      have l3 : pkV (clV nn xs (1 + j) >>> (9 &&& 31)) 3 < 3 := pkV_lt (by omega)
      exact next _ (by omega)
    · rw [if_neg c]
      obtain ⟨a, ha, ea⟩ := pk_andE (clV nn xs (1 + j) >>> (9 &&& 31)) (m := 255) 8 (by decide)
      rw [ea]
      exact next a ha
/-- the street that the law makes -/
theorem lwStreet {nn : Nat} {xs : Nat → Int32} (hn : nn < 2 ^ 31) {μ : z_M} {S : zS} {g : Nat} (B : Bs μ S 0 0 g) : ∃ h μ' S' W' g' b', f_L_street nn xs 100 7 μ = some (nI h, μ') ∧ 2 ≤ h ∧ h ≤ 7 ∧ Cs μ' S' h W' g' b' := by
  have l6 : pkV (clV nn xs 0) 6 < 6 := pkV_lt (by omega)
  obtain ⟨μ', S', W', g', b', q1, q2⟩ := lwHouses (xs := xs) hn (h := 2 + pkV (clV nn xs 0) 6) (by omega) (by omega) (2 + pkV (clV nn xs 0) 6) 0 100 μ S g (by omega) (by omega) B
  refine ⟨2 + pkV (clV nn xs 0) 6, μ', S', W', g', b', ?_, by omega, by omega, q2⟩
  unfold f_L_street
  rw [show (0 : Int32) = nI 0 from rfl, cellE hn (by omega), z_bindS]
  dsimp only
  rw [show (7 : Int32) - 1 = nI 6 by decide, pickE (by omega) (by omega), z_bindS]
  dsimp only
  rw [z_letE, show (2 : Int32) + nI (pkV (clV nn xs 0) 6) = nI (2 + pkV (clV nn xs 0) 6) from nI_add 2 _]
  exact q1
