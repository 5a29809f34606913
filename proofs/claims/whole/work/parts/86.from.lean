/-! fits and from -/
theorem ag_fits {N : Nat} {μ ν : z_M} (R : Rr N μ ν) (x y : Int32) : Ag N (fun n => f_X8_fits n x y μ) (fun n => f_X9_fits n x y ν) := by
  obtain ⟨S, H, W, g, O⟩ := R.1.op
  unfold f_X8_fits f_X9_fits
  rw [show (6 : Int32) = nI 6 from rfl]
  rcases dRoute R O x y (M := 6) (by omega) with ⟨t, h1, h7, e1, e2⟩ | ⟨s, t, m, k, b, hs, hm, hk, hk6, rfl, rfl, e1, e2, D, hb, eb⟩
  · simp only [e1, e2, z_letE, z_bindS, if_neg (refNe t h1 h7), refC t h1 h7, refM t h1 h7]
    exact ⟨_, _, _, ⟨0, rfl⟩, ⟨0, rfl⟩, R.refuse t⟩
  · obtain ⟨T, f, μ', ν', u1, u2, u3, u4, u5, u6, u7, u8, u9, v1, v2, v3⟩ := fitBoth R O hs hm hk hk6 D hb eb
    refine ⟨nI f.1, μ', ν', ⟨700000, ?_⟩, ⟨700000, ?_⟩, R.think u3 u4⟩
    · simp only [e1, z_letE, if_true, u1, z_bindS]
      show some (μ'.1 42 3, μ') = _
      rw [u8]
    · simp only [e2, z_bindS, if_true, u2, v2]
theorem ag_from {N : Nat} {μ ν : z_M} (R : Rr N μ ν) (x y z : Int32) : Ag N (fun n => f_X8_from n x y z μ) (fun n => f_X9_from n x y z ν) := by
  obtain ⟨S, H, W, g, O⟩ := R.1.op
  have O' := O
  obtain ⟨⟨s1, s2, V⟩, ⟨hH, hW, hg1, hg3⟩, ⟨eH, eW, eg⟩, ⟨c3, c4, c5, c6⟩, ⟨m8, m9, m10, mb, m23, m24⟩, hb⟩ := O
  unfold f_X8_from f_X9_from f_X5_troubleWithStart
  have badN : ∀ t, 1 ≤ t → t ≤ 7 → ∀ {a c : Nat → Option (Int32 × z_M)}, (a 0 = z_let (f_X8_refuse (-(nI t)) μ) (fun p => some (p.1, p.2))) → (c 0 = z_bind (f_X9_no (-(nI t)) ν) (fun p => some (p.1, p.2))) → Ag N a c := by
    intro t h1 h2 a c q1 q2
    refine ⟨-(nI t), _, _, ⟨0, by rw [q1, refC t h1 h2, z_letE]⟩, ⟨0, by rw [q2, refM t h1 h2, z_bindS]⟩, R.refuse t⟩
  have cN : ∀ t, 1 ≤ t → t ≤ 7 → ∀ n, f_X8_from_b45 n x y z (-(nI t)) μ = z_let (f_X8_refuse (-(nI t)) μ) (fun p => some (p.1, p.2)) := fun t h1 h2 n => by
    unfold f_X8_from_b45; rw [if_neg (refNe t h1 h2)]
  have cM : ∀ t, 1 ≤ t → t ≤ 7 → ∀ n, f_X8_from_b30 n x y z (-(nI t)) μ = z_let (f_X8_refuse (-(nI t)) μ) (fun p => some (p.1, p.2)) := fun t h1 h2 n => by
    unfold f_X8_from_b30; rw [if_neg (refNe t h1 h2), cN t h1 h2]
  have mN : ∀ t, 1 ≤ t → t ≤ 7 → ∀ n, f_X9_from_b69 n x y z (-(nI t)) ν = z_bind (f_X9_no (-(nI t)) ν) (fun p => some (p.1, p.2)) := fun t h1 h2 n => by
    unfold f_X9_from_b69; rw [if_neg (refNe t h1 h2)]
  rcases dRow R.2.2.1 x with ⟨t, h1, h3, e1, e2⟩ | ⟨s, t, m, hs, ht, hm, rfl, e1, e2, D⟩
  · refine badN t h1 (by omega) ?_ ?_
    · simp only [e1, z_letE, if_neg (refNe t h1 (show t ≤ 7 by omega)), cM t h1 (by omega)]
    · simp only [e2, z_bindS, if_neg (refNe t h1 (show t ≤ 7 by omega)), mN t h1 (by omega)]
  · by_cases cn : y < 0
    · refine badN 4 (by omega) (by omega) ?_ ?_
      · simp only [e1, z_letE, if_true, if_pos cn, ne0_4, if_false]
        exact cM 4 (by omega) (by omega) 0
      · simp only [e2, z_bindS, if_true, if_pos cn]
        unfold f_X9_from_b67
        exact mN 4 (by omega) (by omega) 0
    · obtain ⟨k, hk, rfl⟩ := nI_of cn
      by_cases c1 : m < k
      · refine badN 5 (by omega) (by omega) ?_ ?_
        · simp only [e1, z_letE, if_true, if_neg cn, g_getN hs (show 8 < 2 ^ 31 by decide), D.2.2.2.1, if_pos (nI_lt c1 hk), ne0_5, if_false]
          exact cM 5 (by omega) (by omega) 0
        · simp only [e2, z_bindS, if_true, if_neg cn, z_chkN hs (show 8 < 2 ^ 31 by decide), z_ixN (show s < 2 ^ 31 by omega), D.2.2.1, if_pos (nI_lt c1 hk)]
          unfold f_X9_from_b41 f_X9_from_b67
          exact mN 5 (by omega) (by omega) 0
      · have c1' := nI_nlt (show k ≤ m by omega) (show m < 2 ^ 31 by omega)
        by_cases c2 : z < -1
        · refine badN 5 (by omega) (by omega) ?_ ?_
          · simp only [e1, z_letE, if_true, if_neg cn, g_getN hs (show 8 < 2 ^ 31 by decide), D.2.2.2.1, if_neg c1', if_pos c2]
            unfold f_X8_from_b26
            exact cM 5 (by omega) (by omega) 0
          · simp only [e2, z_bindS, if_true, if_neg cn, z_chkN hs (show 8 < 2 ^ 31 by decide), z_ixN (show s < 2 ^ 31 by omega), D.2.2.1, if_neg c1', if_pos c2]
            unfold f_X9_from_b41 f_X9_from_b67
            exact mN 5 (by omega) (by omega) 0
        · by_cases c3' : z < nI k
          · -- to think
            have A : ∀ n, f_X8_from n (nI s) (nI k) z μ = f_X8_from_b45 n (nI s) (nI k) z (f_X8_troubleWithRoute (nI s) (nI k) 6 μ) μ := fun n => by
              unfold f_X8_from f_X5_troubleWithStart f_X8_from_b30
              simp only [e1, z_letE, if_true, if_neg cn, g_getN hs (show 8 < 2 ^ 31 by decide), D.2.2.2.1, if_neg c1', if_neg c2, if_pos c3']
            by_cases c4 : 6 < k
            · refine badN 6 (by omega) (by omega) ?_ ?_
              · simp only [e1, z_letE, if_true, if_neg cn, g_getN hs (show 8 < 2 ^ 31 by decide), D.2.2.2.1, if_neg c1', if_neg c2, if_pos c3']
                unfold f_X8_from_b30 f_X8_troubleWithRoute f_X8_troubleWithRoute_b34 f_X5_troubleWithStart
                simp only [e1, z_letE, if_true, if_neg cn, g_getN hs (show 8 < 2 ^ 31 by decide), D.2.2.2.1, if_neg c1', if_pos (show (6 : Int32) < nI k from nI_lt (a := 6) c4 hk)]
                exact cN 6 (by omega) (by omega) 0
              · simp only [e2, z_bindS, if_true, if_neg cn, z_chkN hs (show 8 < 2 ^ 31 by decide), z_ixN (show s < 2 ^ 31 by omega), D.2.2.1, if_neg c1', if_neg c2, if_pos c3', if_pos (show (6 : Int32) < nI k from nI_lt (a := 6) c4 hk)]
                unfold f_X9_from_b61 f_X9_from_b67
                exact mN 6 (by omega) (by omega) 0
            · have c4' : ¬ (6 : Int32) < nI k := nI_nlt (a := 6) (b := k) (by omega) (by omega)
              rcases hasBird c6 mb hH hb with ⟨b1, b2⟩ | ⟨b1, b2, b, hb1, hb2⟩
              · refine badN 6 (by omega) (by omega) ?_ ?_
                · simp only [e1, z_letE, if_true, if_neg cn, g_getN hs (show 8 < 2 ^ 31 by decide), D.2.2.2.1, if_neg c1', if_neg c2, if_pos c3']
                  unfold f_X8_from_b30 f_X8_troubleWithRoute f_X8_troubleWithRoute_b34 f_X5_troubleWithStart
                  simp only [e1, z_letE, if_true, if_neg cn, g_getN hs (show 8 < 2 ^ 31 by decide), D.2.2.2.1, if_neg c1', if_neg c4', b1]
                  exact cN 6 (by omega) (by omega) 0
                · simp only [e2, z_bindS, if_true, if_neg cn, z_chkN hs (show 8 < 2 ^ 31 by decide), z_ixN (show s < 2 ^ 31 by omega), D.2.2.1, if_neg c1', if_neg c2, if_pos c3', if_neg c4', show z_ix 0 = 0 from rfl, if_pos b2]
                  unfold f_X9_from_b61 f_X9_from_b67
                  exact mN 6 (by omega) (by omega) 0
              · obtain ⟨T, f, μ', ν', u1, u2, u3, u4, u5, u6, u7, u8, u9, v1, v2, v3⟩ := fitBoth R O' hs hm (show k ≤ m by omega) (by omega) D hb1 hb2
                have R1 := R.think u3 u4
                have cR : f_X8_troubleWithRoute (nI s) (nI k) 6 μ = 0 := by
                  unfold f_X8_troubleWithRoute f_X8_troubleWithRoute_b34 f_X5_troubleWithStart
                  simp only [e1, z_letE, if_true, if_neg cn, g_getN hs (show 8 < 2 ^ 31 by decide), D.2.2.2.1, if_neg c1', if_neg c4', b1, ifn]
                have A' : f_X8_from 700000 (nI s) (nI k) z μ = (if z = (-1) then (some ((f_X4_endsFound μ'), μ')) else (if (0 : Int32) < (f_X4_countFound μ') then (some ((f_X4_houseFound z μ'), μ')) else (z_let (f_X8_refuse (-5) μ') (fun p4 => some (p4.1, p4.2))))) := by
                  rw [A, cR]
                  unfold f_X8_from_b45
                  rw [if_pos rfl, u1, z_bindS]
                have B' : f_X9_from 700000 (nI s) (nI k) z ν = (if z = (-1) then (some ((ν'.1 0 49), ν')) else (if (ν'.1 0 47) < 0 then (z_bind (f_X9_no (-5) ν') (fun p3 => some (p3.1, p3.2))) else (z_chk z 6 (some ((ν'.1 25 (z_ix z)), ν'))))) := by
                  unfold f_X9_from
                  simp only [e2, z_bindS, if_true, if_neg cn, z_chkN hs (show 8 < 2 ^ 31 by decide), z_ixN (show s < 2 ^ 31 by omega), D.2.2.1, if_neg c1', if_neg c2, if_pos c3', if_neg c4', show z_ix 0 = 0 from rfl, if_neg b2]
                  unfold f_X9_from_b67 f_X9_from_b69
                  rw [if_pos rfl, u2, z_bindS]
                unfold f_X8_from f_X5_troubleWithStart at A'
                unfold f_X9_from at B'
                by_cases w : z = -1
                · refine ⟨f.2.1, μ', ν', ⟨700000, ?_⟩, ⟨700000, ?_⟩, R1⟩
                  · refine A'.trans ?_
                    rw [if_pos w]
                    show some (μ'.1 42 4, μ') = _
                    rw [u9]
                  · refine B'.trans ?_
                    rw [if_pos w, v3]
                · have z0 : ¬ z < 0 := fun q => w (by
                    have h1 : z.toInt < 0 := by
                      have := Int32.lt_iff_toInt_lt.1 q
                      have e : (0 : Int32).toInt = 0 := by decide
                      omega
                    have h2 : ¬ z.toInt < -1 := fun y => c2 (Int32.lt_iff_toInt_lt.2 (by
                      have e : (-1 : Int32).toInt = -1 := by decide
                      omega))
                    apply Int32.toInt_inj.1
                    have e : (-1 : Int32).toInt = -1 := by decide
                    omega)
                  obtain ⟨j, hj, rfl⟩ := nI_of z0
                  have jk : j < k := (nI_ltI hj hk).1 c3'
                  cases eo : f.2.2 with
                  | none =>
                    have f0 := u5.1.1 eo
                    rw [eo] at u7 v1
                    refine ⟨-5, _, _, ⟨700000, ?_⟩, ⟨700000, ?_⟩, R1.refuse 5⟩
                    · refine A'.trans ?_
                      rw [if_neg w, if_neg (show ¬ (0 : Int32) < f_X4_countFound μ' by show ¬ (0 : Int32) < μ'.1 42 3; rw [u8, f0]; decide), refC5, z_letE]
                    · refine B'.trans ?_
                      rw [if_neg w, show ν'.1 0 47 = -1 from v1, if_pos (by decide), refM5, z_bindS]
                  | some q =>
                    have ql := u5.2 q eo
                    have f0 : f.1 ≠ 0 := fun y => by rw [u5.1.2 y] at eo; cases eo
                    rw [eo] at u7 v1
                    obtain ⟨g1, g2, g3, g4, g5⟩ := u7
                    obtain ⟨r1, r2, r3, r4⟩ := v1
                    refine ⟨nI (hsAt q j), μ', ν', ⟨700000, ?_⟩, ⟨700000, ?_⟩, R1⟩
                    · refine A'.trans ?_
                      rw [if_neg w, if_pos (show (0 : Int32) < f_X4_countFound μ' by show (0 : Int32) < μ'.1 42 3; rw [u8]; exact nI_lt (a := 0) (by omega) (by omega))]
                      show some (g_get 44 6 (nI j) μ', μ') = _
                      rw [g_getN (by omega) (by decide), g5 j (by omega)]
                    · refine B'.trans ?_
                      rw [if_neg w, r3, if_neg (nI_pos (by omega)), z_chkN (by omega) (by decide), z_ixN (by omega), r4 j (by omega)]
          · refine badN 5 (by omega) (by omega) ?_ ?_
            · simp only [e1, z_letE, if_true, if_neg cn, g_getN hs (show 8 < 2 ^ 31 by decide), D.2.2.2.1, if_neg c1', if_neg c2, if_neg c3']
              unfold f_X8_from_b26
              exact cM 5 (by omega) (by omega) 0
            · simp only [e2, z_bindS, if_true, if_neg cn, z_chkN hs (show 8 < 2 ^ 31 by decide), z_ixN (show s < 2 ^ 31 by omega), D.2.2.1, if_neg c1', if_neg c2, if_neg c3']
              unfold f_X9_from_b41 f_X9_from_b67
              exact mN 5 (by omega) (by omega) 0
