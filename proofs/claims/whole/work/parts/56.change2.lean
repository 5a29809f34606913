/-! lag, said, shut, house, way, go -/
theorem LX.ne {k j : Nat} (z : LX k j) : k ≠ 1 ∧ k ≠ 3 ∧ k ≠ 5 ∧ k ≠ 7 := by
  unfold LX at z
  rcases z with ⟨z, -⟩ | z | z | z | z | z | z | ⟨z, -⟩ | z | ⟨z, -⟩ | z <;> omega
theorem ifn {α : Type} {a b : α} : (if (1 : Int32) = 0 then a else b) = b := if_neg o10.mp
theorem ifz {α : Type} {a b : α} : (if (0 : Int32) = 0 then a else b) = a := if_pos rfl
theorem ag_lag {N : Nat} {μ ν : z_M} (R : Rr N μ ν) (x : Int32) : Ag N (fun _ => z_oT (f_X8_lag x μ)) (fun _ => f_X9_lag x ν) := by
  obtain ⟨S, H, W, g, ⟨s1, s2, V⟩, ⟨hH, hW, hg1, hg3⟩, ⟨eH, eW, eg⟩, ⟨c3, c4, c5, c6⟩, ⟨m8, m9, m10, mb, m23, m24⟩, hb⟩ := R.1.op
  unfold f_X8_lag f_X9_lag
  rw [show f_X8_isLag x μ = f_X9_isIn x (nI 1) (nI 3) ν from rfl, show f_X9_isIn x 1 3 ν = f_X9_isIn x (nI 1) (nI 3) ν from rfl]
  rcases dIn ν x 1 3 (by omega) (by omega) with e | ⟨j, h1, h3, rfl, e⟩
  · rw [e]; exact ⟨_, _, _, ⟨0, rfl⟩, ⟨0, rfl⟩, R.refuse 6⟩
  · rw [e, ifn, ifn]
    refine ⟨nI g, g_clr 7 3 (z_sI μ 1 5 (nI j)), z_sI (z_sI (z_sI ν 0 10 (nI j)) 0 23 (nI j)) 14 0 0, ⟨0, ?_⟩, ⟨0, ?_⟩, R.street (Nat.le_refl N) ⟨sB0 (sU S 10 2 (nI j)), (s1.setN (x := 2) (by omega)).clr, ?_, (V.lag h1 h3).clr, rfl, m24⟩ (((KX.rf _).sI (by unfold LX; omega)).clr (fun i z => absurd rfl z.ne.2.2.2)) ((((KY.rf _).sI (by unfold LY; omega)).sI (by unfold LY; omega)).sI (by unfold LY; omega))⟩
    · show some (μ.1 1 5, _) = _
      rw [c5]; rfl
    · show some (ν.1 0 10, _) = _
      rw [m10]; rfl
    · have t := (s2.setn2 (v := nI j))
      exact StM.clr (ν := z_sI (z_sI ν 0 10 (nI j)) 0 23 (nI j)) ⟨t.1, t.2.1, t.2.2.1, t.2.2.2.1, t.2.2.2.2.1, t.2.2.2.2.2.1, t.2.2.2.2.2.2.1, t.2.2.2.2.2.2.2⟩
theorem ag_said {N : Nat} {μ ν : z_M} (R : Rr N μ ν) (x v : Int32) : Ag N (fun _ => z_oT (f_X8_said x v μ)) (fun _ => f_X9_said x v ν) := by
  obtain ⟨S, H, W, g, ⟨s1, s2, V⟩, ⟨hH, hW, hg1, hg3⟩, ⟨eH, eW, eg⟩, ⟨c3, c4, c5, c6⟩, ⟨m8, m9, m10, mb, m23, m24⟩, hb⟩ := R.1.op
  unfold f_X8_said f_X9_said
  rcases dH c3 m8 hH x with ⟨e1, e2⟩ | ⟨j, hj, rfl, e1, e2⟩
  · rw [e1, e2]; exact ⟨_, _, _, ⟨0, rfl⟩, ⟨0, rfl⟩, R.refuse 1⟩
  · rw [e1, e2, ifn, ifn]
    rcases dSet μ ν v with ⟨e3, e4⟩ | ⟨k, hk, rfl, e3, e4⟩
    · rw [e3, e4]; exact ⟨_, _, _, ⟨0, rfl⟩, ⟨0, rfl⟩, R.refuse 6⟩
    · have j8 : j < 8 := by omega
      rw [e3, e4, ifn, ifn, z_chkN j8 (by decide), z_letE, z_letE, z_letE, z_chkN j8 (by decide), z_letE, z_ixN (by omega), cO1 s1 j8]
      refine ⟨S 1 j, z_sI μ 3 (5 * j + 1) (nI k), z_sI ν 3 j (nI k), ⟨0, ?_⟩, ⟨0, ?_⟩, R.street (Nat.le_refl N) ⟨sU S 1 j (nI k), s1.setH (k := 1) (by omega) j8, s2.set1 j8, V.said ⟨k, hk, rfl⟩, by show ν.1 0 23 = S 10 2; rw [m23, eg], m24⟩ ((KX.rf _).sI (fun z => absurd rfl z.ne.2.1)) ((KY.rf _).sI (by unfold LY; omega))⟩
      · show some (S 1 j, f_X6_changeSaid 1 (nI j) (nI k) μ) = _
        rw [show f_X6_changeSaid 1 (nI j) (nI k) μ = f_X6_keepOfHouse 1 (nI j) 1 (nI k) μ from rfl, cP1 j8]
      · show some (ν.1 3 j, _) = _
        rw [(s2.1 j j8).2.1]
theorem ag_shut {N : Nat} {μ ν : z_M} (R : Rr N μ ν) (x v : Int32) : Ag N (fun _ => z_oT (f_X8_shut x v μ)) (fun _ => f_X9_shut x v ν) := by
  obtain ⟨S, H, W, g, ⟨s1, s2, V⟩, ⟨hH, hW, hg1, hg3⟩, ⟨eH, eW, eg⟩, ⟨c3, c4, c5, c6⟩, ⟨m8, m9, m10, mb, m23, m24⟩, hb⟩ := R.1.op
  unfold f_X8_shut f_X9_shut
  rcases dW c4 m9 hW x with ⟨e1, e2⟩ | ⟨j, hj, rfl, e1, e2⟩
  · rw [e1, e2]; exact ⟨_, _, _, ⟨0, rfl⟩, ⟨0, rfl⟩, R.refuse 1⟩
  · rw [e1, e2, ifn, ifn]
    have j8 : j < 12 := by omega
    have key : ∀ s0 : Int32, zB s0 2 → Ag N (fun _ => z_oT (z_let (f_X6_changeShut_b9 1 (nI j) s0 μ) (fun p2 => if p2.1 = 0 then ((0, p2.2)) else ((1, p2.2))))) (fun _ => f_X9_shut_b23 (nI j) s0 ν) := by
      intro s0 hs
      unfold f_X6_changeShut_b9 f_X9_shut_b23 f_X9_shut_b39
      rw [z_chkN j8 (by decide), z_chkN j8 (by decide), z_chkN j8 (by decide), z_ixN (by omega), cW3 s1 j8, (s2.2.1 j j8).2.2.2, cV3 j8]
      have fin : ∀ μ', StC 1 μ' (sU S 8 j s0) → KX μ μ' → Rr N μ' (z_sI ν 8 j s0) := fun μ' h1 h2 => R.street (Nat.le_refl N) ⟨sU S 8 j s0, h1, s2.set8 j8, V.shut hs, by show ν.1 0 23 = S 10 2; rw [m23, eg], m24⟩ h2 ((KY.rf _).sI (by unfold LY; omega))
      by_cases c : S 8 j = s0
      · rw [if_pos c, if_pos c]
        exact ⟨0, μ, z_sI ν 8 j s0, ⟨0, rfl⟩, ⟨0, rfl⟩, fin μ (s1.eqv (fun a i _ => by rw [sUE]; split; next h => rw [h.1, h.2, c]
                                                                                       next => rfl)) (KX.rf _)⟩
      · rw [if_neg c, if_neg c]
        exact ⟨1, z_sI μ 5 (4 * j + 3) s0, z_sI ν 8 j s0, ⟨0, rfl⟩, ⟨0, rfl⟩, fin _ (s1.setW (k := 3) (by omega) j8) ((KX.rf _).sI (fun z => absurd rfl z.ne.2.2.1))⟩
    by_cases hv : v = 0
    · rw [if_pos hv]
      have := key 0 (zB_0 (by omega))
      rw [show f_X6_changeShut 1 (nI j) v μ = f_X6_changeShut_b9 1 (nI j) 0 μ from by unfold f_X6_changeShut; rw [if_pos hv]]
      exact this
    · rw [if_neg hv]
      have := key 1 ⟨1, by omega, rfl⟩
      rw [show f_X6_changeShut 1 (nI j) v μ = f_X6_changeShut_b9 1 (nI j) 1 μ from by unfold f_X6_changeShut; rw [if_neg hv]]
      exact this
/-- a house more -/
def sAH (S : zS) (H : Nat) (k s a : Int32) : zS := sU (sU (sU (sU (sU (sU S 0 H k) 1 H s) 2 H a) 3 H 0) 4 H 0) 10 0 (nI (H + 1))
theorem Vd.addHouse {N H : Nat} {S : zS} {k s a : Int32} (V : Vd N S) (hN : 0 < N) (hH : H < 8) (e : S 10 0 = nI H) (hk : zB k 7) (hs : zB s 256) (ha : zB a 256) : Vd N (sAH S H k s a) := by
  have d0 : sH S = H := sH_of e (by omega)
  have d1 : sH (sAH S H k s a) = H + 1 := sH_of rfl (by omega)
  have d2 : sW (sAH S H k s a) = sW S := rfl
  obtain ⟨h1, h2, h3, h4, h5, h6, h7, h8⟩ := V
  rw [d0] at h4
  refine ⟨⟨H + 1, by omega, rfl⟩, h2, h3, ?_, fun x hx => ?_, fun x hx => ?_, h7, h8⟩
  · rw [d1]
    rcases h4 with h | h
    · exact Or.inl h
    · exact Or.inr (h.mono (by omega))
  · obtain ⟨b0, b1, b2, b3, b4⟩ := h5 x hx
    by_cases ex : x = H
    · subst ex
      refine ⟨?_, ?_, ?_, ?_, ?_⟩ <;> simp only [sAH, sUE] <;> simp [hk, hs, ha, zB_0, hN]
    · refine ⟨?_, ?_, ?_, ?_, ?_⟩ <;> simp only [sAH, sUE] <;> simp [ex, b0, b1, b2, b3, b4]
  · rw [d2] at hx
    obtain ⟨b0, b1, b2, b3⟩ := h6 x hx
    rw [d1]
    rw [d0] at b0 b1
    exact ⟨b0.mono (by omega), b1.mono (by omega), b2, b3⟩
theorem cAddHouse {q H : Nat} {μ : z_M} {S : zS} {k s a : Int32} (s1 : StC q μ S) (hH : H < 8) (e : S 10 0 = nI H) : ∃ μ', f_X6_addHouse q k s a μ = (nI H, μ') ∧ StC q μ' (sAH S H k s a) ∧ (∀ k, k ≠ q → k ≠ q + 2 → μ'.1 k = μ.1 k) ∧ μ'.2 = μ.2 := by
  have e3 : μ.1 q 3 = nI H := (s1.2.2.2 0 (by omega)).trans e
  unfold f_X6_addHouse
  simp only [z_letE, e3, cP0 hH, cP1 hH, cP2 hH, cP3 hH, cP4 hH]
  have t := ((((s1.setH (k := 0) (v := k) (by omega) hH).setH (k := 1) (v := s) (by omega) hH).setH (k := 2) (v := a) (by omega) hH).setH (k := 3) (v := 0) (by omega) hH).setH (k := 4) (v := 0) (by omega) hH
  have r : (z_sI (z_sI (z_sI (z_sI (z_sI μ (q + 2) (5 * H + 0) k) (q + 2) (5 * H + 1) s) (q + 2) (5 * H + 2) a) (q + 2) (5 * H + 3) 0) (q + 2) (5 * H + 4) 0).1 q 3 = nI H := (t.2.2.2 0 (by omega)).trans (by simp only [sUE]; simpa using e)
  rw [r, i_succ]
  refine ⟨_, rfl, t.setN (x := 0) (by omega), fun y h1 h2 => ?_, rfl⟩
  rw [sI1f h1, sI1f h2, sI1f h2, sI1f h2, sI1f h2, sI1f h2]
theorem mAddHouse {H : Nat} {ν : z_M} {S : zS} {k s a : Int32} (s2 : StM ν S) (hH : H < 8) (e : S 10 0 = nI H) : ∃ ν', f_X9_makesHouse k s a ν = some ((), ν') ∧ StM ν' (sAH S H k s a) ∧ ν'.1 0 8 = nI (H + 1) ∧ KY ν ν' ∧ (∀ j, j ≠ 8 → ν'.1 0 j = ν.1 0 j) ∧ ν'.2 = ν.2 := by
  have e8 : ν.1 0 8 = nI H := s2.2.2.2.1.trans e
  unfold f_X9_makesHouse
  simp (disch := omega) only [z_letE, e8, z_chkN, z_ixN, sI1]
  simp (disch := omega) only [Nat.reduceEqDiff, false_and, if_false, e8, z_chkN, z_ixN, i_succ]
  refine ⟨_, rfl, (((((s2.set0 (v := k) hH).set1 (v := s) hH).set2 (v := a) hH).set3 (v := 0) hH).set4 (v := 0) hH).setn0, rfl, ((((((KY.rf _).sI (by unfold LY; omega)).sI (by unfold LY; omega)).sI (by unfold LY; omega)).sI (by unfold LY; omega)).sI (by unfold LY; omega)).sI (by unfold LY; omega), fun j hj => ?_, rfl⟩
  rw [sI1, if_neg (by omega)]; rfl
theorem ag_house {N : Nat} {μ ν : z_M} (R : Rr N μ ν) (hN : 0 < N) (k s a : Int32) : Ag N (fun _ => z_oT (f_X8_house k s a μ)) (fun _ => f_X9_house k s a ν) := by
  obtain ⟨S, H, W, g, ⟨s1, s2, V⟩, ⟨hH, hW, hg1, hg3⟩, ⟨eH, eW, eg⟩, ⟨c3, c4, c5, c6⟩, ⟨m8, m9, m10, mb, m23, m24⟩, hb⟩ := R.1.op
  unfold f_X8_house f_X9_house
  rw [kind_in k μ ν, show f_X9_isIn k 0 6 ν = f_X9_isIn k (nI 0) (nI 6) ν from rfl]
  rcases dIn ν k 0 6 (by omega) (by omega) with e | ⟨j, h1, h3, rfl, e⟩
  · rw [e]; exact ⟨_, _, _, ⟨0, rfl⟩, ⟨0, rfl⟩, R.refuse 1⟩
  · rw [e, ifn, ifn]
    rcases dSet μ ν s with ⟨e3, e4⟩ | ⟨x, hx, rfl, e3, e4⟩
    · rw [e3, e4]; exact ⟨_, _, _, ⟨0, rfl⟩, ⟨0, rfl⟩, R.refuse 6⟩
    · rw [e3, e4, ifn, ifn]
      have bad : Ag N (fun _ => z_oT (f_X8_house_b31 μ)) (fun _ => f_X9_house_b28 (nI j) (nI x) a ν) := ⟨_, _, _, ⟨0, rfl⟩, ⟨0, rfl⟩, R.refuse 6⟩
      unfold f_X9_isSet
      rcases n3 a (n := 256) (by omega) with ⟨y, hy, rfl⟩ | h | ⟨y, hy, hy2, rfl⟩
      · rw [if_neg (nI_pos (by omega)), if_neg (show ¬ (255 : Int32) < nI y from nI_nlt (a := 255) (by omega) (by omega)), if_neg (nI_pos (by omega)), if_pos (show nI y < (256 : Int32) from nI_lt (b := 256) hy (by omega)), ifn]
        unfold f_X6_hasRoomForHouse
        rw [c3, m8]
        by_cases hr : H < 8
        · rw [if_pos (show nI H < (8 : Int32) from nI_lt (b := 8) hr (by omega)), ifn, if_neg (show ¬ nI H = 8 from nI_ne (b := 8) (by omega) (by omega) (by omega))]
          obtain ⟨μ', q1, q2, q3, q4⟩ := cAddHouse (k := nI j) (s := nI x) (a := nI y) s1 hr eH
          obtain ⟨ν', r1, r2, r3, r4, r5, r6⟩ := mAddHouse (k := nI j) (s := nI x) (a := nI y) s2 hr eH
          refine ⟨nI H, μ', ν', ⟨0, ?_⟩, ⟨0, ?_⟩, R.street (Nat.le_refl N) ⟨sAH S H (nI j) (nI x) (nI y), q2, r2, V.addHouse hN hr eH ⟨j, by omega, rfl⟩ ⟨x, hx, rfl⟩ ⟨y, hy, rfl⟩, ?_, ?_⟩ ⟨fun k i z => by rw [q3 k z.ne.1 z.ne.2.1], q4⟩ r4⟩
          · rw [q1]; rfl
          · show z_bind (f_X9_makesHouse (nI j) (nI x) (nI y) ν) _ = _
            rw [r1, z_bindS, r3, i_pred (by omega), Nat.add_sub_cancel]
          · rw [r5 23 (by omega), m23]; exact eg.symm
          · rw [r5 24 (by omega), m24]
        · obtain rfl : H = 8 := by omega
          exact ⟨_, _, _, ⟨0, rfl⟩, ⟨0, rfl⟩, R.refuse 7⟩
      · rw [if_pos h, if_pos h]; exact bad
      · rw [if_neg (nI_pos hy2), if_pos (show (255 : Int32) < nI y from nI_lt (a := 255) (by omega) hy2), if_neg (nI_pos hy2), if_neg (show ¬ nI y < (256 : Int32) from nI_nlt (b := 256) hy hy2)]; exact bad
/-- a way more -/
def sAW (S : zS) (W : Nat) (a b m : Int32) : zS := sU (sU (sU (sU (sU S 5 W a) 6 W b) 7 W m) 8 W 0) 10 1 (nI (W + 1))
theorem Vd.addWay {N H W : Nat} {S : zS} {a b m : Int32} (V : Vd N S) (hH : sH S = H) (hW : W < 12) (e : S 10 1 = nI W) (ha : zB a H) (hb : zB b H) (hne : a ≠ b) (hm : zB m 61) : Vd N (sAW S W a b m) := by
  have d0 : sW S = W := sW_of e (by omega)
  have d1 : sW (sAW S W a b m) = W + 1 := sW_of rfl (by omega)
  have d2 : sH (sAW S W a b m) = sH S := rfl
  obtain ⟨h1, h2, h3, h4, h5, h6, h7, h8⟩ := V
  refine ⟨h1, ⟨W + 1, by omega, rfl⟩, h3, h4, h5, fun x hx => ?_, fun x hx => ?_, h8⟩
  · rw [d1] at hx
    rw [d2, hH]
    by_cases ex : x = W
    · subst ex
      refine ⟨?_, ?_, ?_, ?_⟩ <;> simp only [sAW, sUE] <;> simp [ha, hb, hne, hm]
    · obtain ⟨b0, b1, b2, b3⟩ := h6 x (by omega)
      rw [hH] at b0 b1
      refine ⟨?_, ?_, ?_, ?_⟩ <;> simp only [sAW, sUE] <;> simp [ex, b0, b1, b2, b3]
  · by_cases ex : x = W
    · subst ex; simp only [sAW, sUE]; simp [zB_0]
    · have := h7 x hx
      simp only [sAW, sUE]; simp [ex, this]
theorem cAddWay {q W : Nat} {μ : z_M} {S : zS} {a b m : Int32} (s1 : StC q μ S) (hW : W < 12) (e : S 10 1 = nI W) : ∃ μ', f_X6_addWay q a b m μ = (nI W, μ') ∧ StC q μ' (sAW S W a b m) ∧ (∀ k, k ≠ q → k ≠ q + 4 → μ'.1 k = μ.1 k) ∧ μ'.2 = μ.2 := by
  have e3 : μ.1 q 4 = nI W := (s1.2.2.2 1 (by omega)).trans e
  unfold f_X6_addWay
  simp only [z_letE, e3, cV0 hW, cV1 hW, cV2 hW, cV3 hW]
  have t := (((s1.setW (k := 0) (v := a) (by omega) hW).setW (k := 1) (v := b) (by omega) hW).setW (k := 2) (v := m) (by omega) hW).setW (k := 3) (v := 0) (by omega) hW
  have r : (z_sI (z_sI (z_sI (z_sI μ (q + 4) (4 * W + 0) a) (q + 4) (4 * W + 1) b) (q + 4) (4 * W + 2) m) (q + 4) (4 * W + 3) 0).1 q 4 = nI W := (t.2.2.2 1 (by omega)).trans (by simp only [sUE]; simpa using e)
  rw [r, i_succ]
  refine ⟨_, rfl, t.setN (x := 1) (by omega), fun y h1 h2 => ?_, rfl⟩
  rw [sI1f h1, sI1f h2, sI1f h2, sI1f h2, sI1f h2]
theorem mAddWay {W : Nat} {ν : z_M} {S : zS} {a b m : Int32} (s2 : StM ν S) (hW : W < 12) (e : S 10 1 = nI W) : ∃ ν', f_X9_makesWay a b m ν = some ((), ν') ∧ StM ν' (sAW S W a b m) ∧ ν'.1 0 9 = nI (W + 1) ∧ KY ν ν' ∧ (∀ j, j ≠ 9 → ν'.1 0 j = ν.1 0 j) ∧ ν'.2 = ν.2 := by
  have e8 : ν.1 0 9 = nI W := s2.2.2.2.2.1.trans e
  unfold f_X9_makesWay
  simp (disch := omega) only [z_letE, e8, z_chkN, z_ixN, sI1]
  simp (disch := omega) only [Nat.reduceEqDiff, false_and, if_false, e8, z_chkN, z_ixN, i_succ]
  refine ⟨_, rfl, ((((s2.set5 (v := a) hW).set6 (v := b) hW).set7 (v := m) hW).set8 (v := 0) hW).setn1, rfl, (((((KY.rf _).sI (by unfold LY; omega)).sI (by unfold LY; omega)).sI (by unfold LY; omega)).sI (by unfold LY; omega)).sI (by unfold LY; omega), fun j hj => ?_, rfl⟩
  rw [sI1, if_neg (by omega)]; rfl
