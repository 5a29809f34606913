/-! who, forget, status, image, restore, act, trace -/
theorem StM.eqv {ν : z_M} {S S' : zS} (s : StM ν S) (h : ∀ a i, sD a i → S a i = S' a i) : StM ν S' := by
  obtain ⟨h1, h2, ⟨m, h3, h4, h5⟩, n1, n2, n3, n4, n5, n6, n7⟩ := s
  refine ⟨fun x hx => ?_, fun x hx => ?_, ⟨m, h3, h4, fun i hi => ?_⟩, ?_, ?_, ?_, ?_, ?_, ?_, ?_⟩
  · rw [← h 0 x (by unfold sD; omega), ← h 1 x (by unfold sD; omega), ← h 2 x (by unfold sD; omega), ← h 3 x (by unfold sD; omega), ← h 4 x (by unfold sD; omega)]; exact h1 x hx
  · rw [← h 5 x (by unfold sD; omega), ← h 6 x (by unfold sD; omega), ← h 7 x (by unfold sD; omega), ← h 8 x (by unfold sD; omega)]; exact h2 x hx
  · rw [← h 9 i (by unfold sD; omega)]; exact h5 i hi
  · rw [← h 10 0 (by unfold sD; omega)]; exact n1
  · rw [← h 10 1 (by unfold sD; omega)]; exact n2
  · rw [← h 10 2 (by unfold sD; omega)]; exact n3
  · rw [← h 10 3 (by unfold sD; omega)]; exact n4
  · rw [← h 10 4 (by unfold sD; omega)]; exact n5
  · rw [← h 10 5 (by unfold sD; omega)]; exact n6
  · rw [← h 10 6 (by unfold sD; omega)]; exact n7
noncomputable def sWho (S : zS) (v : Int32) : Nat → Int32
  | 0 => 0
  | n + 1 => sWho S v n ||| (if v &&& (S 3 n ^^^ -1) = 0 then (1 : Int32) <<< (nI n &&& 31) else 0)
theorem sWho_s (S : zS) (v : Int32) (n : Nat) : sWho S v (n + 1) = sWho S v n ||| (if v &&& (S 3 n ^^^ -1) = 0 then (1 : Int32) <<< (nI n &&& 31) else 0) := rfl
theorem cWho {q H : Nat} {μ : z_M} {S : zS} (s1 : StC q μ S) (c3 : μ.1 q 3 = nI H) (hH : H ≤ 8) (v : Int32) (n : Nat) (hn : 9 ≤ n) : f_X6_knowing q n v μ = some (sWho S v H, μ) := by
  have key : ∀ (d j n : Nat), j + d = H → d < n → f_X6_knowing_h4 q n v (sWho S v j) (nI j) μ = some (sWho S v H, μ) := by
    intro d
    induction d with
    | zero =>
      intro j n e hn
      obtain ⟨m, rfl⟩ : ∃ m, n = m + 1 := ⟨n - 1, by omega⟩
      unfold f_X6_knowing_h4
      rw [c3, if_neg (nI_nlt (by omega) (by omega)), show j = H by omega]
    | succ d ih =>
      intro j n e hn
      obtain ⟨m, rfl⟩ : ∃ m, n = m + 1 := ⟨n - 1, by omega⟩
      have k := ih (j + 1) m (by omega) (by omega)
      rw [sWho_s] at k
      unfold f_X6_knowing_h4 f_X6_knowing_b31
      rw [c3, if_pos (nI_lt (by omega) (by omega)), cO3 s1 (by omega), i_succ]
      by_cases c : v &&& (S 3 j ^^^ -1) = 0
      · rw [if_pos c] at k ⊢
        exact k
      · rw [if_neg c, or0] at k
        rw [if_neg c]; exact k
  exact key H 0 n (by omega) (by omega)
theorem mWho {H : Nat} {ν : z_M} {S : zS} (s2 : StM ν S) (m8 : ν.1 0 8 = nI H) (hH : H ≤ 8) (v : Int32) : ∀ (d j n : Nat), j + d = H → d < n → f_X9_who_h18 n v (sWho S v j) (nI j) ν = some (sWho S v H, ν) := by
  intro d
  induction d with
  | zero =>
    intro j n e hn
    obtain ⟨m, rfl⟩ : ∃ m, n = m + 1 := ⟨n - 1, by omega⟩
    unfold f_X9_who_h18
    rw [m8, if_neg (nI_nlt (by omega) (by omega)), show j = H by omega]
  | succ d ih =>
    intro j n e hn
    obtain ⟨m, rfl⟩ : ∃ m, n = m + 1 := ⟨n - 1, by omega⟩
    have k := ih (j + 1) m (by omega) (by omega)
    rw [sWho_s] at k
    unfold f_X9_who_h18 f_X9_who_b47
    rw [m8, if_pos (nI_lt (by omega) (by omega)), z_chkN (by omega) (by decide), z_ixN (by omega), (s2.1 j (by omega)).2.2.2.1, i_succ]
    by_cases c : v &&& (S 3 j ^^^ -1) = 0
    · rw [if_pos c] at k ⊢; exact k
    · rw [if_neg c] at k ⊢; exact k
theorem ag_who {N : Nat} {μ ν : z_M} (R : Rr N μ ν) (x : Int32) : Ag N (fun n => f_X8_who n x μ) (fun n => f_X9_who n x ν) := by
  obtain ⟨S, H, W, g, O⟩ := R.1.op
  have O' := O
  obtain ⟨⟨s1, s2, V⟩, ⟨hH, hW, hg1, hg3⟩, ⟨eH, eW, eg⟩, ⟨c3, c4, c5, c6⟩, ⟨m8, m9, m10, mb, m23, m24⟩, hb⟩ := O
  unfold f_X8_who f_X9_who
  rcases dSet μ ν x with ⟨e3, e4⟩ | ⟨k, hk, rfl, e3, e4⟩
  · rw [e3, e4]; exact ⟨_, _, _, ⟨0, rfl⟩, ⟨0, rfl⟩, R.refuse 6⟩
  · rw [e3, e4]
    simp only [ifn]
    refine ⟨sWho S (nI k) H, μ, ν, ⟨20, ?_⟩, ⟨20, ?_⟩, R⟩
    · dsimp only; rw [cWho s1 c3 hH _ 20 (by omega)]; rfl
    · exact mWho s2 m8 hH _ H 0 20 (by omega) (by omega)
/-- forgotten up to house k -/
def sFg (S : zS) (k : Nat) : zS := fun a i => if (a = 3 ∨ a = 4) ∧ i < k then 0 else S a i
theorem sFg_0 (S : zS) : sFg S 0 = S := by funext a i; unfold sFg; rw [if_neg (by omega)]
theorem sFg_s (S : zS) (k : Nat) : sU (sU (sFg S k) 3 k 0) 4 k 0 = sFg S (k + 1) := by
  funext a i
  simp only [sUE, sFg]
  by_cases h4 : a = 4 ∧ i = k
  · rw [if_pos h4, if_pos (by omega)]
  · by_cases h3 : a = 3 ∧ i = k
    · rw [if_neg h4, if_pos h3, if_pos (by omega)]
    · rw [if_neg h4, if_neg h3]
      by_cases h : (a = 3 ∨ a = 4) ∧ i < k
      · rw [if_pos h, if_pos (by omega)]
      · rw [if_neg h, if_neg (by omega)]
def sKn (S : zS) : Nat → Nat
  | 0 => 0
  | n + 1 => sKn S n + pc (S 3 n).toNatClampNeg
theorem cForget {q H : Nat} {S : zS} (hH : H ≤ 8) (hk : ∀ h, h < 8 → zB (S 3 h) 256) (e0 : S 10 0 = nI H) : ∀ (d j n : Nat) (μ : z_M), j + d = H → d < n → StC q μ (sFg S j) → ∃ μ', f_X6_forgetAll_h4 q n (nI (sKn S j)) (nI j) μ = some (nI (sKn S H), μ') ∧ StC q μ' (sB0 (sFg S H)) ∧ (∀ k, k ≠ q + 2 → k ≠ q + 6 → μ'.1 k = μ.1 k) ∧ μ'.2 = μ.2 := by
  intro d
  induction d with
  | zero =>
    intro j n μ e hn s
    obtain ⟨m, rfl⟩ : ∃ m, n = m + 1 := ⟨n - 1, by omega⟩
    unfold f_X6_forgetAll_h4
    have c3 : μ.1 q 3 = nI H := (s.2.2.2 0 (by omega)).trans (by unfold sFg; rw [if_neg (by omega)]; exact e0)
    obtain rfl : j = H := by omega
    rw [c3, if_neg (nI_nlt (by omega) (by omega)), z_letE]
    refine ⟨_, rfl, s.clr, fun k h1 h2 => ?_, rfl⟩
    funext y
    show (if k = q + 6 ∧ y < 3 then 0 else μ.1 k y) = _
    rw [if_neg (fun z => h2 z.1)]
  | succ d ih =>
    intro j n μ e hn s
    obtain ⟨m, rfl⟩ : ∃ m, n = m + 1 := ⟨n - 1, by omega⟩
    have j8 : j < 8 := by omega
    have c3 : μ.1 q 3 = nI H := (s.2.2.2 0 (by omega)).trans (by unfold sFg; rw [if_neg (by omega)]; exact e0)
    have c33 : f_X6_ofHouse q (nI j) 3 μ = S 3 j := (cO3 s j8).trans (by unfold sFg; rw [if_neg (by omega)])
    obtain ⟨v, hv, ev⟩ := hk j j8
    unfold f_X6_forgetAll_h4
    rw [c3, if_pos (nI_lt (by omega) (by omega)), z_letE, c33, ev, cBits (by omega), cP3 j8, z_letE, cP4 j8, z_letE, nI_add, i_succ]
    have t := (s.setH (k := 3) (v := 0) (by omega) j8).setH (k := 4) (v := 0) (by omega) j8
    rw [sFg_s] at t
    obtain ⟨μ', k1, k2, k3, k4⟩ := ih (j + 1) m _ (by omega) (by omega) t
    have ek : sKn S (j + 1) = sKn S j + pc v := by
      show sKn S j + pc (S 3 j).toNatClampNeg = _
      rw [ev, nI_clamp (by omega)]
    rw [ek] at k1
    refine ⟨μ', k1, k2, fun k h1 h2 => ?_, k4⟩
    rw [k3 k h1 h2, sI1f h1, sI1f h1]
theorem mForget {H : Nat} {S : zS} (hH : H ≤ 8) (hk : ∀ h, h < 8 → zB (S 3 h) 256) (e0 : S 10 0 = nI H) : ∀ (d j n : Nat) (ν : z_M), j + d = H → d + 40 < n → StM ν (sFg S j) → ∃ ν', f_X9_forget_h4 n (nI (sKn S j)) (nI j) ν = some (nI (sKn S H), ν') ∧ StM ν' (sB0 (sFg S H)) ∧ KY ν ν' ∧ ν'.1 0 23 = ν.1 0 23 ∧ ν'.1 0 24 = ν.1 0 24 := by
  intro d
  induction d with
  | zero =>
    intro j n ν e hn s
    obtain ⟨m, rfl⟩ : ∃ m, n = m + 1 := ⟨n - 1, by omega⟩
    have c3 : ν.1 0 8 = nI H := s.2.2.2.1.trans (by unfold sFg; rw [if_neg (by omega)]; exact e0)
    obtain rfl : j = H := by omega
    unfold f_X9_forget_h4
    rw [c3, if_neg (nI_nlt (by omega) (by omega))]
    exact ⟨_, rfl, s.clr, (KY.rf _).sI (by unfold LY; omega), rfl, rfl⟩
  | succ d ih =>
    intro j n ν e hn s
    obtain ⟨m, rfl⟩ : ∃ m, n = m + 1 := ⟨n - 1, by omega⟩
    have j8 : j < 8 := by omega
    have c3 : ν.1 0 8 = nI H := s.2.2.2.1.trans (by unfold sFg; rw [if_neg (by omega)]; exact e0)
    have c33 : ν.1 10 j = S 3 j := (s.1 j j8).2.2.2.1.trans (by unfold sFg; rw [if_neg (by omega)])
    obtain ⟨v, hv, ev⟩ := hk j j8
    unfold f_X9_forget_h4
    rw [c3, if_pos (nI_lt (by omega) (by omega)), z_chkN (by omega) (by decide), z_ixN (by omega), c33, ev, mBits (by omega) m (by omega), z_bindS, z_letE, z_chkN (by omega) (by decide), z_letE, z_chkN (by omega) (by decide), z_letE, nI_add, i_succ]
    have t := (s.set3 (v := 0) j8).set4 (v := 0) j8
    rw [sFg_s] at t
    obtain ⟨ν', k1, k2, k3, k4, k5⟩ := ih (j + 1) m _ (by omega) (by omega) t
    have ek : sKn S (j + 1) = sKn S j + pc v := by
      show sKn S j + pc (S 3 j).toNatClampNeg = _
      rw [ev, nI_clamp (by omega)]
    rw [ek] at k1
    exact ⟨ν', k1, k2, ((((KY.rf ν).sI (by unfold LY; omega)).sI (by unfold LY; omega)).tr k3), k4, k5⟩
theorem Vd.forget {N k : Nat} {S : zS} (V : Vd N S) (hN : 0 < N) : Vd N (sB0 (sFg S k)) := by
  refine V.mk' ?_ ?_ ?_ ?_ (fun h hh => ?_) (fun x => ⟨?_, ?_, ?_⟩) (fun x hx => ?_) (fun i hi => zB_0 (by omega))
  · rfl
  · rfl
  · exact V.2.2.1
  · exact V.2.2.2.1
  · obtain ⟨a, b, c, d, e⟩ := V.H1 h hh
    refine ⟨a, b, c, ?_, ?_⟩
    · show zB (if (3 = 3 ∨ 3 = 4) ∧ h < k then 0 else S 3 h) 256
      exact zB_ite (zB_0 (by omega)) d
    · show zB (if (4 = 3 ∨ 4 = 4) ∧ h < k then 0 else S 4 h) N
      exact zB_ite (zB_0 hN) e
  · rfl
  · rfl
  · rfl
  · exact V.2.2.2.2.2.2.1 x hx
theorem ag_forget {N : Nat} {μ ν : z_M} (R : Rr N μ ν) (hN : 0 < N) : Ag N (fun n => f_X8_forget n μ) (fun n => f_X9_forget n ν) := by
  obtain ⟨S, H, W, g, O⟩ := R.1.op
  have O' := O
  obtain ⟨⟨s1, s2, V⟩, ⟨hH, hW, hg1, hg3⟩, ⟨eH, eW, eg⟩, ⟨c3, c4, c5, c6⟩, ⟨m8, m9, m10, mb, m23, m24⟩, hb⟩ := O
  have hk : ∀ h, h < 8 → zB (S 3 h) 256 := fun h hh => (V.H1 h hh).2.2.2.1
  obtain ⟨μ', q1, q2, q3, q4⟩ := cForget (q := 1) hH hk eH H 0 20 μ (by omega) (by omega) (by rw [sFg_0]; exact s1)
  obtain ⟨ν', r1, r2, r3, r4, r5⟩ := mForget hH hk eH H 0 60 ν (by omega) (by omega) (by rw [sFg_0]; exact s2)
  refine ⟨nI (sKn S H), μ', ν', ⟨20, ?_⟩, ⟨60, ?_⟩, R.street (Nat.le_refl N) ⟨_, q2, r2, V.forget hN, ?_, ?_⟩ ⟨fun k i z => ?_, q4⟩ r3⟩
  · unfold f_X8_forget f_X6_forgetAll
    have q1' : f_X6_forgetAll_h4 1 20 0 0 μ = some (nI (sKn S H), μ') := q1
    dsimp only; rw [q1']; rfl
  · exact r1
  · rw [r4, m23]; exact eg.symm
  · rw [r5, m24]
  · rw [q3 k z.ne.2.1 z.ne.2.2.2]
theorem ag_trace {N : Nat} {μ ν : z_M} (R : Rr N μ ν) (x : Int32) : Ag N (fun _ => z_oP μ (f_X8_trace x μ)) (fun _ => f_X9_trace x ν) := by
  have RR := R
  obtain ⟨-, -, -, -, -, ⟨⟨r, a1, a2, a3⟩, a4⟩, -⟩ := RR
  unfold f_X8_trace f_X0_bodyAt f_X9_trace
  rw [show f_X9_isIn x 0 19 ν = f_X9_isIn x (nI 0) (nI 19) ν from rfl, a2, a3]
  rcases n3 x (n := 20) (by omega) with ⟨j, hj, rfl⟩ | h | ⟨j, hj, hj2, rfl⟩
  · have e : f_X9_isIn (nI j) (nI 0) (nI 19) ν = 1 := by
      unfold f_X9_isIn
      rw [if_neg (nI_nlt (Nat.zero_le _) (by omega)), if_neg (nI_nlt (by omega) (by omega))]
    rw [e, ifn, if_neg (nI_pos (by omega))]
    by_cases c : j < r
    · rw [if_pos (nI_lt c (by omega)), if_pos (nI_lt c (by omega)), if_pos (show nI j < (20 : Int32) from nI_lt (b := 20) hj (by omega)), g_getN hj (by decide), z_chkN hj (by decide), z_ixN (by omega), a4 j hj]
      exact ⟨_, _, _, ⟨0, rfl⟩, ⟨0, rfl⟩, R⟩
    · rw [if_neg (nI_nlt (by omega) (by omega)), if_neg (nI_nlt (by omega) (by omega))]
      exact ⟨_, _, _, ⟨0, rfl⟩, ⟨0, rfl⟩, R⟩
  · rw [if_pos h, show f_X9_isIn x (nI 0) (nI 19) ν = 0 from by unfold f_X9_isIn; rw [if_pos (show x < nI 0 from h)]]
    exact ⟨_, _, _, ⟨0, rfl⟩, ⟨0, rfl⟩, R⟩
  · have e : f_X9_isIn (nI j) (nI 0) (nI 19) ν = 0 := by
      unfold f_X9_isIn
      rw [if_neg (nI_nlt (Nat.zero_le _) (by omega)), if_pos (nI_lt (by omega) (by omega))]
    rw [e, if_neg (nI_pos hj2), if_neg (nI_nlt (show r ≤ j by omega) (by omega))]
    exact ⟨_, _, _, ⟨0, rfl⟩, ⟨0, rfl⟩, R⟩
