/-! the reference's fewest ways to be shut -/
theorem mTwice {ν : z_M} {S : zS} {H W g sh v : Nat} (M : MSt ν S H W g sh) (h8 : ∀ w, w < 12 → zB (S 8 w) 2) (hW : W ≤ 12) (hv : v < 2 ^ W) (n : Nat) (hn : 20 ≤ n) : (sub S v → f_X9_doesShutTwice n (nI v) ν = some (0, ν)) ∧ (¬ sub S v → f_X9_doesShutTwice n (nI v) ν = some (1, ν)) := by
  have hv31 : v < 2 ^ 31 := Nat.lt_of_lt_of_le hv (Nat.pow_le_pow_right (by omega) (by omega))
  have key : ∀ (d j n : Nat), j + d = W → d < n → (∀ w, w < j → v.testBit w = true → sO S 0 w) → (sub S v → f_X9_doesShutTwice_h2 n (nI v) (nI j) ν = some (0, ν)) ∧ (¬ sub S v → f_X9_doesShutTwice_h2 n (nI v) (nI j) ν = some (1, ν)) := by
    intro d
    induction d with
    | zero =>
      intro j n e hn hj
      obtain ⟨m, rfl⟩ : ∃ m, n = m + 1 := ⟨n - 1, by omega⟩
      obtain rfl : j = W := by omega
      refine ⟨fun _ => ?_, fun z => absurd (fun w hw => hj w ?_ hw) z⟩
      · rw [f_X9_doesShutTwice_h2, M.2.2.2.1, if_neg (nI_nlt (Nat.le_refl _) (by omega))]
      · apply Classical.byContradiction
        intro c
        rw [Nat.testBit_lt_two_pow (Nat.lt_of_lt_of_le hv (Nat.pow_le_pow_right (by omega) (Nat.le_of_not_lt c)))] at hw
        cases hw
    | succ d ih =>
      intro j n e hn hj
      obtain ⟨m, rfl⟩ : ∃ m, n = m + 1 := ⟨n - 1, by omega⟩
      have next : (v.testBit j = true → sO S 0 j) → (sub S v → f_X9_doesShutTwice_h2 m (nI v) (nI j + 1) ν = some (0, ν)) ∧ (¬ sub S v → f_X9_doesShutTwice_h2 m (nI v) (nI j + 1) ν = some (1, ν)) := fun q => by
        rw [i_succ]
        exact ih (j + 1) m (by omega) (by omega) (fun w hw => by
          by_cases z : w = j
          · subst z; exact q
          · exact hj w (by omega))
      rw [f_X9_doesShutTwice_h2, M.2.2.2.1, if_pos (nI_lt (by omega) (by omega))]
      unfold f_X9_doesShutTwice_b31
      by_cases z : v.testBit j = true
      · rw [if_pos ((bitv hv31 (by omega)).1 (fun q => by rw [(zbit0 hv31 (by omega)).mp q] at z; cases z)), z_chkN (by omega) (by decide), z_ixN (by omega), (M.2.1 j (by omega)).2.2.2]
        by_cases y : S 8 j = 1
        · rw [if_pos y]
          refine ⟨fun q => ?_, fun _ => rfl⟩
          have := (sO0 S j).1 (q j z)
          rw [y] at this
          exact absurd this (by decide)
        · rw [if_neg y]
          refine next (fun _ => (sO0 S j).2 ?_)
          obtain ⟨x, hx, ex⟩ := h8 j (by omega)
          rcases (show x = 0 ∨ x = 1 by omega) with rfl | rfl
          · exact ex
          · exact absurd ex y
      · rw [if_neg (fun q => (bitv hv31 (by omega)).2 q ((zbit0 hv31 (by omega)).mpr (by
          cases e : v.testBit j with
          | true => exact absurd e z
          | false => rfl)))]
        exact next (fun q => absurd q z)
  exact key W 0 n (by omega) (by omega) (fun w hw => by omega)
def oN (o : Option Nat) : Int32 := match o with | none => -1 | some u => nI u
/-- the reference's loop, from v on -/
theorem mShut {N : Nat} {μ0 ν0 : z_M} {S : zS} {H W g b k i : Nat} {set : Int32} (O : RSo N μ0 ν0 S H W g) (hb1 : b < H) (hb2 : S 10 3 = nI b) (hk : k ≤ 6) (hi : i < 8) : ∀ (d v n : Nat) (o : Option Nat) (ν : z_M), v + d = 2 ^ W → d + 620000 ≤ n → KM ν0 (z_sI ν 0 24 0) → (match o with | none => ∀ v', v' < v → ¬ gd S g W b k i set v' | some u => u < v ∧ gd S g W b k i set u ∧ ∀ v', v' < v → gd S g W b k i set v' → pc u < pc v' ∨ (pc u = pc v' ∧ u ≤ v')) → ∃ u ν', mn S g W b k i set u ∧ KM ν0 ν' ∧ f_X9_shuts_h52 n (nI i) set (nI k) (oN o) (nI v) ν = some (nI u, ν') := by
  obtain ⟨⟨s1, s2, V⟩, ⟨hH, hW, hg1, hg3⟩, ⟨eH, eW, eg⟩, ⟨c3, c4, c5, c6⟩, ⟨m8, m9, m10, mb, m23, m24⟩, hb⟩ := O
  have pW : 2 ^ W ≤ 4096 := Nat.pow_le_pow_right (n := 2) (i := W) (j := 12) (by omega) hW
  have pcb : ∀ x, pc x < 2 ^ 31 := fun x => by
    have key : ∀ n, pcs x n ≤ n := by
      intro n
      induction n with
      | zero => exact Nat.le_refl 0
      | succ n ih =>
        show pcs x n + x / 2 ^ n % 2 ≤ n + 1
        omega
    have := key 31
    unfold pc
    omega
  have stE : ∀ ν, KM ν0 (z_sI ν 0 24 0) → ∀ v, MSt (z_sI ν 0 24 (nI v)) S H W g v := fun ν J v => by
    have e : ∀ k j, LM k j → ¬ (k = 0 ∧ j = 24) → ν.1 k j = ν0.1 k j := fun k j h1 h2 => by
      have := J.1 k j h1
      rw [sI1, if_neg h2] at this; exact this
    have f : ∀ k j, ¬ (k = 0 ∧ j = 24) → (z_sI ν 0 24 (nI v)).1 k j = ν.1 k j := fun k j h => by rw [sI1, if_neg h]
    refine ⟨fun x hx => ?_, fun w hw => ?_, ?_, ?_, ?_, ?_⟩
    · rw [f 2 x (by omega), f 3 x (by omega), f 4 x (by omega), e 2 x (by unfold LM; omega) (by omega), e 3 x (by unfold LM; omega) (by omega), e 4 x (by unfold LM; omega) (by omega)]
      exact ⟨(s2.1 x hx).1, (s2.1 x hx).2.1, (s2.1 x hx).2.2.1⟩
    · rw [f 5 w (by omega), f 6 w (by omega), f 7 w (by omega), f 8 w (by omega), e 5 w (by unfold LM; omega) (by omega), e 6 w (by unfold LM; omega) (by omega), e 7 w (by unfold LM; omega) (by omega), e 8 w (by unfold LM; omega) (by omega)]
      exact s2.2.1 w hw
    · rw [f 0 8 (by omega), e 0 8 (by unfold LM; omega) (by omega)]; exact m8
    · rw [f 0 9 (by omega), e 0 9 (by unfold LM; omega) (by omega)]; exact m9
    · rw [f 0 23 (by omega), e 0 23 (by unfold LM; omega) (by omega)]; exact m23
    · rw [sI1, if_pos ⟨rfl, rfl⟩]
  intro d
  induction d with
  | zero =>
    intro v n o ν e hn J ho
    obtain ⟨m, rfl⟩ : ∃ m, n = m + 1 := ⟨n - 1, by omega⟩
    have c9 : ν.1 0 9 = nI W := by
      have := J.1 0 9 (by unfold LM; omega)
      rw [sI1, if_neg (by omega)] at this; exact this.trans m9
    rw [f_X9_shuts_h52, c9, z_bit1 (by omega), if_neg (nI_nlt (by omega) (by omega)), z_letE]
    cases o with
    | none => exact absurd (gd_open hk) (ho (sMk S W) (by have := sMk_lt S W; omega))
    | some u =>
      obtain ⟨h1, h2, h3⟩ := ho
      refine ⟨u, z_sI ν 0 24 0, ⟨h2, fun v' hv' => h3 v' (by have := hv'.1; omega) hv'⟩, J, ?_⟩
      rw [show oN (some u) = nI u from rfl, if_neg (nI_pos (by omega))]
  | succ d ih =>
    intro v n o ν e hn J ho
    obtain ⟨m, rfl⟩ : ∃ m, n = m + 1 := ⟨n - 1, by omega⟩
    have eJ : ∀ k j, LM k j → ¬ (k = 0 ∧ j = 24) → ν.1 k j = ν0.1 k j := fun k j h1 h2 => by
      have := J.1 k j h1
      rw [sI1, if_neg h2] at this; exact this
    have c9 : ν.1 0 9 = nI W := (eJ 0 9 (by unfold LM; omega) (by omega)).trans m9
    have M0 : MSt ν S H W g (ν.1 0 24).toNatClampNeg ∨ True := Or.inr trivial
    -- a skipped set
    have skip : (∀ v', v' = v → gd S g W b k i set v' → ∃ u, o = some u ∧ (pc u < pc v' ∨ (pc u = pc v' ∧ u ≤ v'))) → ∀ ν1, KM ν0 (z_sI ν1 0 24 0) → ∃ u ν', mn S g W b k i set u ∧ KM ν0 ν' ∧ f_X9_shuts_b113 (f_X9_shuts_h52 m) m (nI i) set (nI k) (oN o) (nI v) ν1 = some (nI u, ν') := by
      intro hq ν1 J1
      unfold f_X9_shuts_b113
      rw [i_succ]
      refine ih (v + 1) m o ν1 (by omega) (by omega) J1 ?_
      cases o with
      | none =>
        intro v' h1 h2
        by_cases z : v' = v
        · obtain ⟨u, e1, -⟩ := hq v' z h2
          cases e1
        · exact ho v' (by omega) h2
      | some u =>
        obtain ⟨h1, h2, h3⟩ := ho
        refine ⟨by omega, h2, fun v' g1 g2 => ?_⟩
        by_cases z : v' = v
        · obtain ⟨u', e1, e2⟩ := hq v' z g2
          cases e1; exact e2
        · exact h3 v' (by omega) g2
    -- a set to be tried
    have try1 : (∀ u, o = some u → pc v < pc u) → ∃ u ν', mn S g W b k i set u ∧ KM ν0 ν' ∧ f_X9_shuts_b81 (f_X9_shuts_h52 m) m (nI i) set (nI k) (oN o) (nI v) ν = some (nI u, ν') := by
      intro hlt
      have hd2 : (sub S v → f_X9_doesShutTwice m (nI v) ν = some (0, ν)) ∧ (¬ sub S v → f_X9_doesShutTwice m (nI v) ν = some (1, ν)) := by
        have key : ∀ y, z_sI ν 0 24 y = ν → MSt ν S H W g y.toNatClampNeg → True := fun _ _ _ => trivial
        have M : MSt (z_sI ν 0 24 (nI 0)) S H W g 0 := stE ν J 0
        have tw : ∀ (d j n : Nat), j + d = W → d < n → f_X9_doesShutTwice_h2 n (nI v) (nI j) ν = z_bind (f_X9_doesShutTwice_h2 n (nI v) (nI j) (z_sI ν 0 24 (nI 0))) (fun r => some (r.1, ν)) := by
          intro d
          induction d with
          | zero =>
            intro j n e hn
            obtain ⟨q, rfl⟩ : ∃ m, n = m + 1 := ⟨n - 1, by omega⟩
            have c9' : (z_sI ν 0 24 (nI 0)).1 0 9 = nI W := M.2.2.2.1
            rw [f_X9_doesShutTwice_h2, f_X9_doesShutTwice_h2, c9, c9', if_neg (nI_nlt (by omega) (by omega)), if_neg (nI_nlt (by omega) (by omega)), z_bindS]
          | succ d ih2 =>
            intro j n e hn
            obtain ⟨q, rfl⟩ : ∃ m, n = m + 1 := ⟨n - 1, by omega⟩
            have c9' : (z_sI ν 0 24 (nI 0)).1 0 9 = nI W := M.2.2.2.1
            have hj := ih2 (j + 1) q (by omega) (by omega)
            rw [f_X9_doesShutTwice_h2, f_X9_doesShutTwice_h2, c9, c9', if_pos (nI_lt (by omega) (by omega)), if_pos (nI_lt (by omega) (by omega))]
            unfold f_X9_doesShutTwice_b31
            rw [i_succ, hj, z_chkN (by omega) (by decide), z_chkN (by omega) (by decide), show (z_sI ν 0 24 (nI 0)).1 8 (z_ix (nI j)) = ν.1 8 (z_ix (nI j)) by rw [sI1, if_neg (by omega)]]
            split
            · split
              · rw [z_bindS]
              · rfl
            · rfl
        have A := mTwice M V.2.2.2.2.2.2.1 hW (show v < 2 ^ W by omega) m (by omega)
        unfold f_X9_doesShutTwice at A ⊢
        have t0 := tw W 0 m (by omega) (by omega)
        have t0' : f_X9_doesShutTwice_h2 m (nI v) 0 ν = z_bind (f_X9_doesShutTwice_h2 m (nI v) 0 (z_sI ν 0 24 (nI 0))) (fun r => some (r.1, ν)) := t0
        exact ⟨fun h => by rw [t0', A.1 h, z_bindS], fun h => by rw [t0', A.2 h, z_bindS]⟩
      unfold f_X9_shuts_b81
      by_cases z : sub S v
      · rw [hd2.1 z, z_bindS, if_pos rfl, z_letE]
        have M := stE ν J v
        have T : RowM (z_sI ν 0 24 (nI v)) 0 (fun a i => if a = 0 then S 3 i else if a = 1 then (z_sI ν 0 24 (nI v)).1 12 i else if a = 2 then S 4 i else if a = 3 then S 9 i else if i = 0 then S 10 3 else if i = 1 then (z_sI ν 0 24 (nI v)).1 15 0 else (z_sI ν 0 24 (nI v)).1 16 0) := by
          have T0 := row0 (s2.same J)
          exact T0.same (fun k j q => by rw [sI1, if_neg (by unfold Rw at q; omega), sI1, if_neg (by unfold Rw at q; omega)])
        obtain ⟨ν', k1, k2⟩ := mCan (set := set) V eH eW hH hW hg1 hg3 hb1 hb2 hk hi (show v < 2 ^ 31 by omega) M T m (by omega)
        have J' : KM ν0 (z_sI ν' 0 24 0) := by
          refine ⟨fun k j q => ?_, ?_⟩
          · rw [sI1]
            by_cases y : k = 0 ∧ j = 24
            · rw [if_pos y, y.1, y.2, m24]
            · rw [if_neg y, k1.1 k j q, sI1, if_neg y]; exact eJ k j q y
          · show ν'.2 22 = _
            rw [k1.2]; exact J.2
        rcases k2 with ⟨k2, k3⟩ | ⟨k2, k3⟩
        · rw [k3, z_bindS, if_pos rfl]
          have gv : gd S g W b k i set v := ⟨by omega, z, k2⟩
          unfold f_X9_shuts_b113
          rw [i_succ]
          refine ih (v + 1) m (some v) ν' (by omega) (by omega) J' ⟨by omega, gv, fun v' h1 h2 => ?_⟩
          by_cases y : v' = v
          · subst y; exact Or.inr ⟨rfl, Nat.le_refl _⟩
          · cases o with
            | none => exact absurd h2 (ho v' (by omega))
            | some u =>
              have l := hlt u rfl
              have := ho.2.2 v' (by omega) h2
              exact Or.inl (by omega)
        · rw [k3, z_bindS, if_neg (show ¬ (1 : Int32) = 0 by decide)]
          exact skip (fun v' h1 h2 => absurd (h1 ▸ h2.2.2) k2) ν' J'
      · rw [hd2.2 z, z_bindS, if_neg (show ¬ (1 : Int32) = 0 by decide)]
        exact skip (fun v' h1 h2 => absurd (h1 ▸ h2.2.1) z) ν J
    rw [f_X9_shuts_h52, c9, z_bit1 (by omega), if_pos (nI_lt (by omega) (by omega))]
    cases o with
    | none =>
      rw [if_pos (show oN none < 0 by decide)]
      exact try1 (fun u q => by cases q)
    | some u =>
      obtain ⟨h1, h2, h3⟩ := ho
      rw [if_neg (show ¬ oN (some u) < 0 from nI_pos (by omega)), mBits (by omega) m (by omega) ν, z_bindS, show oN (some u) = nI u from rfl, mBits (by omega) m (by omega) ν, z_bindS]
      by_cases z : pc v < pc u
      · rw [if_pos (nI_lt z (pcb u))]
        exact try1 (fun u' q => by cases q; exact z)
      · rw [if_neg (nI_nlt (Nat.le_of_not_lt z) (pcb v))]
        exact skip (fun v' e1 e2 => ⟨u, rfl, by
          subst e1
          by_cases y : pc u = pc v'
          · exact Or.inr ⟨y, by omega⟩
          · exact Or.inl (by omega)⟩) ν J
theorem ag_shuts {N : Nat} {μ ν : z_M} (R : Rr N μ ν) (x y z : Int32) : Ag N (fun n => f_X8_shuts n x y z μ) (fun n => f_X9_shuts n x y z ν) := by
  obtain ⟨S, H, W, g, O⟩ := R.1.op
  have O' := O
  obtain ⟨⟨s1, s2, V⟩, ⟨hH, hW, hg1, hg3⟩, ⟨eH, eW, eg⟩, ⟨c3, c4, c5, c6⟩, ⟨m8, m9, m10, mb, m23, m24⟩, hb⟩ := O
  unfold f_X8_shuts f_X9_shuts f_X8_troubleInThought f_X9_shuts_b39
  rw [show f_X8_isCount z 1 4 μ = f_X9_isIn z (nI 1) (nI 4) ν from rfl, show f_X9_isIn z 1 4 ν = f_X9_isIn z (nI 1) (nI 4) ν from rfl]
  rcases dH c3 m8 hH x with ⟨e1, e2⟩ | ⟨i, hi, rfl, e1, e2⟩
  · refine ⟨-1, _, _, ⟨0, ?_⟩, ⟨0, ?_⟩, R.refuse 1⟩
    · simp only [e1, if_true, z_letE, ne0_1, if_false, refC1]
    · simp only [e2, if_true, refM1, z_bindS]
  have bad6 : ∀ {a c : Nat → Option (Int32 × z_M)}, (a 0 = some (-6, z_sI μ 49 6 (μ.1 49 6 + 1))) → (c 0 = some (-6, z_sI ν 1 6 (ν.1 1 6 + 1))) → Ag N a c := by
    intro a c h1 h2
    exact ⟨-6, _, _, ⟨0, h1⟩, ⟨0, h2⟩, R.refuse 6⟩
  rcases dSet μ ν y with ⟨f1, f2⟩ | ⟨v, hv, rfl, f1, f2⟩
  · exact bad6 (by simp only [e1, f1, ifn, if_true, z_letE, ne0_6, if_false, refC6]) (by simp only [e2, f2, ifn, if_true, refM6, z_bindS])
  rcases dIn ν z 1 4 (by omega) (by omega) with f3 | ⟨k, -, hk, rfl, f3⟩
  · exact bad6 (by simp only [e1, f1, f3, ifn, if_true, z_letE, ne0_6, if_false, refC6]) (by simp only [e2, f2, f3, ifn, if_true, refM6, z_bindS])
  rcases hasBird c6 mb hH hb with ⟨b1, b2⟩ | ⟨b1, b2, b, hb1, hb2⟩
  · exact bad6 (by simp only [e1, f1, f3, b1, ifn, if_true, z_letE, ne0_6, if_false, refC6]) (by simp only [e2, f2, f3, ifn, show z_ix 0 = 0 from rfl, if_pos b2, refM6, z_bindS])
  have lp : 2 ^ W ≤ 4096 := Nat.pow_le_pow_right (n := 2) (i := W) (j := 12) (by omega) hW
  obtain ⟨u, μ', u1, u2, u3⟩ := cShut (set := nI v) V eH eW eg hH hW hg1 hg3 hb1 hb2 (show k ≤ 6 by omega) (show i < 8 by omega) 13 0 700000 μ (by omega) (by omega) R s1 (fun v' h => by omega)
  obtain ⟨u', ν', v1, v2, v3⟩ := mShut (set := nI v) O' hb1 hb2 (show k ≤ 6 by omega) (show i < 8 by omega) (2 ^ W) 0 700000 none ν (by omega) (by omega) ⟨fun k j q => by
    rw [sI1]
    by_cases y : k = 0 ∧ j = 24
    · rw [if_pos y, y.1, y.2, m24]
    · rw [if_neg y], rfl⟩ (fun v' h => by omega)
  obtain rfl := mn_uni u1 v1
  refine ⟨nI u, μ', ν', ⟨700000, ?_⟩, ⟨700000, ?_⟩, R.think u3 v2⟩
  · unfold f_X4_fewestToShut
    simp only [e1, f1, f3, b1, ifn, if_true, z_letE, cOpenWays s1 c4 hW 700000 (by omega), z_bindS]
    have u2' : f_X4_fewestToShut_h12 700000 (nI i) (nI v) (nI k) (nI (sMk S W)) 0 μ = some (nI u, μ') := u2
    rw [u2', z_bindS]
  · simp only [e2, f2, f3, ifn, show z_ix 0 = 0 from rfl, if_neg b2]
    exact v3
