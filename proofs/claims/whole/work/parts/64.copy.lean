/-! copy, says, ways -/
theorem dEls {μ ν : z_M} {s m k : Nat} (hs : s < 8) (hm : m ≤ 160) (e1 : μ.1 27 s = nI m) (e2 : ν.1 20 s = nI m) (hk : k < 2 ^ 31) (x : Int32) : (f_X5_hasElements (nI s) x (nI k) μ = 0 ∧ f_X9_hasCells (nI s) x (nI k) ν = some (0, ν)) ∨ ∃ i, i + k ≤ m ∧ x = nI i ∧ f_X5_hasElements (nI s) (nI i) (nI k) μ = 1 ∧ f_X9_hasCells (nI s) (nI i) (nI k) ν = some (1, ν) := by
  unfold f_X5_hasElements f_X9_hasCells
  simp only [z_letE, g_getN hs (show 8 < 2 ^ 31 by decide), z_chkN hs (show 8 < 2 ^ 31 by decide), z_ixN (show s < 2 ^ 31 by omega), e1, e2, if_neg (nI_pos hk)]
  rcases n3 x (n := m + 1) (by omega) with ⟨i, hi, rfl⟩ | h | ⟨i, hi, hi2, rfl⟩
  · simp only [if_neg (nI_pos (show i < 2 ^ 31 by omega)), if_neg (nI_nlt (show i ≤ m by omega) (show m < 2 ^ 31 by omega)), nI_sub (show i ≤ m by omega)]
    by_cases c : m - i < k
    · left; simp only [if_pos (nI_lt c hk)]; exact ⟨trivial, trivial⟩
    · right
      refine ⟨i, by omega, rfl, ?_, ?_⟩
      · simp only [if_neg (nI_pos (show i < 2 ^ 31 by omega)), if_neg (nI_nlt (show i ≤ m by omega) (show m < 2 ^ 31 by omega)), nI_sub (show i ≤ m by omega), if_neg (nI_nlt (show k ≤ m - i by omega) (show m - i < 2 ^ 31 by omega))]
      · simp only [if_neg (nI_pos (show i < 2 ^ 31 by omega)), if_neg (nI_nlt (show i ≤ m by omega) (show m < 2 ^ 31 by omega)), nI_sub (show i ≤ m by omega), if_neg (nI_nlt (show k ≤ m - i by omega) (show m - i < 2 ^ 31 by omega))]
  · left; simp only [if_pos h]; exact ⟨trivial, trivial⟩
  · left; simp only [if_neg (nI_pos hi2), if_pos (nI_lt (show m < i by omega) hi2)]; exact ⟨trivial, trivial⟩
/-- the two loops of the reference's copy -/
theorem mMove1 {p i k : Nat} {q j : Int32} (hp : p < 8) (hi : i + k ≤ 160) : ∀ (d l n : Nat) (ν : z_M), l + d = k → d < n → ∃ ν', f_X9_copy_h28 n (nI p) q (nI i) j (nI k) (nI l) ν = f_X9_copy_h66 (n - d - 1) q j (nI k) 0 ν' ∧ ν'.1 = ν.1 ∧ ν'.2 22 = ν.2 22 ∧ ∀ x, ν'.2 23 x = if l ≤ x ∧ x < k then ν.2 22 (160 * p + i + x) else ν.2 23 x := by
  intro d
  induction d with
  | zero =>
    intro l n ν e hn
    obtain ⟨m, rfl⟩ : ∃ m, n = m + 1 := ⟨n - 1, by omega⟩
    unfold f_X9_copy_h28
    rw [if_neg (nI_nlt (by omega) (by omega))]
    exact ⟨ν, rfl, rfl, rfl, fun x => by rw [if_neg (by omega)]⟩
  | succ d ih =>
    intro l n ν e hn
    obtain ⟨m, rfl⟩ : ∃ m, n = m + 1 := ⟨n - 1, by omega⟩
    unfold f_X9_copy_h28
    rw [if_pos (nI_lt (by omega) (by omega)), i160', nI_add, z_chkN (by omega) (by decide), z_chkN (by omega) (by decide), z_ixN (by omega), z_ixN (by omega), z_letE, i_succ]
    obtain ⟨ν', k1, k2, k3, k4⟩ := ih (l + 1) m (z_sL ν 23 l (ν.2 22 (160 * p + i + l))) (by omega) (by omega)
    refine ⟨ν', ?_, k2, ?_, fun x => ?_⟩
    · rw [k1, show m - d - 1 = m + 1 - (d + 1) - 1 by omega]
    · rw [k3]; funext y; rw [sL2, if_neg (by omega)]
    · rw [k4, sL2, sL2]
      by_cases c : x = l
      · subst c; rw [if_neg (by omega), if_pos ⟨rfl, rfl⟩, if_pos (by omega)]
      · by_cases c2 : l ≤ x ∧ x < k
        · rw [if_pos (by omega), if_pos c2, if_neg (by omega)]
        · rw [if_neg (by omega), if_neg (fun z => c z.2), if_neg c2]
theorem mMove2 {q j k : Nat} (hq : q < 8) (hj : j + k ≤ 160) : ∀ (d l n : Nat) (ν : z_M), l + d = k → d < n → ∃ ν', f_X9_copy_h66 n (nI q) (nI j) (nI k) (nI l) ν = some (1, ν') ∧ ν'.1 = ν.1 ∧ ∀ x, ν'.2 22 x = if 160 * q + j + l ≤ x ∧ x < 160 * q + j + k then ν.2 23 (x - (160 * q + j)) else ν.2 22 x := by
  intro d
  induction d with
  | zero =>
    intro l n ν e hn
    obtain ⟨m, rfl⟩ : ∃ m, n = m + 1 := ⟨n - 1, by omega⟩
    unfold f_X9_copy_h66
    rw [if_neg (nI_nlt (by omega) (by omega))]
    exact ⟨ν, rfl, rfl, fun x => by rw [if_neg (by omega)]⟩
  | succ d ih =>
    intro l n ν e hn
    obtain ⟨m, rfl⟩ : ∃ m, n = m + 1 := ⟨n - 1, by omega⟩
    unfold f_X9_copy_h66
    rw [if_pos (nI_lt (by omega) (by omega)), z_chkN (by omega) (by decide), i160', nI_add, z_chkN (by omega) (by decide), z_ixN (by omega), z_ixN (by omega), z_letE, i_succ]
    obtain ⟨ν', k1, k2, k3⟩ := ih (l + 1) m (z_sL ν 22 (160 * q + j + l) (ν.2 23 l)) (by omega) (by omega)
    refine ⟨ν', k1, k2, fun x => ?_⟩
    rw [k3, sL2, sL2]
    by_cases c : x = 160 * q + j + l
    · subst c
      rw [if_neg (by omega), if_pos ⟨rfl, rfl⟩, if_pos (by omega), show 160 * q + j + l - (160 * q + j) = l by omega]
    · by_cases c2 : 160 * q + j + l ≤ x ∧ x < 160 * q + j + k
      · rw [if_pos (by omega), if_pos c2, if_neg (by omega)]
      · rw [if_neg (by omega), if_neg (fun z => c z.2), if_neg c2]
theorem dRow2 {μ ν : z_M} (hR : RH μ ν) (x y : Int32) (i j n : Int32) : (∃ t, 1 ≤ t ∧ t ≤ 3 ∧ f_X5_troubleWithTwoRows x y μ = -(nI t) ∧ f_X9_notCopy x y i j n ν = some (-(nI t), ν)) ∨ ∃ p q t m m', p < 8 ∧ q < 8 ∧ t < 4 ∧ m ≤ 160 ∧ m' ≤ 160 ∧ x = nI p ∧ y = nI q ∧ f_X5_troubleWithTwoRows (nI p) (nI q) μ = 0 ∧ f_X9_notCopy (nI p) (nI q) i j n ν = f_X9_notCopy_b84 (nI p) (nI q) i j n 1 ν ∧ RowD μ ν p t m ∧ RowD μ ν q t m' := by
  unfold f_X5_troubleWithTwoRows f_X9_notCopy f_X9_notCopy_b38 f_X9_notCopy_b39
  rw [mc_shelf x μ ν, mc_shelf y μ ν]
  rcases n3 x (n := 8) (by omega) with ⟨p, hp, rfl⟩ | h | h
  · rw [cShelfY hp]
    simp only [ifn]
    rcases n3 y (n := 8) (by omega) with ⟨q, hq, rfl⟩ | h | h
    · rw [cShelfY hq]
      simp only [ifn, z_letE, g_getN hp (show 8 < 2 ^ 31 by decide), g_getN hq (show 8 < 2 ^ 31 by decide), z_chkN hp (show 8 < 2 ^ 31 by decide), z_ixN (show p < 2 ^ 31 by omega), z_chkN hq (show 8 < 2 ^ 31 by decide), z_ixN (show q < 2 ^ 31 by omega), if_true]
      have n4 : ¬ ((-1 : Int32) = 4) := by decide
      have n0 : ((-1 : Int32) < 0) := by decide
      have n40 : ¬ ((4 : Int32) < 0) := by decide
      have nt : ∀ t, t < 4 → ¬ nI (100 + t) = -1 := fun t ht e => by rw [nI_em1 (by omega)] at e; exact e
      rcases hR p hp with ⟨a1, a2, a3⟩ | ⟨h, hh, a1, a2, a3, a4⟩ | ⟨t, m, ht, hm, D⟩
      · rcases hR q hq with ⟨b1, b2, b3⟩ | ⟨h', hh', b1, b2, b3, b4⟩ | ⟨t', m', ht', hm', D'⟩
        · left; simp only [a1, a2, b1, b2, cIsHm, ifz, if_true, if_pos n0, if_neg n4]
          exact ⟨3, by omega, by omega, rfl, rfl⟩
        · left; simp only [a1, a2, b1, b3, cIsHm, cIsH1 (show h' < 100 by omega), ifz, ifn, if_true, if_pos n0, if_neg n4]
          exact ⟨2, by omega, by omega, rfl, rfl⟩
        · left; simp only [a1, a2, D'.1, D'.2.1, cIsHm, cIsH0 ht', ifz, if_true, if_pos n0, if_neg n4, if_neg (nIne4 ht')]
          exact ⟨3, by omega, by omega, rfl, rfl⟩
      · left
        simp only [a1, a3, cIsH1 (show h < 100 by omega), ifn, if_neg n40, if_true]
        refine ⟨2, by omega, by omega, rfl, ?_⟩
        by_cases c : ν.1 19 q < 0
        · rw [if_pos c]; rfl
        · rw [if_neg c]; rfl
      · rcases hR q hq with ⟨b1, b2, b3⟩ | ⟨h', hh', b1, b2, b3, b4⟩ | ⟨t', m', ht', hm', D'⟩
        · left; simp only [D.1, D.2.1, b1, b2, cIsHm, cIsH0 ht, ifz, if_true, if_pos n0, if_neg n4, if_neg (nIne4 ht), if_neg (nI_pos (show t < 2 ^ 31 by omega)), if_neg (nt t ht)]
          exact ⟨3, by omega, by omega, rfl, rfl⟩
        · left; simp only [D.1, D.2.1, b1, b3, cIsH0 ht, cIsH1 (show h' < 100 by omega), ifz, ifn, if_true, if_neg n40, if_neg (nIne4 ht), if_neg (nI_pos (show t < 2 ^ 31 by omega))]
          exact ⟨2, by omega, by omega, rfl, rfl⟩
        · by_cases e : t = t'
          · subst e
            right
            refine ⟨p, q, t, m, m', hp, hq, ht, hm, hm', rfl, rfl, ?_, ?_, D, D'⟩
            · rw [cShelfY hp, cShelfY hq]
              simp only [ifn, g_getN hp (show 8 < 2 ^ 31 by decide), g_getN hq (show 8 < 2 ^ 31 by decide), D.2.1, D'.2.1, cIsH0 ht, ifz, if_neg (nt t ht), if_true]
            · rw [mc_shelf (nI p) μ ν, mc_shelf (nI q) μ ν, cShelfY hp, cShelfY hq]
              simp only [ifn, z_chkN hp (show 8 < 2 ^ 31 by decide), z_ixN (show p < 2 ^ 31 by omega), z_chkN hq (show 8 < 2 ^ 31 by decide), z_ixN (show q < 2 ^ 31 by omega), D.1, D'.1, if_neg (nIne4 ht), if_neg (nI_pos (show t < 2 ^ 31 by omega)), if_true]
          · left
            have e1 : ¬ nI t = nI t' := nI_ne (by omega) (by omega) e
            have e2 : ¬ nI (100 + t) = nI (100 + t') := nI_ne (by omega) (by omega) (by omega)
            simp only [D.1, D.2.1, D'.1, D'.2.1, cIsH0 ht, cIsH0 ht', ifz, ifn, if_neg (nt t ht), if_neg (nt t' ht'), if_neg (nIne4 ht), if_neg (nIne4 ht'), if_neg (nI_pos (show t < 2 ^ 31 by omega)), if_neg (nI_pos (show t' < 2 ^ 31 by omega)), if_neg e1, if_neg e2]
            exact ⟨2, by omega, by omega, rfl, rfl⟩
    · rw [cShelfN (Or.inl h)]; exact Or.inl ⟨1, by omega, by omega, rfl, rfl⟩
    · rw [cShelfN (Or.inr h)]; exact Or.inl ⟨1, by omega, by omega, rfl, rfl⟩
  · rw [cShelfN (Or.inl h)]; exact Or.inl ⟨1, by omega, by omega, rfl, rfl⟩
  · rw [cShelfN (Or.inr h)]; exact Or.inl ⟨1, by omega, by omega, rfl, rfl⟩
theorem ag_copy {N : Nat} {μ ν : z_M} (R : Rr N μ ν) (x y a b c : Int32) : Ag N (fun _ => f_X8_copy x y a b c μ) (fun n => f_X9_copy n x y a b c ν) := by
  unfold f_X8_copy f_X9_copy f_X8_copy_b25 f_X8_copy_b59 f_X8_copy_b63
  rcases dRow2 R.2.2.1 x y a b c with ⟨t, h1, h3, e1, e2⟩ | ⟨p, q, t, m, m', hp, hq, ht, hm, hm', rfl, rfl, e1, e2, D, D'⟩
  · rw [e1, e2]
    simp only [z_letE, z_bindS, if_neg (refNe t h1 (show t ≤ 7 by omega)), refC t h1 (show t ≤ 7 by omega), refM t h1 (show t ≤ 7 by omega)]
    exact ⟨_, _, _, ⟨0, rfl⟩, ⟨0, rfl⟩, R.refuse t⟩
  · rw [e1, e2]
    unfold f_X9_notCopy_b84 f_X9_notCopy_b125
    simp only [ifn, z_letE, if_true]
    by_cases cn : c < 0
    · simp only [if_pos cn, z_bindS, ne0_4, if_false, refC4, refM4]
      exact ⟨_, _, _, ⟨0, rfl⟩, ⟨0, rfl⟩, R.refuse 4⟩
    · obtain ⟨k, hk, rfl⟩ := nI_of cn
      simp only [if_neg cn]
      rcases dEls (μ := μ) (ν := ν) hp hm D.2.2.2.1 D.2.2.1 hk a with ⟨q1, q2⟩ | ⟨i, hi, rfl, q1, q2⟩
      · rw [q1, q2]
        simp only [z_bindS, ifz, ne0_5, if_false, refC5, refM5]
        exact ⟨_, _, _, ⟨0, rfl⟩, ⟨0, rfl⟩, R.refuse 5⟩
      · rcases dEls (μ := μ) (ν := ν) hq hm' D'.2.2.2.1 D'.2.2.1 hk b with ⟨r1, r2⟩ | ⟨j, hj, rfl, r1, r2⟩
        · rw [q1, q2, z_bindS, r1, r2]
          simp only [z_bindS, ifz, ifn, ne0_5, if_false, refC5, refM5]
          exact ⟨_, _, _, ⟨0, rfl⟩, ⟨0, rfl⟩, R.refuse 5⟩
        · rw [q1, q2, z_bindS, r1, r2]
          simp only [z_bindS, ifn, if_true]
          obtain ⟨ν1, u1, u2, u3, u4⟩ := mMove1 (p := p) (i := i) (k := k) (q := nI q) (j := nI j) hp (by omega) k 0 400 ν (by omega) (by omega)
          obtain ⟨ν2, v1, v2, v3⟩ := mMove2 (q := q) (j := j) (k := k) hq (by omega) k 0 (400 - k - 1) ν1 (by omega) (by omega)
          have em : f_X5_moveElements (nI p) (nI q) (nI i) (nI j) (nI k) μ = some ((), z_cp μ 23 (nI (160 * p + i)) (nI (160 * q + j)) (nI k)) := by
            unfold f_X5_moveElements f_X5_moveElements_b62
            rw [i160, i160, q1, r1]
            simp only [z_letE, ifn, if_neg cn, if_neg (nI_pos (show 160 * p + i < 2 ^ 31 by omega)), if_neg (nI_pos (show 160 * q + j < 2 ^ 31 by omega))]
            rw [show (1280 : Int32) - nI (160 * p + i) = nI (1280 - (160 * p + i)) from nI_sub (a := 1280) (by omega), show (1280 : Int32) - nI (160 * q + j) = nI (1280 - (160 * q + j)) from nI_sub (a := 1280) (by omega), if_neg (nI_nlt (by omega) (by omega)), if_neg (nI_nlt (by omega) (by omega))]
            unfold z_cg
            rw [if_pos ⟨nI_pos (by omega), nI_pos (by omega), cn, by rw [z_ixN (by omega), z_ixN (by omega)]; omega, by rw [z_ixN (by omega), z_ixN (by omega)]; omega⟩]
          rw [em, z_bindS]
          have cpy : ∀ x, (z_cp μ 23 (nI (160 * p + i)) (nI (160 * q + j)) (nI k)).2 23 x = if 160 * q + j ≤ x ∧ x < 160 * q + j + k then μ.2 23 (160 * p + i + (x - (160 * q + j))) else μ.2 23 x := by
            intro x
            show (if (23 : Nat) = 23 then va_cpy (μ.2 23) (μ.2 23) (z_ix (nI (160 * p + i))) (z_ix (nI (160 * q + j))) (z_ix (nI k)) x else μ.2 23 x) = _
            rw [if_pos rfl, z_ixN (by omega), z_ixN (by omega), z_ixN (by omega)]; rfl
          refine ⟨1, _, ν2, ⟨0, rfl⟩, ⟨400, ?_⟩, R.shelf hq (fun _ _ _ => rfl) (fun _ _ _ _ => rfl) (fun z hz => ?_) (fun _ _ _ _ => by rw [v2, u2]) (fun _ _ _ _ => by rw [v2, u2]) (fun z hz => ?_) (Shf.of ht hm' ⟨by rw [v2, u2]; exact D'.1, D'.2.1, by rw [v2, u2]; exact D'.2.2.1, D'.2.2.2.1, fun z hz => ?_⟩)⟩
          · have u1' : f_X9_copy_h28 400 (nI p) (nI q) (nI i) (nI j) (nI k) 0 ν = _ := u1
            have v1' : f_X9_copy_h66 (400 - k - 1) (nI q) (nI j) (nI k) 0 ν1 = some (1, ν2) := v1
            dsimp only
            rw [u1', v1']
          · rw [cpy, if_neg (by omega)]
          · rw [v3, if_neg (by omega), u3]
          · rw [cpy, v3]
            by_cases c : 160 * q + j ≤ 160 * q + z ∧ 160 * q + z < 160 * q + j + k
            · rw [if_pos c, if_pos (by omega), u4, if_pos (by omega)]
              have := D.2.2.2.2 (i + (160 * q + z - (160 * q + j))) (by omega)
              rw [← Nat.add_assoc] at this
              exact this
            · rw [if_neg c, if_neg (by omega), u3]; exact D'.2.2.2.2 z hz
def unN (i j : Nat) : Bool := decide (f_X2_isUnder (nI i) (nI j) (fun _ _ => 0, fun _ _ => 0) = f_X9_isUnder (nI i) (nI j) (fun _ _ => 0, fun _ _ => 0))
theorem un_all : (List.range 7).all (fun i => (List.range 7).all (fun j => unN i j)) = true := by decide +kernel
theorem unEq {i j : Nat} (hi : i < 7) (hj : j < 7) (μ ν : z_M) : f_X9_isUnder (nI i) (nI j) ν = f_X2_isUnder (nI i) (nI j) μ := by
  have h := List.all_eq_true.mp (List.all_eq_true.mp un_all i (List.mem_range.mpr hi)) j (List.mem_range.mpr hj)
  exact (of_decide_eq_true h).symm
theorem mxN {a v : Nat} (ha : a < 2 ^ 30) (hv : v < 2 ^ 30) : z_mx 0 (nI a - nI v) = if v < a then nI (a - v) else 0 := by
  unfold z_mx
  by_cases c : v < a
  · rw [nI_sub (by omega), if_pos (show (0 : Int32) < nI (a - v) from nI_lt (a := 0) (by omega) (by omega)), if_pos c]
  · have e : ¬ (0 : Int32) < nI a - nI v := by
      rw [Int32.lt_iff_toInt_lt, Int32.toInt_sub, nI_toInt (by omega), nI_toInt (by omega), show (0 : Int32).toInt = 0 from rfl, Int.bmod_eq_of_le (by omega) (by omega)]
      omega
    rw [if_neg e, if_neg c]
theorem ag_says {N : Nat} {μ ν : z_M} (R : Rr N μ ν) (hN : N ≤ 2 ^ 30) (x y : Int32) : Ag N (fun _ => z_oT (f_X8_says x y μ)) (fun _ => f_X9_says x y ν) := by
  obtain ⟨S, H, W, g, O⟩ := R.1.op
  have O' := O
  obtain ⟨⟨s1, s2, V⟩, ⟨hH, hW, hg1, hg3⟩, ⟨eH, eW, eg⟩, ⟨c3, c4, c5, c6⟩, ⟨m8, m9, m10, mb, m23, m24⟩, hb⟩ := O
  unfold f_X8_says f_X9_says f_X9_says_b17
  rw [kind_in y μ ν, mc_shelf x μ ν]
  have b1 : Ag N (fun _ => z_oT (f_X8_says_b19 x y (-1) μ)) (fun _ => z_bind (f_X9_no (-1) ν) (fun p1 => some (p1.1, p1.2))) := by
    unfold f_X8_says_b19 f_X8_says_b54
    simp only [z_letE, ne0_1, if_false, refC1]
    exact ⟨_, _, _, ⟨0, rfl⟩, ⟨0, rfl⟩, R.refuse 1⟩
  rw [show f_X9_isIn y 0 6 ν = f_X9_isIn y (nI 0) (nI 6) ν from rfl]
  rcases dIn ν y 0 6 (by omega) (by omega) with e | ⟨j, h1, h3, rfl, e⟩
  · rw [e]
    by_cases c : f_X5_isShelf x μ = 0
    · rw [if_pos c]; exact b1
    · rw [if_neg c]; exact b1
  · rw [e]
    simp only [ifn]
    unfold f_X5_troubleWithHouse
    rcases n3 x (n := 8) (by omega) with ⟨s, hs, rfl⟩ | h | h
    · rw [cShelfY hs]
      simp only [ifn, z_letE, z_chkN hs (show 8 < 2 ^ 31 by decide), z_ixN (show s < 2 ^ 31 by omega), g_getN hs (show 8 < 2 ^ 31 by decide)]
      unfold f_X8_says_b19 f_X8_says_b54 f_X5_holding
      rw [cShelfY hs]
      simp only [ifn, z_letE, g_getN hs (show 8 < 2 ^ 31 by decide)]
      rcases R.2.2.1 s hs with ⟨a1, a2, a3⟩ | ⟨h, hh, a1, a2, a3, a4⟩ | ⟨t, m, ht, hm, a1, a2, a3, a4, a5⟩
      · rw [a1, a2, show f_X9_isIn (-1) 0 3 ν = 0 from rfl, show f_X5_isRow (-1) μ = 0 from rfl]
        simp only [ifz, if_true, ne0_3, if_false, refC3, if_pos (show (-1 : Int32) < 0 by decide)]
        exact ⟨_, _, _, ⟨0, rfl⟩, ⟨0, rfl⟩, R.refuse 3⟩
      · have er : f_X5_isRow (nI h) μ = 0 := by
          unfold f_X5_isRow
          rw [if_pos (show nI h < (100 : Int32) from nI_lt (b := 100) (by omega) (by omega))]
        obtain ⟨z0, z1, z2, z3, z4⟩ := V.H1 h hh
        obtain ⟨k, hk, ek⟩ := z0
        obtain ⟨d0, d1, d2, d3, d4⟩ := s2.1 h hh
        rw [a1, a2, a3, er, show f_X9_isIn 4 0 3 ν = 0 from rfl]
        simp only [ifz, if_true, if_neg (neHi hh), if_neg (show ¬ ((4 : Int32) < 0) by decide), z_chkN hh (show 8 < 2 ^ 31 by decide), z_chkN (show h < 72 by omega) (show 72 < 2 ^ 31 by decide), z_ixN (show h < 2 ^ 31 by omega), cO0 s1 hh, d0, d1, d2, d3, d4, ek, unEq hk (show j < 7 by omega) μ ν]
        by_cases u : f_X2_isUnder (nI k) (nI j) μ = 0
        · simp only [if_pos u, ne0_2, if_false, refC2]
          exact ⟨_, _, _, ⟨0, rfl⟩, ⟨0, rfl⟩, R.refuse 2⟩
        · simp only [if_neg u]
          unfold f_X6_saysAs
          rw [cO1 s1 hh, cO2 s1 hh, cO3 s1 hh, cO4 s1 hh, cAns0 s1 hh, mAns0 s2 hh]
          rcases (show j = 0 ∨ j = 1 ∨ j = 2 ∨ j = 3 ∨ j = 4 ∨ j = 5 ∨ j = 6 by omega) with rfl | rfl | rfl | rfl | rfl | rfl | rfl
          · exact ⟨_, _, _, ⟨0, rfl⟩, ⟨0, rfl⟩, R⟩
          · exact ⟨_, _, _, ⟨0, rfl⟩, ⟨0, rfl⟩, R⟩
          · exact ⟨_, _, _, ⟨0, rfl⟩, ⟨0, rfl⟩, R⟩
          · exact ⟨_, _, _, ⟨0, rfl⟩, ⟨0, rfl⟩, R⟩
          · exact ⟨_, _, _, ⟨0, rfl⟩, ⟨0, rfl⟩, R⟩
          · exact ⟨_, _, _, ⟨0, rfl⟩, ⟨0, rfl⟩, R⟩
          · obtain ⟨a, ha, ea⟩ := z2
            obtain ⟨v, hv, ev⟩ := z4
            rw [ea, ev, mxN (by omega) (by omega)]
            refine ⟨if v < a then nI (a - v) else 0, μ, ν, ⟨0, rfl⟩, ⟨0, ?_⟩, R⟩
            dsimp only
            rw [if_neg (by decide), if_neg (by decide), if_neg (by decide), if_neg (by decide), if_neg (by decide), if_neg (by decide)]
            by_cases c : v < a
            · rw [if_pos c, if_pos (nI_lt c (by omega)), nI_sub (by omega)]
            · rw [if_neg c, if_neg (nI_nlt (by omega) (by omega))]
      · have er : f_X5_isRow (nI (100 + t)) μ = 1 := by
          unfold f_X5_isRow
          rw [if_neg (show ¬ nI (100 + t) < (100 : Int32) from nI_nlt (b := 100) (by omega) (by omega))]
        have e2 : f_X9_isIn (nI t) 0 3 ν = 1 := by
          unfold f_X9_isIn
          rw [if_neg (nI_pos (by omega)), if_neg (show ¬ (3 : Int32) < nI t from nI_nlt (a := 3) (by omega) (by omega))]
        rw [a1, a2, er, e2]
        simp only [ifn, ne0_2, if_false, refC2]
        exact ⟨_, _, _, ⟨0, rfl⟩, ⟨0, rfl⟩, R.refuse 2⟩
    · rw [cShelfN (Or.inl h)]; simp only [ifz, if_true]; exact b1
    · rw [cShelfN (Or.inr h)]; simp only [ifz, if_true]; exact b1
theorem RowD.same {μ ν μ' ν' : z_M} {s t m : Nat} (D : RowD μ ν s t m) (c : KX μ μ') (d : KY ν ν') : RowD μ' ν' s t m := by
  obtain ⟨a, b, c0, d0, e⟩ := D
  refine ⟨?_, ?_, ?_, ?_, fun i hi => ?_⟩
  · rw [d.1 19 s (by unfold LY; omega)]; exact a
  · rw [c.1 25 s (by unfold LX; omega)]; exact b
  · rw [d.1 20 s (by unfold LY; omega)]; exact c0
  · rw [c.1 27 s (by unfold LX; omega)]; exact d0
  · rw [c.2, d.2]; exact e i hi
theorem ways_loop {s t m i q : Nat} (hs : s < 8) (hm : m ≤ 160) (hi : i + 3 * q ≤ m) : ∀ (d k N : Nat) (μ ν : z_M), k + d = q → Rr N μ ν → RowD μ ν s t m → ∃ r μ' ν', (∀ n, d + 1 ≤ n → f_X8_addWays_h6 n (nI s) (nI i) (nI (3 * q)) (nI k) (nI (3 * k)) μ = some (r, μ')) ∧ (∀ n, d + 1 ≤ n → f_X9_ways_h65 n (nI s) (nI i) (nI (3 * q)) (nI k) ν = some (r, ν')) ∧ Rr N μ' ν' := by
  intro d
  induction d with
  | zero =>
    intro k N μ ν e R D
    obtain rfl : k = q := by omega
    refine ⟨nI k, μ, ν, fun n hn => ?_, fun n hn => ?_, R⟩
    · obtain ⟨l, rfl⟩ : ∃ l, n = l + 1 := ⟨n - 1, by omega⟩
      unfold f_X8_addWays_h6
      rw [i_add2, if_neg (nI_nlt (by omega) (by omega))]
    · obtain ⟨l, rfl⟩ : ∃ l, n = l + 1 := ⟨n - 1, by omega⟩
      unfold f_X9_ways_h65
      rw [i3_0, if_neg (nI_nlt (by omega) (by omega))]
  | succ d ih =>
    intro k N μ ν e R D
    obtain ⟨S, H, W, g, O⟩ := R.1.op
    have O' := O
    obtain ⟨⟨s1, s2, V⟩, ⟨hH, hW, hg1, hg3⟩, ⟨eH, eW, eg⟩, ⟨c3, c4, c5, c6⟩, ⟨m8, m9, m10, mb, m23, m24⟩, hb⟩ := O
    have a1 := cInt (i := i + 3 * k) hs hm D (by omega)
    have a2 := cInt (i := i + 3 * k + 1) hs hm D (by omega)
    have a3 := cInt (i := i + 3 * k + 2) hs hm D (by omega)
    have b1 := mInt (ν := ν) (i := i + 3 * k) hs (by omega)
    have b2 := mInt (ν := ν) (i := i + 3 * k + 1) hs (by omega)
    have b3 := mInt (ν := ν) (i := i + 3 * k + 2) hs (by omega)
    generalize Int64.toInt32 (ν.2 22 (160 * s + (i + 3 * k))) = u1 at a1 b1
    generalize Int64.toInt32 (ν.2 22 (160 * s + (i + 3 * k + 1))) = u2 at a2 b2
    generalize Int64.toInt32 (ν.2 22 (160 * s + (i + 3 * k + 2))) = u3 at a3 b3
    have step1 : ∀ l, f_X8_addWays_h6 (l + 1) (nI s) (nI i) (nI (3 * q)) (nI k) (nI (3 * k)) μ = if f_X8_troubleWithWay u1 u2 u3 μ = 0 then (z_let (f_X6_addWay 1 u1 u2 u3 μ) (fun p4 => f_X8_addWays_h6 l (nI s) (nI i) (nI (3 * q)) (nI (k + 1)) (nI (3 * (k + 1))) p4.2)) else some (nI k, μ) := by
      intro l
      rw [f_X8_addWays_h6, i_add2, if_pos (nI_lt (by omega) (by omega)), nI_add, i_succ, i_add2, a1, z_bindS, a2, z_bindS, a3, z_bindS, i_succ, show nI (3 * k) + 3 = nI (3 * (k + 1)) from nI_add (3 * k) 3]
    have step2 : ∀ l, f_X9_ways_h65 (l + 1) (nI s) (nI i) (nI (3 * q)) (nI k) ν = if f_X9_notWay u1 u2 u3 ν = 0 then (z_bind (f_X9_makesWay u1 u2 u3 ν) (fun p8 => f_X9_ways_h65 l (nI s) (nI i) (nI (3 * q)) (nI (k + 1)) p8.2)) else some (nI k, ν) := by
      intro l
      rw [f_X9_ways_h65, i3_0, if_pos (nI_lt (by omega) (by omega)), nI_add, i_succ, i_add2, i_succ]
      simp only [b1, z_bindS, b2, b3]
    rcases dTW c3 m8 hH c4 m9 hW u1 u2 u3 with ⟨t', h1, h7, e1, e2⟩ | ⟨e1, e2, r, ha, hb', hne, hm3⟩
    · refine ⟨nI k, μ, ν, fun n hn => ?_, fun n hn => ?_, R⟩
      · obtain ⟨l, rfl⟩ : ∃ l, n = l + 1 := ⟨n - 1, by omega⟩
        rw [step1, e1, if_neg (refNe t' h1 h7)]
      · obtain ⟨l, rfl⟩ : ∃ l, n = l + 1 := ⟨n - 1, by omega⟩
        rw [step2, e2, if_neg (refNe t' h1 h7)]
    · obtain ⟨μ1, ν1, q1, q2, q3, q4, q5, q6⟩ := R.addWay O' r ha hb' hne hm3
      obtain ⟨r', μ2, ν2, k1, k2, k3⟩ := ih (k + 1) N μ1 ν1 (by omega) q4 (D.same q5 q6)
      refine ⟨r', μ2, ν2, fun n hn => ?_, fun n hn => ?_, k3⟩
      · obtain ⟨l, rfl⟩ : ∃ l, n = l + 1 := ⟨n - 1, by omega⟩
        rw [step1, e1, if_pos rfl, q1, z_letE]
        exact k1 l (by omega)
      · obtain ⟨l, rfl⟩ : ∃ l, n = l + 1 := ⟨n - 1, by omega⟩
        rw [step2, e2, if_pos rfl, q2, z_bindS]
        exact k2 l (by omega)
theorem ag_ways {N : Nat} {μ ν : z_M} (R : Rr N μ ν) (x y z : Int32) : Ag N (fun n => f_X8_ways n x y z μ) (fun n => f_X9_ways n x y z ν) := by
  unfold f_X8_ways f_X9_ways f_X8_ways_b23 f_X8_ways_b45 f_X8_ways_b60 f_X9_ways_b48 f_X9_ways_b50
  rcases dRow R.2.2.1 x with ⟨t, h1, h3, e1, e2⟩ | ⟨s, t, m, hs, ht, hm, rfl, e1, e2, D⟩
  · rw [e1, e2]
    simp only [z_letE, z_bindS, if_neg (refNe t h1 (show t ≤ 7 by omega)), refC t h1 (show t ≤ 7 by omega), refM t h1 (show t ≤ 7 by omega)]
    exact ⟨_, _, _, ⟨0, rfl⟩, ⟨0, rfl⟩, R.refuse t⟩
  · rw [e1, e2]
    simp only [z_letE, z_bindS, if_true]
    by_cases cn : z < 0
    · simp only [if_pos cn, ne0_4, if_false, refC4, refM4, z_bindS]
      exact ⟨_, _, _, ⟨0, rfl⟩, ⟨0, rfl⟩, R.refuse 4⟩
    · obtain ⟨k, hk, rfl⟩ := nI_of cn
      simp only [if_neg cn]
      rcases dEls (μ := μ) (ν := ν) hs hm D.2.2.2.1 D.2.2.1 hk y with ⟨q1, q2⟩ | ⟨i, hi, rfl, q1, q2⟩
      · simp only [q1, q2, z_bindS, if_true, ne0_5, if_false, refC5, refM5]
        exact ⟨_, _, _, ⟨0, rfl⟩, ⟨0, rfl⟩, R.refuse 5⟩
      · have er : z_rem (nI k) 3 = nI (k % 3) := z_remN (b := 3) hk (by omega)
        simp only [q1, q2, z_bindS, ifn, er]
        by_cases c : k % 3 = 0
        · obtain ⟨q, rfl⟩ : ∃ q, k = 3 * q := ⟨k / 3, by omega⟩
          obtain ⟨r, μ', ν', k1, k2, k3⟩ := ways_loop hs hm (by omega) q 0 N μ ν (by omega) R D
          simp only [c, show nI 0 = 0 from rfl, if_true]
          refine ⟨r, μ', ν', ⟨q + 1, ?_⟩, ⟨q + 1, k2 (q + 1) (by omega)⟩, k3⟩
          unfold f_X8_addWays
          have := k1 (q + 1) (by omega)
          have this' : f_X8_addWays_h6 (q + 1) (nI s) (nI i) (nI (3 * q)) 0 0 μ = some (r, μ') := this
          dsimp only
          rw [this']; rfl
        · have c' : ¬ nI (k % 3) = 0 := nI_ne (b := 0) (by omega) (by omega) c
          simp only [if_neg c', ne0_6, if_false, refC6, refM6, z_bindS]
          exact ⟨_, _, _, ⟨0, rfl⟩, ⟨0, rfl⟩, R.refuse 6⟩
