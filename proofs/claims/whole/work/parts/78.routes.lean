/-! between, judge, minutes, hears, other -/
theorem Sd.of {N : Nat} {S : zS} {H W L b : Nat} {fr : Bool} {sp : Int32} (V : Vd N S) (eH : S 10 0 = nI H) (eW : S 10 1 = nI W) (hH : H ≤ 8) (hW : W ≤ 12) (eb : S 10 3 = nI b) (hb : b < H) (h1 : 1 ≤ L) (h3 : L ≤ 3) : Sd N S H W L b (t00 S fr sp) := ⟨V, eH, eW, hH, hW, eb, hb, h1, h3, fun i => (or0 _).symm, fun i => rfl, fun i => rfl⟩
/-- the class's walk as it begins -/
theorem cBegin' {N H W g sh b : Nat} {μ ν : z_M} {S : zS} {sp : Int32} (R : Rr N μ ν) (s1 : StC 1 μ S) (V : Vd N S) (eH : S 10 0 = nI H) (eW : S 10 1 = nI W) (eg : S 10 2 = nI g) (hH : H ≤ 8) (hW : W ≤ 12) (hs : sh < 2 ^ 31) (n : Nat) (hn : 20 ≤ n) : ∃ μ', f_X7_beginWithout n (nI sh) μ = some ((), μ') ∧ Wk μ' S H W g sh b (t00 S false sp) [] ∧ KC μ μ' ∧ (∀ k, k ≠ 31 → k ≠ 33 → k ≠ 39 → μ'.1 k = μ.1 k) := by
  obtain ⟨μ', q1, q2, q3, q4, q5, q6, q7⟩ := cBegin s1 V eH eW eg hH hW hs n hn
  refine ⟨μ', q1, ⟨s1.same (fun i => by rw [q6 3 (by decide) (by decide) (by decide)]) (fun i => by rw [q6 5 (by decide) (by decide) (by decide)]) (fun i => by rw [q6 7 (by decide) (by decide) (by decide)]) (fun i => by rw [q6 1 (by decide) (by decide) (by decide)]), q2, q3, q4, fun i hi => q5 i hi, ?_⟩, ⟨fun k j z => ?_, q7⟩, q6⟩
  · rw [q6 41 (by decide) (by decide) (by decide)]; exact R.2.2.2.2.2.2
  · unfold LC at z
    rw [q6 k (by omega) (by omega) (by omega)]
theorem mBegins7 : ∀ (d j n : Nat) (ν : z_M), j + d = 8 → d < n → ∃ ν', f_X9_begins_h2 n (nI 7) (nI j) ν = some ((), ν') ∧ (∀ k i, ν'.1 k i = if k = 12 ∧ 56 + j ≤ i ∧ i < 64 then 0 else if k = 15 ∧ i = 7 then 0 else ν.1 k i) ∧ ∀ k, k ≠ 17 → ν'.2 k = ν.2 k := by
  intro d
  induction d with
  | zero =>
    intro j n ν e hn
    obtain ⟨m, rfl⟩ : ∃ m, n = m + 1 := ⟨n - 1, by omega⟩
    obtain rfl : j = 8 := by omega
    rw [f_X9_begins_h2, if_neg (show ¬ nI 8 < (8 : Int32) by decide), z_chkN (by omega) (by decide), z_letE, z_chkN (by omega) (by decide), z_letE]
    refine ⟨_, rfl, fun k i => ?_, fun k hk => ?_⟩
    · rw [sL1, sI1, if_neg (show ¬ (k = 12 ∧ 56 + 8 ≤ i ∧ i < 64) by omega)]; rfl
    · funext y; rw [sL2, if_neg (fun z => hk z.1)]; rfl
  | succ d ih =>
    intro j n ν e hn
    obtain ⟨m, rfl⟩ : ∃ m, n = m + 1 := ⟨n - 1, by omega⟩
    rw [f_X9_begins_h2, if_pos (show nI j < (8 : Int32) from nI_lt (b := 8) (by omega) (by omega)), i8_h, z_chkN (by omega) (by decide), z_ixN (by omega), z_letE, i_succ]
    obtain ⟨ν', q1, q2, q4⟩ := ih (j + 1) m (z_sI ν 12 (8 * 7 + j) 0) (by omega) (by omega)
    refine ⟨ν', q1, fun k i => ?_, q4⟩
    rw [q2, sI1]
    by_cases z : k = 12 ∧ i = 8 * 7 + j
    · rw [if_neg (by omega), if_neg (by omega), if_pos z, if_pos (by omega)]
    · by_cases z2 : k = 12 ∧ 56 + (j + 1) ≤ i ∧ i < 64
      · rw [if_pos z2, if_pos (by omega)]
      · rw [if_neg z2, if_neg z, if_neg (show ¬ (k = 12 ∧ 56 + j ≤ i ∧ i < 64) by omega)]
theorem mRoute {S : zS} {H W g b s k : Nat} {fr : Bool} {xs : Nat → Int32} {ν : z_M} {t : zT} (hH : H ≤ 8) (hW : W ≤ 12) (hg1 : 1 ≤ g) (hg3 : g ≤ 3) (hb : b < H) (hs : s < 8) (hk : k ≤ 160) (hx : ∀ j, Int64.toInt32 (ν.2 22 (160 * s + j)) = xs j) (M : MSt ν S H W g 0) (T : RowM ν 0 t) (e0 : ∀ i, i < 8 → t 0 i = S 3 i) (e2 : ∀ i, i < 8 → t 2 i = S 4 i) (e3 : ∀ i, i < 3 → t 3 i = if fr then 0 else S 9 i) (e4 : t 4 0 = nI b) (eb : S 10 3 = nI b) (n : Nat) (hn : 300 ≤ n) : ∃ ν', f_X9_goesRoute n (nI s) (nI k) ν = some (toR S 0 W H xs k 0 b, ν') ∧ RowM ν' 7 (tR S g (fun a c => sLk S 0 a c W) b (t00 S fr 0) (toP S 0 W H b xs k 0 [])) ∧ F7 ν ν' := by
  obtain ⟨ν1, q1, q2, q3, q4⟩ := mCopies (a := 0) (c := 7) (by omega) (by omega) (by omega) n (by omega) ν
  have T1 : RowM ν1 7 t := T.copy q4
  have f1 : ∀ k j, ¬ Rw 7 k j → ν1.1 k j = ν.1 k j := fun k j z => by
    unfold Rw at z
    rw [q4, if_neg (by omega), if_neg (by omega), if_neg (by omega)]
  obtain ⟨ν2, r1, r2, r3⟩ := mBegins7 8 0 n ν1 (by omega) (by omega)
  obtain ⟨ν3, e3'⟩ : ∃ y, y = z_sI ν2 16 7 0 := ⟨_, rfl⟩
  have f3 : ∀ k j, ¬ Rw 7 k j → ν3.1 k j = ν.1 k j := fun k j z => by
    rw [e3', sI1, if_neg (by unfold Rw at z; omega), r2, if_neg (by unfold Rw at z; omega), if_neg (by unfold Rw at z; omega), f1 k j z]
  have l3 : ∀ k, k ≠ 17 → ν3.2 k = ν.2 k := fun k hk => by rw [e3', sI2, r3 k hk, q3 k hk]
  have T3 : RowM ν3 7 (t00 S fr 0) := by
    obtain ⟨a1, ⟨m, a2, a3, a4⟩, a5, a6, a7⟩ := T1
    have g3 : ∀ k j, k ≠ 16 → k ≠ 12 → k ≠ 15 → ν3.1 k j = ν1.1 k j := fun k j h1 h2 h3 => by
      rw [e3', sI1, if_neg (fun z => h1 z.1), r2, if_neg (fun z => h2 z.1), if_neg (fun z => h3 z.1)]
    refine ⟨fun x hx => ⟨?_, ?_, ?_⟩, ⟨m, a2, ?_, fun i hi => ?_⟩, ?_, ?_, ?_⟩
    · rw [g3 10 _ (by decide) (by decide) (by decide), (a1 x hx).1, e0 x hx]; rfl
    · rw [e3', sI1, if_neg (by omega), r2, if_pos (by omega)]; rfl
    · rw [g3 11 _ (by decide) (by decide) (by decide), (a1 x hx).2.2, e2 x hx]; rfl
    · rw [g3 14 _ (by decide) (by decide) (by decide)]; exact a3
    · rw [g3 13 _ (by decide) (by decide) (by decide), ← a4 i hi, e3 i hi]; rfl
    · rw [g3 9 _ (by decide) (by decide) (by decide), a5, e4]; exact eb.symm
    · rw [e3', sI1, if_neg (by omega), r2, if_neg (by omega), if_pos ⟨rfl, rfl⟩]; rfl
    · rw [e3', sI1, if_pos ⟨rfl, rfl⟩]; rfl
  have F3 : F7 ν ν3 := ⟨f3, l3⟩
  obtain ⟨ν', k1, k2, k3⟩ := mTold (t0 := t00 S fr 0) (xs := xs) hH hW hg1 hg3 hb (show t00 S fr 0 4 0 = nI b from eb) hs hk k 0 n [] ν3 (by omega) (by omega) (fun j => by rw [l3 22 (by decide)]; exact hx j) (M.same F3.toF) hb T3
  refine ⟨ν', ?_, k2, F3.tr k3⟩
  unfold f_X9_goesRoute f_X9_begins
  have q1' : f_X9_copies n 0 7 ν = some ((), ν1) := q1
  have r1' : f_X9_begins_h2 n 7 0 ν1 = some ((), ν2) := r1
  have k1' : f_X9_goesRoute_h23 n (nI s) (nI k) 0 ν3 = _ := k1
  rw [q1', z_bindS]
  dsimp only
  rw [r1', z_bindS, show z_chk 7 9 = z_chk (nI 7) 9 from rfl, z_chkN (by omega) (by decide), z_letE, show z_ix 7 = 7 from rfl, ← e3', k1']; rfl
theorem MSt.of {μ ν : z_M} {S : zS} {H W g N : Nat} (O : RSo N μ ν S H W g) : MSt ν S H W g 0 := by
  obtain ⟨⟨s1, s2, V⟩, ⟨hH, hW, hg1, hg3⟩, ⟨eH, eW, eg⟩, ⟨c3, c4, c5, c6⟩, ⟨m8, m9, m10, mb, m23, m24⟩, hb⟩ := O
  exact ⟨fun x hx => ⟨(s2.1 x hx).1, (s2.1 x hx).2.1, (s2.1 x hx).2.2.1⟩, s2.2.1, m8, m9, m23, m24⟩
theorem dRoute {N : Nat} {μ ν : z_M} (R : Rr N μ ν) {S : zS} {H W g : Nat} (O : RSo N μ ν S H W g) (x z : Int32) {M : Nat} (hM : M ≤ 40) : (∃ t, 1 ≤ t ∧ t ≤ 7 ∧ f_X8_troubleWithRoute x z (nI M) μ = -(nI t) ∧ f_X9_notRoute x z (nI M) ν = some (-(nI t), ν)) ∨ ∃ s t m k b, s < 8 ∧ m ≤ 160 ∧ k ≤ m ∧ k ≤ M ∧ x = nI s ∧ z = nI k ∧ f_X8_troubleWithRoute (nI s) (nI k) (nI M) μ = 0 ∧ f_X9_notRoute (nI s) (nI k) (nI M) ν = some (0, ν) ∧ RowD μ ν s t m ∧ b < H ∧ S 10 3 = nI b := by
  obtain ⟨⟨s1, s2, V⟩, ⟨hH, hW, hg1, hg3⟩, ⟨eH, eW, eg⟩, ⟨c3, c4, c5, c6⟩, ⟨m8, m9, m10, mb, m23, m24⟩, hb⟩ := O
  unfold f_X8_troubleWithRoute f_X8_troubleWithRoute_b34 f_X5_troubleWithStart f_X9_notRoute f_X9_notRoute_b53
  rcases dRow R.2.2.1 x with ⟨t, h1, h3, e1, e2⟩ | ⟨s, t, m, hs, ht, hm, rfl, e1, e2, D⟩
  · rw [e1, e2]
    left
    simp only [z_letE, z_bindS, if_neg (refNe t h1 (show t ≤ 7 by omega))]
    exact ⟨t, h1, by omega, rfl, rfl⟩
  · simp only [e1, e2, z_letE, z_bindS, if_true, g_getN hs (show 8 < 2 ^ 31 by decide), z_chkN hs (show 8 < 2 ^ 31 by decide), z_ixN (show s < 2 ^ 31 by omega), D.2.2.1, D.2.2.2.1, show z_ix 0 = 0 from rfl]
    by_cases cn : z < 0
    · simp only [if_pos cn, ne0_4, if_false]
      exact Or.inl ⟨4, by omega, by omega, rfl, rfl⟩
    · obtain ⟨k, hk, rfl⟩ := nI_of cn
      simp only [if_neg cn]
      by_cases c1 : m < k
      · simp only [if_pos (nI_lt c1 hk), ne0_5, if_false]
        exact Or.inl ⟨5, by omega, by omega, rfl, rfl⟩
      · simp only [if_neg (nI_nlt (show k ≤ m by omega) (show m < 2 ^ 31 by omega)), if_true]
        by_cases c2 : M < k
        · simp only [if_pos (nI_lt c2 hk)]
          exact Or.inl ⟨6, by omega, by omega, rfl, rfl⟩
        · simp only [if_neg (nI_nlt (show k ≤ M by omega) (show M < 2 ^ 31 by omega))]
          rcases hasBird c6 mb hH hb with ⟨b1, b2⟩ | ⟨b1, b2, b, hb1, hb2⟩
          · simp only [b1, if_true, if_pos b2]
            exact Or.inl ⟨6, by omega, by omega, rfl, rfl⟩
          · right
            refine ⟨s, t, m, k, b, hs, hm, by omega, by omega, rfl, rfl, ?_, ?_, D, hb1, hb2⟩
            · simp only [e1, if_true, if_neg cn, if_neg (nI_nlt (show k ≤ m by omega) (show m < 2 ^ 31 by omega)), if_neg (nI_nlt (show k ≤ M by omega) (show M < 2 ^ 31 by omega)), b1, ifn, g_getN hs (show 8 < 2 ^ 31 by decide), D.2.2.2.1]
            · simp only [e2, z_bindS, if_true, if_neg cn, z_chkN hs (show 8 < 2 ^ 31 by decide), z_ixN (show s < 2 ^ 31 by omega), D.2.2.1, if_neg (nI_nlt (show k ≤ m by omega) (show m < 2 ^ 31 by omega)), if_neg (nI_nlt (show k ≤ M by omega) (show M < 2 ^ 31 by omega)), if_neg b2]
theorem ag_between {N : Nat} {μ ν : z_M} (R : Rr N μ ν) (x y : Int32) : Ag N (fun n => f_X8_between n x y μ) (fun n => f_X9_between n x y ν) := by
  obtain ⟨S, H, W, g, O⟩ := R.1.op
  have O' := O
  obtain ⟨⟨s1, s2, V⟩, ⟨hH, hW, hg1, hg3⟩, ⟨eH, eW, eg⟩, ⟨c3, c4, c5, c6⟩, ⟨m8, m9, m10, mb, m23, m24⟩, hb⟩ := O
  unfold f_X8_between f_X9_between f_X8_between_b22 f_X9_between_b16
  rcases dH c3 m8 hH x with ⟨e1, e2⟩ | ⟨i, hi, rfl, e1, e2⟩
  · rw [e1, e2]; exact ⟨_, _, _, ⟨0, rfl⟩, ⟨0, rfl⟩, R.refuse 1⟩
  · rw [e1, e2]
    rcases dH c3 m8 hH y with ⟨e3, e4⟩ | ⟨j, hj, rfl, e3, e4⟩
    · rw [e3, e4]; exact ⟨_, _, _, ⟨0, rfl⟩, ⟨0, rfl⟩, R.refuse 1⟩
    · rw [e3, e4]
      obtain ⟨μ', q1, q2, q3, -⟩ := cBegin' (sh := 0) (b := 0) (sp := 0) R s1 V eH eW eg hH hW (by omega) 100 (by omega)
      refine ⟨nI (sLk S 0 i j W) - 1, μ', ν, ⟨100, ?_⟩, ⟨100, ?_⟩, R.think q3 (KM.rf ν)⟩
      · dsimp only
        rw [ifn, ifn]
        unfold f_X7_begin
        have q1' : f_X7_beginWithout 100 0 μ = some ((), μ') := q1
        rw [q1', z_bindS, z_bindS]
        dsimp only
        rw [cTaken ((q2.1.2.2.2 0 (by omega)).trans eH) hH q2.2.1 hi hj]
      · dsimp only
        rw [ifn, ifn, mBetween (MSt.of O') hW (by omega) 100 (by omega)]; rfl
/-- both walk a told route, as far as it is one -/
theorem both {N : Nat} {μ ν : z_M} (R : Rr N μ ν) {S : zS} {H W g s t m k b : Nat} (O : RSo N μ ν S H W g) (hs : s < 8) (hm : m ≤ 160) (hk : k ≤ m) (hk40 : k ≤ 40) (D : RowD μ ν s t m) (hb0 : b < H) (eb : S 10 3 = nI b) : ∃ r p μ0 μ' ν', f_X7_begin 300 μ = some ((), μ0) ∧ f_X8_walkTold 300 (nI s) (nI k) μ0 = some (r, μ') ∧ f_X9_goesRoute 300 (nI s) (nI k) ν = some (r, ν') ∧ Wk μ' S H W g 0 b (t00 S false 0) p ∧ RowM ν' 7 (tR S g (fun a c => sLk S 0 a c W) b (t00 S false 0) p) ∧ (r = -1 ∨ ∃ j, j < k ∧ r = nI j) ∧ (r = -1 → p.length = k) ∧ KC μ μ' ∧ F7 ν ν' ∧ r = toR S 0 W H (fun j => Int64.toInt32 (ν.2 22 (160 * s + j))) k 0 b := by
  have O' := O
  obtain ⟨⟨s1, s2, V⟩, ⟨hH, hW, hg1, hg3⟩, ⟨eH, eW, eg⟩, ⟨c3, c4, c5, c6⟩, ⟨m8, m9, m10, mb, m23, m24⟩, hb⟩ := O
  obtain ⟨μ0, q1, q2, q3, q4⟩ := cBegin' (sh := 0) (b := b) (sp := 0) R s1 V eH eW eg hH hW (by omega) 300 (by omega)
  have dd : Sd N S H W g b (t00 S false 0) := Sd.of V eH eW hH hW eb hb0 hg1 hg3
  obtain ⟨μ', u1, u2, u3⟩ := cTold (ν0 := ν) dd hs hm hk hk40 k 0 300 [] μ0 (by omega) rfl (by omega) (D.same q3.KX (KY.rf ν)) q2
  obtain ⟨ν', v1, v2, v3⟩ := mRoute (fr := false) (xs := fun j => Int64.toInt32 (ν.2 22 (160 * s + j))) (s := s) (k := k) hH hW hg1 hg3 hb0 hs (by omega) (fun j => rfl) (MSt.of O') (row0 s2) (fun i _ => rfl) (fun i _ => rfl) (fun i _ => rfl) eb eb 300 (by omega)
  refine ⟨_, _, μ0, μ', ν', ?_, u1, v1, u2, v2, ?_, fun e => ?_, q3.tr u3.KC, v3, rfl⟩
  · unfold f_X7_begin
    have q1' : f_X7_beginWithout 300 0 μ = some ((), μ0) := q1
    rw [q1', z_bindS]
  · have := toR_val (S := S) (sh := 0) (W := W) (H := H) (xs := fun j => Int64.toInt32 (ν.2 22 (160 * s + j))) k 0 b
    rw [Nat.zero_add] at this; exact this
  · have := toP_len (S := S) (sh := 0) (W := W) (H := H) (b := b) (xs := fun j => Int64.toInt32 (ν.2 22 (160 * s + j))) k 0 [] (by omega) e
    rw [this]; simp
theorem ag_judge {N : Nat} {μ ν : z_M} (R : Rr N μ ν) (x y : Int32) : Ag N (fun n => f_X8_judge n x y μ) (fun n => f_X9_judge n x y ν) := by
  obtain ⟨S, H, W, g, O⟩ := R.1.op
  unfold f_X8_judge f_X9_judge
  rw [show (40 : Int32) = nI 40 from rfl]
  rcases dRoute R O x y (M := 40) (by omega) with ⟨t, h1, h7, e1, e2⟩ | ⟨s, t, m, k, b, hs, hm, hk, hk40, rfl, rfl, e1, e2, D, hb, eb⟩
  · simp only [e1, e2, z_letE, z_bindS, if_neg (refNe t h1 h7), refC t h1 h7, refM t h1 h7]
    exact ⟨_, _, _, ⟨0, rfl⟩, ⟨0, rfl⟩, R.refuse t⟩
  · obtain ⟨r, p, μ0, μ', ν', u1, u2, u3, u4, u5, u6, u7, u8, u9, -⟩ := both R O hs hm hk hk40 D hb eb
    refine ⟨r, μ', ν', ⟨300, ?_⟩, ⟨300, ?_⟩, R.think u8 u9.KM⟩
    · simp only [e1, z_letE, if_true, u1, u2, z_bindS]
    · simp only [e2, z_bindS, if_true, u3]
theorem ag_minutes {N : Nat} {μ ν : z_M} (R : Rr N μ ν) (x y : Int32) : Ag N (fun n => f_X8_minutes n x y μ) (fun n => f_X9_minutes n x y ν) := by
  obtain ⟨S, H, W, g, O⟩ := R.1.op
  unfold f_X8_minutes f_X9_minutes f_X9_minutes_b25
  rw [show (40 : Int32) = nI 40 from rfl]
  rcases dRoute R O x y (M := 40) (by omega) with ⟨t, h1, h7, e1, e2⟩ | ⟨s, t, m, k, b, hs, hm, hk, hk40, rfl, rfl, e1, e2, D, hb, eb⟩
  · simp only [e1, e2, z_letE, z_bindS, if_neg (refNe t h1 h7), refC t h1 h7, refM t h1 h7]
    exact ⟨_, _, _, ⟨0, rfl⟩, ⟨0, rfl⟩, R.refuse t⟩
  · obtain ⟨r, p, μ0, μ', ν', u1, u2, u3, u4, u5, u6, u7, u8, u9, -⟩ := both R O hs hm hk hk40 D hb eb
    have R1 := R.think u8 u9.KM
    rcases u6 with e | ⟨j, hj, e⟩
    · subst e
      have pl := u7 rfl
      refine ⟨tR S g (fun a c => sLk S 0 a c W) b (t00 S false 0) p 4 1, μ', ν', ⟨300, ?_⟩, ⟨300, ?_⟩, R1⟩
      · simp only [e1, z_letE, if_true, u1, u2, z_bindS]
        show some (g_get 41 41 (μ'.1 31 6) μ', μ') = _
        rw [u4.2.2.1, g_getN (by omega) (by decide), u4.2.2.2.2.c41]
      · simp only [e2, z_bindS, if_true, u3, if_pos (show (-1 : Int32) < 0 by decide)]
        rw [show z_ix 7 = 7 from rfl, u5.2.2.2.1]
    · subst e
      refine ⟨-6, _, _, ⟨300, ?_⟩, ⟨300, ?_⟩, R1.refuse 6⟩
      · simp only [e1, z_letE, if_true, u1, u2, z_bindS, nI_em1 (show j < 2 ^ 31 by omega), if_false, refC6]
      · simp only [e2, z_bindS, if_true, u3, if_neg (nI_pos (show j < 2 ^ 31 by omega)), ne0_6, if_false, refM6]
theorem ag_hears {N : Nat} {μ ν : z_M} (R : Rr N μ ν) (x y z : Int32) : Ag N (fun n => f_X8_hears n x y z μ) (fun n => f_X9_hears n x y z ν) := by
  obtain ⟨S, H, W, g, O⟩ := R.1.op
  have O' := O
  obtain ⟨⟨s1, s2, V⟩, ⟨hH, hW, hg1, hg3⟩, ⟨eH, eW, eg⟩, ⟨c3, c4, c5, c6⟩, ⟨m8, m9, m10, mb, m23, m24⟩, hb⟩ := O
  unfold f_X8_hears f_X9_hears f_X8_hears_b23 f_X9_hears_b20 f_X9_hears_b40
  rw [show (40 : Int32) = nI 40 from rfl]
  rcases dH c3 m8 hH z with ⟨e1, e2⟩ | ⟨h, hh, rfl, e1, e2⟩
  · rw [e1, e2]
    simp only [if_true, ne0_1, if_false, refC1, refM1, z_letE, z_bindS]
    exact ⟨_, _, _, ⟨0, rfl⟩, ⟨0, rfl⟩, R.refuse 1⟩
  · rw [e1, e2]
    simp only [ifn]
    rcases dRoute R O' x y (M := 40) (by omega) with ⟨t, h1, h7, e1, e2⟩ | ⟨s, t, m, k, b, hs, hm, hk, hk40, rfl, rfl, e1, e2, D, hb, eb⟩
    · simp only [e1, e2, z_letE, z_bindS, if_neg (refNe t h1 h7), refC t h1 h7, refM t h1 h7]
      exact ⟨_, _, _, ⟨0, rfl⟩, ⟨0, rfl⟩, R.refuse t⟩
    · obtain ⟨r, p, μ0, μ', ν', u1, u2, u3, u4, u5, u6, u7, u8, u9, -⟩ := both R O' hs hm hk hk40 D hb eb
      have R1 := R.think u8 u9.KM
      rcases u6 with e | ⟨j, hj, e⟩
      · subst e
        have pl := u7 rfl
        have hd := cHeard (x := h) u4.2.2.2.2 hH (fun i => rfl) u4.2.2.1 (by omega) (by omega) 300 (by omega)
        refine ⟨tR S g (fun a c => sLk S 0 a c W) b (t00 S false 0) p 1 h, μ', ν', ⟨300, ?_⟩, ⟨300, ?_⟩, R1⟩
        · simp only [e1, if_true, u1, u2, z_bindS, hd]
        · simp only [e2, z_bindS, if_true, u3, if_pos (show (-1 : Int32) < 0 by decide), show (56 : Int32) + nI h = nI (56 + h) from nI_add 56 h, z_chkN (show 56 + h < 72 by omega) (show 72 < 2 ^ 31 by decide), z_ixN (show 56 + h < 2 ^ 31 by omega)]
          rw [show 56 + h = 8 * 7 + h by omega, (u5.1 h (by omega)).2.1]
      · subst e
        refine ⟨-6, _, _, ⟨300, ?_⟩, ⟨300, ?_⟩, R1.refuse 6⟩
        · simp only [e1, z_letE, if_true, u1, u2, z_bindS, nI_em1 (show j < 2 ^ 31 by omega), if_false, refC6]
        · simp only [e2, z_bindS, if_true, u3, if_neg (nI_pos (show j < 2 ^ 31 by omega)), ne0_6, if_false, refM6]
theorem ag_other {N : Nat} {μ ν : z_M} (R : Rr N μ ν) (x y z : Int32) : Ag N (fun n => f_X8_other n x y z μ) (fun n => f_X9_other n x y z ν) := by
  obtain ⟨S, H, W, g, O⟩ := R.1.op
  have O' := O
  obtain ⟨⟨s1, s2, V⟩, ⟨hH, hW, hg1, hg3⟩, ⟨eH, eW, eg⟩, ⟨c3, c4, c5, c6⟩, ⟨m8, m9, m10, mb, m23, m24⟩, hb⟩ := O
  unfold f_X8_other f_X9_other f_X8_other_b26 f_X9_other_b33 f_X9_other_b37
  rw [show (40 : Int32) = nI 40 from rfl, show f_X8_isLag z μ = f_X9_isIn z (nI 1) (nI 3) ν from rfl]
  rcases dRoute R O' x y (M := 40) (by omega) with ⟨t, h1, h7, e1, e2⟩ | ⟨s, t, m, k, b, hs, hm, hk, hk40, rfl, rfl, e1, e2, D, hb0, eb⟩
  · simp only [e1, e2, z_letE, z_bindS, if_neg (refNe t h1 h7), refC t h1 h7, refM t h1 h7]
    exact ⟨_, _, _, ⟨0, rfl⟩, ⟨0, rfl⟩, R.refuse t⟩
  · simp only [e1, e2, z_letE, z_bindS, if_true, show ∀ ν : z_M, f_X9_isIn z 1 3 ν = f_X9_isIn z (nI 1) (nI 3) ν from fun _ => rfl]
    rcases dIn ν z 1 3 (by omega) (by omega) with e | ⟨L, hL1, hL3, rfl, e⟩
    · simp only [e, if_true, ne0_6, if_false, refC6, refM6, z_letE, z_bindS]
      exact ⟨_, _, _, ⟨0, rfl⟩, ⟨0, rfl⟩, R.refuse 6⟩
    · simp only [e, ifn]
      obtain ⟨r, p, μ0, μ', ν', u1, u2, u3, u4, u5, u6, u7, u8, u9, u10⟩ := both R O' hs hm hk hk40 D hb0 eb
      -- the class's walk afresh
      obtain ⟨μa, a1, a2, a3, a4⟩ := cBegin' (sh := 0) (b := b) (sp := 0) R s1 V eH eW eg hH hW (by omega) 300 (by omega)
      have a1' : f_X7_begin 300 μ = some ((), μa) := by
        unfold f_X7_begin
        have q : f_X7_beginWithout 300 0 μ = some ((), μa) := a1
        rw [q, z_bindS]
      obtain ⟨μb, eμb⟩ : ∃ y, y = g_clr 39 43 (z_sI μa 31 7 (nI L)) := ⟨_, rfl⟩
      have fb : ∀ k, k ≠ 31 → k ≠ 39 → μb.1 k = μa.1 k := fun k h1 h2 => by
        funext j
        rw [eμb]
        show (if k = 39 ∧ j < 43 then 0 else (z_sI μa 31 7 (nI L)).1 k j) = _
        rw [if_neg (fun q => h2 q.1), sI1f h1]
      have wb : Wk μb S H W L 0 b (t00 S true 0) [] := by
        refine ⟨a2.1.same (fun i => by rw [fb _ (by decide) (by decide)]) (fun i => by rw [fb _ (by decide) (by decide)]) (fun i => by rw [fb _ (by decide) (by decide)]) (fun i => by rw [fb _ (by decide) (by decide)]), fun x y hx hy => by rw [fb 33 (by decide) (by decide)]; exact a2.2.1 x y hx hy, ?_, ?_, fun i hi => ?_, ?_⟩
        · rw [eμb]
          show (if 31 = 39 ∧ 6 < 43 then 0 else (z_sI μa 31 7 (nI L)).1 31 6) = _
          rw [if_neg (by omega), sI1, if_neg (by omega)]; exact a2.2.2.1
        · rw [eμb]
          show (if 31 = 39 ∧ 7 < 43 then 0 else (z_sI μa 31 7 (nI L)).1 31 7) = _
          rw [if_neg (by omega), sI1, if_pos ⟨rfl, rfl⟩]
        · rw [eμb]
          show (if 39 = 39 ∧ 2 - i < 43 then 0 else _) = _
          rw [if_pos ⟨rfl, by omega⟩]; rfl
        · rw [fb 41 (by decide) (by decide)]; exact a2.2.2.2.2.2
      have kb : KC μ μb := by
        refine ⟨fun k j q => ?_, ?_⟩
        · have q' := q
          unfold LC at q
          rw [fb k (by omega) (by omega)]; exact a3.1 k j q'
        · rw [eμb]; exact a3.2
      obtain ⟨μc, c1', c2', c3'⟩ := cTold (ν0 := ν) (Sd.of V eH eW hH hW eb hb0 hL1 hL3 : Sd N S H W L b (t00 S true 0)) hs hm hk hk40 k 0 300 [] μb (by omega) rfl (by omega) (D.same kb.KX (KY.rf ν)) wb
      have kc : KC μ μc := kb.tr c3'.KC
      have rC : f_X7_beginAfresh 300 (nI L) μ = some ((), μb) := by
        unfold f_X7_beginAfresh
        rw [a1', z_bindS, z_letE, z_letE, eμb]
      have c1'' : f_X8_walkTold 300 (nI s) (nI k) μb = some (r, μc) := by rw [u10]; exact c1'
      rcases u6 with er | ⟨j, hj, er⟩
      · rw [er] at u3 c1''
        have tl := toP_len (S := S) (sh := 0) (W := W) (H := H) (b := b) (xs := fun j => Int64.toInt32 (ν.2 22 (160 * s + j))) k 0 [] (by omega) (u10.symm.trans er)
        -- the reference's second walk
        have d14 : ν'.1 14 0 = ν.1 14 0 := u9.1 14 0 (by unfold Rw; omega)
        obtain ⟨νa, eνa⟩ : ∃ y, y = z_sI (z_sI ν' 14 0 0) 0 23 (nI L) := ⟨_, rfl⟩
        have fa : ∀ k j, ¬ (k = 14 ∧ j = 0) → ¬ (k = 0 ∧ j = 23) → ¬ Rw 7 k j → νa.1 k j = ν.1 k j := fun k j h1 h2 h3 => by
          rw [eνa, sI1, if_neg h2, sI1, if_neg h1, u9.1 k j h3]
        have Ma : MSt νa S H W L 0 := by
          obtain ⟨M1, M2, M3, M4, -, M6⟩ := MSt.of O'
          refine ⟨fun x hx => ?_, fun x hx => ?_, ?_, ?_, ?_, ?_⟩
          · rw [fa 2 x (by omega) (by omega) (by unfold Rw; omega), fa 3 x (by omega) (by omega) (by unfold Rw; omega), fa 4 x (by omega) (by omega) (by unfold Rw; omega)]; exact M1 x hx
          · rw [fa 5 x (by omega) (by omega) (by unfold Rw; omega), fa 6 x (by omega) (by omega) (by unfold Rw; omega), fa 7 x (by omega) (by omega) (by unfold Rw; omega), fa 8 x (by omega) (by omega) (by unfold Rw; omega)]; exact M2 x hx
          · rw [fa 0 8 (by omega) (by omega) (by unfold Rw; omega)]; exact M3
          · rw [fa 0 9 (by omega) (by omega) (by unfold Rw; omega)]; exact M4
          · rw [eνa, sI1, if_pos ⟨rfl, rfl⟩]
          · rw [fa 0 24 (by omega) (by omega) (by unfold Rw; omega)]; exact M6
        have Ta : RowM νa 0 (fun a i => if a = 0 then S 3 i else if a = 1 then ν.1 12 i else if a = 2 then S 4 i else if a = 3 then 0 else if i = 0 then S 10 3 else if i = 1 then ν.1 15 0 else ν.1 16 0) := by
          obtain ⟨t1, -, t3, t4, t5⟩ := row0 s2
          refine ⟨fun x hx => ?_, ⟨0, by omega, ?_, fun i hi => rfl⟩, ?_, ?_, ?_⟩
          · rw [fa 10 _ (by omega) (by omega) (by unfold Rw; omega), fa 12 _ (by omega) (by omega) (by unfold Rw; omega), fa 11 _ (by omega) (by omega) (by unfold Rw; omega)]; exact t1 x hx
          · rw [eνa, sI1, if_neg (by omega), sI1, if_pos ⟨rfl, rfl⟩]; rfl
          · rw [fa 9 0 (by omega) (by omega) (by unfold Rw; omega)]; exact t3
          · rw [fa 15 0 (by omega) (by omega) (by unfold Rw; omega)]; exact t4
          · rw [fa 16 0 (by omega) (by omega) (by unfold Rw; omega)]; exact t5
        have la : ∀ k, k ≠ 17 → νa.2 k = ν.2 k := fun k hk => by rw [eνa]; exact u9.2 k hk
        obtain ⟨νb, v1, v2, v3⟩ := mRoute (fr := true) (xs := fun j => Int64.toInt32 (ν.2 22 (160 * s + j))) (s := s) (k := k) hH hW hL1 hL3 hb0 hs (by omega) (fun j => by rw [la 22 (by decide)]) Ma Ta (fun i _ => rfl) (fun i _ => rfl) (fun i _ => rfl) eb eb 300 (by omega)
        obtain ⟨νc, eνc⟩ : ∃ y, y = z_sI (z_sI νb 14 0 (ν.1 14 0)) 0 23 (nI g) := ⟨_, rfl⟩
        have fc : KM ν νc := by
          refine ⟨fun k j q => ?_, ?_⟩
          · have nr : ¬ Rw 7 k j := by
              unfold LM at q; unfold Rw
              rcases q with ⟨q0, q⟩ | q | q | q | q | q | q | q | q | q | ⟨q, -⟩ | q <;> omega
            rw [eνc, sI1]
            by_cases z1 : k = 0 ∧ j = 23
            · rw [if_pos z1, z1.1, z1.2]; exact m23.symm
            · rw [if_neg z1, sI1]
              by_cases z2 : k = 14 ∧ j = 0
              · rw [if_pos z2, z2.1, z2.2]
              · rw [if_neg z2, v3.1 k j nr]; exact fa k j z2 z1 nr
          · rw [eνc]; show νb.2 22 = _; rw [v3.2 22 (by decide), la 22 (by decide)]
        have d10 : (z_sI νb 14 0 (ν.1 14 0)).1 0 10 = nI g := by
          rw [sI1f (by decide), v3.1 0 10 (by unfold Rw; omega), fa 0 10 (by omega) (by omega) (by unfold Rw; omega)]; exact m10
        have sp : νc.1 16 7 = tR S L (fun a c => sLk S 0 a c W) b (t00 S true 0) (toP S 0 W H b (fun j => Int64.toInt32 (ν.2 22 (160 * s + j))) k 0 []) 4 2 := by
          rw [eνc, sI1f (by decide), sI1f (by decide)]; exact v2.2.2.2.2
        refine ⟨tR S L (fun a c => sLk S 0 a c W) b (t00 S true 0) (toP S 0 W H b (fun j => Int64.toInt32 (ν.2 22 (160 * s + j))) k 0 []) 4 2, μc, νc, ⟨300, ?_⟩, ⟨300, ?_⟩, R.think kc fc⟩
        · simp only [rC, c1'', z_bindS, if_true]
          show some (g_get 37 40 (nI k - 1) μc, μc) = _
          have tl' : (toP S 0 W H b (fun j => Int64.toInt32 (ν.2 22 (160 * s + j))) k 0 []).length = k := by rw [tl]; simp
          by_cases z : k = 0
          · subst z
            have e0 : toP S 0 W H b (fun j => Int64.toInt32 (ν.2 22 (160 * s + j))) 0 0 [] = [] := rfl
            rw [g_getM (show nI 0 - 1 < 0 by decide), e0]; rfl
          · rw [i_pred (by omega), g_getN (by omega) (by decide)]
            have wk := c2'.2.2.2.2
            cases hp : toP S 0 W H b (fun j => Int64.toInt32 (ν.2 22 (160 * s + j))) k 0 [] with
            | nil => rw [hp] at tl'; simp at tl'; omega
            | cons h q =>
              rw [hp] at wk tl'
              have lq : k - 1 = q.length := by simp at tl'; omega
              rw [lq, wk.2.2.2.1]
        · simp only [u3, z_bindS, if_pos (show (-1 : Int32) < 0 by decide), z_chkN (show 0 < 9 by decide) (show 9 < 2 ^ 31 by decide), show (0 : Int32) = nI 0 from rfl]
          simp only [show nI 0 = (0 : Int32) from rfl, if_true, show z_ix 0 = 0 from rfl, d14]
          have v1' : f_X9_goesRoute 300 (nI s) (nI k) νa = some (toR S 0 W H (fun j => Int64.toInt32 (ν.2 22 (160 * s + j))) k 0 b, νb) := v1
          rw [← eνa, v1', z_bindS]
          dsimp only
          rw [if_pos (show (-1 : Int32) < 0 by decide), d10, ← eνc, show z_ix 7 = 7 from rfl, sp]
      · rw [er] at u3 c1''
        refine ⟨-6, _, _, ⟨300, ?_⟩, ⟨300, ?_⟩, (R.think kc u9.KM).refuse 6⟩
        · simp only [rC, c1'', z_bindS, nI_em1 (show j < 2 ^ 31 by omega), if_false, refC6]
        · simp only [u3, z_bindS, if_neg (nI_pos (show j < 2 ^ 31 by omega)), ne0_6, if_false, refM6]
