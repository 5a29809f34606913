/-! the search: shuts -/
theorem tR_sp {S : zS} {L : Nat} {lk : Nat → Nat → Nat} {b : Nat} {fr : Bool} {sp : Int32} : ∀ (p : List Nat) (a i : Nat), a < 4 → tR S L lk b (t00 S fr sp) p a i = tR S L lk b (t00 S fr 0) p a i := by
  intro p
  induction p with
  | nil =>
    intro a i ha
    show t00 S fr sp a i = t00 S fr 0 a i
    unfold t00
    rcases (show a = 0 ∨ a = 1 ∨ a = 2 ∨ a = 3 by omega) with rfl | rfl | rfl | rfl <;> rfl
  | cons h p ih =>
    intro a i ha
    unfold tR
    rcases (show a = 0 ∨ a = 1 ∨ a = 2 ∨ a = 3 by omega) with rfl | rfl | rfl | rfl
    · rw [tW0, tW0, ih 0 h (by omega), ih 3 _ (by omega), ih 0 i (by omega)]
    · rw [tW1, tW1, ih 1 h (by omega), ih 3 _ (by omega), ih 1 i (by omega)]
    · rw [tW2, tW2, ih 2 h (by omega), ih 2 i (by omega)]
    · cases i with
      | zero => rw [tW30, tW30, ih 3 _ (by omega), ih 0 h (by omega), ih 2 h (by omega)]
      | succ i => rw [tW3s, tW3s, ih 3 i (by omega)]
theorem hrN_sp {S : zS} {sh g W b : Nat} {fr : Bool} {sp : Int32} {i : Nat} {set : Int32} {p : List Nat} : hrN S sh g W b (t00 S fr sp) i set p ↔ hrN S sh g W b (t00 S fr 0) i set p := by
  unfold hrN
  rw [tR_sp p 1 i (by omega)]
/-- all routes, with some ways shut -/
noncomputable def rts (S : zS) (v W b k : Nat) : List (List Nat) := Classical.epsilon (fun l => Ch (okL S v W b) 8 k [] l ∧ l.length < 600000)
theorem rts_ok (S : zS) (v W b : Nat) {k : Nat} (hk : k ≤ 6) : Ch (okL S v W b) 8 k [] (rts S v W b k) ∧ (rts S v W b k).length < 600000 := Classical.epsilon_spec (p := fun l => Ch (okL S v W b) 8 k [] l ∧ l.length < 600000) (Ch_n hk)
def Sil (S : zS) (g W b k i : Nat) (set : Int32) (v : Nat) : Prop := ∀ q ∈ [] :: rts S v W b k, hrN S v g W b (t00 S false 0) i set q
theorem cSilL {N : Nat} {S : zS} {H W L sh b k i : Nat} {t0 : zT} {set : Int32} (dd : Sd N S H W L b t0) (hk : k ≤ 6) (hi : i < 8) : ∀ (l : List (List Nat)) (p : List Nat) (c n : Nat) (μ : z_M), Ch (okL S sh W b) 8 k p l → okR H k p → c + l.length < 1000000 → l.length + 220 ≤ n → Wk μ S H W L sh b t0 p → ∃ μ', KC μ μ' ∧ (((∀ q ∈ p :: l, hrN S sh L W b t0 i set q) ∧ f_X4_isSilentWithout_h14 n (nI i) set (nI k) 1 (nI c) μ = some (1, μ')) ∨ ((¬ ∀ q ∈ p :: l, hrN S sh L W b t0 i set q) ∧ f_X4_isSilentWithout_h14 n (nI i) set (nI k) 1 (nI c) μ = some (0, μ'))) := by
  intro l
  induction l with
  | nil =>
    intro p c n μ hc o hl hn w
    obtain ⟨m, rfl⟩ : ∃ m, n = m + 2 := ⟨n - 2, by omega⟩
    simp only [List.length_nil] at hl hn
    have A := cHN dd w hk o hi set (m + 1) (by omega)
    obtain ⟨-, b2⟩ := cBN dd w hk o.1 (m + 1) (by omega)
    obtain ⟨μ2, c1, c2, c3⟩ := b2 hc
    by_cases z : hrN S sh L W b t0 i set p
    · refine ⟨μ2, c3.KC, Or.inl ⟨fun q hq => ?_, ?_⟩⟩
      · rcases List.mem_cons.mp hq with rfl | hq
        · exact z
        · cases hq
      · rw [f_X4_isSilentWithout_h14, if_neg (show ¬ (1 : Int32) = 0 by decide), if_pos (show nI c < 1000000 from nI_lt (b := 1000000) (by omega) (by omega)), A.1 z, z_bindS, if_pos rfl, c1, z_bindS]
        rw [f_X4_isSilentWithout_h14, if_pos rfl]
    · refine ⟨μ, KC.rf μ, Or.inr ⟨fun q => z (q p (List.mem_cons_self ..)), ?_⟩⟩
      rw [f_X4_isSilentWithout_h14, if_neg (show ¬ (1 : Int32) = 0 by decide), if_pos (show nI c < 1000000 from nI_lt (b := 1000000) (by omega) (by omega)), A.2 z, z_bindS, if_neg (show ¬ (1 : Int32) = 0 by decide)]
  | cons p' l ih =>
    intro p c n μ hc o hl hn w
    obtain ⟨m, rfl⟩ : ∃ m, n = m + 1 := ⟨n - 1, by omega⟩
    simp only [List.length_cons] at hl hn
    have A := cHN dd w hk o hi set m (by omega)
    obtain ⟨b1, -⟩ := cBN dd w hk o.1 m (by omega)
    obtain ⟨hc1, hc2⟩ := hc
    obtain ⟨μ2, c1, c2, c3⟩ := b1 p' hc1
    have dd' := dd
    obtain ⟨V, eH, eW, hH, hW, eb, hb, -⟩ := dd
    have o' := nx_okH V eH eW hH hW hb o (lst_ok 8 k p) hc1
    by_cases z : hrN S sh L W b t0 i set p
    · obtain ⟨μ3, d1, d2⟩ := ih p' (c + 1) m μ2 hc2 o' (by omega) (by omega) c2
      refine ⟨μ3, c3.KC.tr d1, ?_⟩
      rw [f_X4_isSilentWithout_h14, if_neg (show ¬ (1 : Int32) = 0 by decide), if_pos (show nI c < 1000000 from nI_lt (b := 1000000) (by omega) (by omega)), A.1 z, z_bindS, if_pos rfl, c1, z_bindS, i_succ]
      rcases d2 with ⟨d2, d3⟩ | ⟨d2, d3⟩
      · exact Or.inl ⟨fun q hq => (by
          rcases List.mem_cons.mp hq with rfl | hq
          · exact z
          · exact d2 q hq), d3⟩
      · exact Or.inr ⟨fun y => d2 (fun q hq => y q (List.mem_cons_of_mem _ hq)), d3⟩
    · refine ⟨μ, KC.rf μ, Or.inr ⟨fun q => z (q p (List.mem_cons_self ..)), ?_⟩⟩
      rw [f_X4_isSilentWithout_h14, if_neg (show ¬ (1 : Int32) = 0 by decide), if_pos (show nI c < 1000000 from nI_lt (b := 1000000) (by omega) (by omega)), A.2 z, z_bindS, if_neg (show ¬ (1 : Int32) = 0 by decide)]
theorem cSil {N : Nat} {μ : z_M} {S : zS} {H W g b k i v : Nat} {set : Int32} (R : μ.1 41 0 = 0) (s1 : StC 1 μ S) (V : Vd N S) (eH : S 10 0 = nI H) (eW : S 10 1 = nI W) (eg : S 10 2 = nI g) (hH : H ≤ 8) (hW : W ≤ 12) (hg1 : 1 ≤ g) (hg3 : g ≤ 3) (hb1 : b < H) (hb2 : S 10 3 = nI b) (hk : k ≤ 6) (hi : i < 8) (hv : v < 2 ^ 31) (n : Nat) (hn : 610000 ≤ n) : ∃ μ', KC μ μ' ∧ ((Sil S g W b k i set v ∧ f_X4_isSilentWithout n (nI v) (nI i) set (nI k) μ = some (1, μ')) ∨ (¬ Sil S g W b k i set v ∧ f_X4_isSilentWithout n (nI v) (nI i) set (nI k) μ = some (0, μ'))) := by
  obtain ⟨μ0, q1, q2, q3, q4⟩ := cBegin' (sh := v) (b := b) (sp := 0) R s1 V eH eW eg hH hW hv n (by omega)
  have dd : Sd N S H W g b (t00 S false 0) := Sd.of V eH eW hH hW hb2 hb1 hg1 hg3
  obtain ⟨L1, L2⟩ := rts_ok S v W b hk
  obtain ⟨μ', u1, u2⟩ := cSilL (set := set) dd hk hi (rts S v W b k) [] 0 n μ0 L1 (okR_nil H k) (by omega) (by omega) q2
  refine ⟨μ', q3.tr u1, ?_⟩
  unfold f_X4_isSilentWithout
  rw [q1, z_bindS]
  exact u2
theorem sMk_bit (S : zS) : ∀ (n w : Nat), (sMk S n).testBit w = true ↔ w < n ∧ sO S 0 w := by
  intro n
  induction n with
  | zero => intro w; show (0 : Nat).testBit w = true ↔ _; simp
  | succ n ih =>
    intro w
    rw [sMk_s, Nat.testBit_or]
    by_cases c : sO S 0 n
    · rw [if_pos c, Nat.testBit_two_pow, Bool.or_eq_true, ih, decide_eq_true_iff]
      constructor
      · rintro (⟨h1, h2⟩ | rfl)
        · exact ⟨by omega, h2⟩
        · exact ⟨by omega, c⟩
      · rintro ⟨h1, h2⟩
        by_cases z : n = w
        · exact Or.inr z
        · exact Or.inl ⟨by omega, h2⟩
    · rw [if_neg c, Nat.zero_testBit, Bool.or_false, ih]
      constructor
      · rintro ⟨h1, h2⟩; exact ⟨by omega, h2⟩
      · rintro ⟨h1, h2⟩
        by_cases z : n = w
        · subst z; exact absurd h2 c
        · exact ⟨by omega, h2⟩
/-- only ways that stand open -/
def sub (S : zS) (v : Nat) : Prop := ∀ w, v.testBit w = true → sO S 0 w
theorem sub_le {S : zS} {W v : Nat} (hv : v < 2 ^ W) (h : sub S v) : v ≤ sMk S W := by
  have e : v &&& sMk S W = v := by
    apply Nat.eq_of_testBit_eq
    intro w
    rw [Nat.testBit_and]
    by_cases c : v.testBit w = true
    · have hw : w < W := by
        apply Classical.byContradiction
        intro n
        rw [Nat.testBit_lt_two_pow (Nat.lt_of_lt_of_le hv (Nat.pow_le_pow_right (by omega) (Nat.le_of_not_lt n)))] at c
        cases c
      rw [(sMk_bit S W w).2 ⟨hw, h w c⟩, Bool.and_true]
    · have c' : v.testBit w = false := by cases e : v.testBit w with
        | true => exact absurd e c
        | false => rfl
      rw [c']; rfl
  rw [← e]; exact Nat.and_le_right
theorem bits_sub {v o : Nat} (hv : v < 4096) (ho : o < 4096) : (nI v &&& (nI o ^^^ (-1)) = 0) ↔ ∀ w, v.testBit w = true → o.testBit w = true := by
  have tb : ∀ (x : Nat) (w : Nat), (BitVec.ofNat 32 x).getLsbD w = (decide (w < 32) && x.testBit w) := fun x w => by rw [BitVec.getLsbD_ofNat]
  constructor
  · intro h w c
    have h2 := congrArg Int32.toBitVec h
    have h3 := congrArg (fun y => BitVec.getLsbD y w) h2
    have hw : w < 32 := by
      apply Classical.byContradiction
      intro n
      rw [Nat.testBit_lt_two_pow (Nat.lt_of_lt_of_le hv (Nat.pow_le_pow_right (n := 2) (i := 12) (j := w) (by omega) (by omega)))] at c
      cases c
    have h4 : ((BitVec.ofNat 32 v) &&& ((BitVec.ofNat 32 o) ^^^ (BitVec.allOnes 32))).getLsbD w = (0#32).getLsbD w := h3
    rw [BitVec.getLsbD_and, BitVec.getLsbD_xor, tb, tb, BitVec.getLsbD_allOnes, c, BitVec.getLsbD_zero] at h4
    simp only [hw, decide_true, Bool.true_and] at h4
    cases e : o.testBit w with
    | true => rfl
    | false => rw [e] at h4; simp at h4
  · intro h
    apply Int32.toBitVec_inj.1
    show (BitVec.ofNat 32 v) &&& ((BitVec.ofNat 32 o) ^^^ (BitVec.allOnes 32)) = 0#32
    apply BitVec.eq_of_getLsbD_eq
    intro w hw
    rw [BitVec.getLsbD_and, BitVec.getLsbD_xor, tb, tb, BitVec.getLsbD_allOnes, BitVec.getLsbD_zero]
    simp only [hw, decide_true, Bool.true_and]
    cases e : v.testBit w with
    | false => rfl
    | true => rw [h w e]; rfl
def gd (S : zS) (g W b k i : Nat) (set : Int32) (v : Nat) : Prop := v < 2 ^ W ∧ sub S v ∧ Sil S g W b k i set v
def mn (S : zS) (g W b k i : Nat) (set : Int32) (u : Nat) : Prop := gd S g W b k i set u ∧ ∀ v, gd S g W b k i set v → pc u < pc v ∨ (pc u = pc v ∧ u ≤ v)
theorem mn_uni {S : zS} {g W b k i : Nat} {set : Int32} {u v : Nat} (h1 : mn S g W b k i set u) (h2 : mn S g W b k i set v) : u = v := by
  have a := h1.2 v h2.1
  have c := h2.2 u h1.1
  omega
/-- all shut: silent -/
theorem gd_open {S : zS} {g W b k i : Nat} {set : Int32} (hk : k ≤ 6) : gd S g W b k i set (sMk S W) := by
  refine ⟨sMk_lt S W, fun w h => ((sMk_bit S W w).1 h).2, ?_⟩
  have lk0 : ∀ a c, sLk S (sMk S W) a c W = 0 := fun a c => by
    apply Classical.byContradiction
    intro n
    have h1 := (sLk_bt S (sMk S W) a c W n).1
    have h2 := sLk_le S (sMk S W) a c W
    have h3 := (sMk_bit S W (sLk S (sMk S W) a c W - 1)).2 ⟨by omega, (sO0 S _).2 h1.1⟩
    rw [h1.2] at h3; cases h3
  obtain ⟨L1, L2⟩ := rts_ok S (sMk S W) W b hk
  have e : rts S (sMk S W) W b k = [] := by
    cases hl : rts S (sMk S W) W b k with
    | nil => rfl
    | cons p l =>
      rw [hl] at L1
      obtain ⟨h, q, -, -, h3, -⟩ := nx_form _ _ _ L1.1
      exact absurd (lk0 _ _) (okL_t.1 h3)
  intro q hq
  rw [e] at hq
  rcases List.mem_cons.mp hq with rfl | hq
  · show set &&& 0 = 0
    exact Int32.and_zero
  · cases hq
theorem cShutIn {N : Nat} {S : zS} {H W g b k i : Nat} {set : Int32} (V : Vd N S) (eH : S 10 0 = nI H) (eW : S 10 1 = nI W) (eg : S 10 2 = nI g) (hH : H ≤ 8) (hW : W ≤ 12) (hg1 : 1 ≤ g) (hg3 : g ≤ 3) (hb1 : b < H) (hb2 : S 10 3 = nI b) (hk : k ≤ 6) (hi : i < 8) {r12 : Int32 → Int32 → Int32 → Int32 → Int32 → z_M → Option (Int32 × z_M)} {s : Nat} (hs : s ≤ 12) : ∀ (d v n : Nat) (μ : z_M), v + d = sMk S W + 1 → d + 620000 ≤ n → μ.1 41 0 = 0 → StC 1 μ S → (∀ v', v' < v → pc v' = s → ¬ gd S g W b k i set v') → (∃ u μ', gd S g W b k i set u ∧ pc u = s ∧ (∀ v', gd S g W b k i set v' → pc v' = s → u ≤ v') ∧ f_X4_fewestToShut_h22 r12 n (nI i) set (nI k) (nI (sMk S W)) (nI s) (nI v) μ = some (nI u, μ') ∧ KC μ μ') ∨ ((∀ v', pc v' = s → ¬ gd S g W b k i set v') ∧ ∃ μ', f_X4_fewestToShut_h22 r12 n (nI i) set (nI k) (nI (sMk S W)) (nI s) (nI v) μ = r12 (nI i) set (nI k) (nI (sMk S W)) (nI (s + 1)) μ' ∧ KC μ μ') := by
  have lo : sMk S W < 4096 := Nat.lt_of_lt_of_le (sMk_lt S W) (Nat.pow_le_pow_right (n := 2) (i := W) (j := 12) (by omega) hW)
  intro d
  induction d with
  | zero =>
    intro v n μ e hn R s1 hv
    obtain ⟨m, rfl⟩ : ∃ m, n = m + 1 := ⟨n - 1, by omega⟩
    refine Or.inr ⟨fun v' h1 h2 => ?_, μ, ?_, KC.rf μ⟩
    · have := sub_le h2.1 h2.2.1
      exact hv v' (by omega) h1 h2
    · rw [f_X4_fewestToShut_h22, if_pos (nI_lt (by omega) (by omega)), i_succ]
  | succ d ih =>
    intro v n μ e hn R s1 hv
    obtain ⟨m, rfl⟩ : ∃ m, n = m + 1 := ⟨n - 1, by omega⟩
    have next : ∀ μ1, KC μ μ1 → ¬ (pc v = s ∧ gd S g W b k i set v) → (∃ u μ', gd S g W b k i set u ∧ pc u = s ∧ (∀ v', gd S g W b k i set v' → pc v' = s → u ≤ v') ∧ f_X4_fewestToShut_h22 r12 m (nI i) set (nI k) (nI (sMk S W)) (nI s) (nI v + 1) μ1 = some (nI u, μ') ∧ KC μ μ') ∨ ((∀ v', pc v' = s → ¬ gd S g W b k i set v') ∧ ∃ μ', f_X4_fewestToShut_h22 r12 m (nI i) set (nI k) (nI (sMk S W)) (nI s) (nI v + 1) μ1 = r12 (nI i) set (nI k) (nI (sMk S W)) (nI (s + 1)) μ' ∧ KC μ μ') := by
      intro μ1 k1 nb
      rw [i_succ]
      rcases ih (v + 1) m μ1 (by omega) (by omega) ((k1.1 41 0 (by unfold LC; omega)).trans R) (s1.same (fun j => k1.1 3 j (by unfold LC; omega)) (fun j => k1.1 5 j (by unfold LC; omega)) (fun j => k1.1 7 j (by unfold LC; omega)) (fun j => k1.1 1 j (by unfold LC; omega))) (fun v' h1 h2 => by
        by_cases z : v' = v
        · subst z; exact fun y => nb ⟨h2, y⟩
        · exact hv v' (by omega) h2) with ⟨u, μ', a1, a2, a3, a4, a5⟩ | ⟨a1, μ', a2, a3⟩
      · exact Or.inl ⟨u, μ', a1, a2, a3, a4, k1.tr a5⟩
      · exact Or.inr ⟨a1, μ', a2, k1.tr a3⟩
    rw [f_X4_fewestToShut_h22, if_neg (nI_nlt (by omega) (by omega))]
    unfold f_X4_fewestToShut_b53 f_X4_fewestToShut_b54 f_X4_fewestToShut_b76
    rw [cBits (by omega), ifz, ifn]
    by_cases z : nI v &&& (nI (sMk S W) ^^^ (-1)) = 0
    · rw [if_pos z]
      have hsub : sub S v := fun w hw => ((sMk_bit S W w).1 ((bits_sub (by omega) lo).1 z w hw)).2
      by_cases y : pc v = s
      · rw [if_pos (by rw [y])]
        obtain ⟨μ1, k1, j⟩ := cSil (set := set) R s1 V eH eW eg hH hW hg1 hg3 hb1 hb2 hk hi (show v < 2 ^ 31 by omega) m (by omega)
        rcases j with ⟨j1, j2⟩ | ⟨j1, j2⟩
        · rw [j2, z_bindS]
          dsimp only
          rw [ifn]
          have gv : gd S g W b k i set v := ⟨Nat.lt_of_le_of_lt (show v ≤ sMk S W by omega) (sMk_lt S W), hsub, j1⟩
          refine Or.inl ⟨v, μ1, gv, y, fun v' h1 h2 => ?_, rfl, k1⟩
          apply Classical.byContradiction
          intro c
          exact hv v' (by omega) h2 h1
        · rw [j2, z_bindS]
          dsimp only
          rw [ifz]
          exact next μ1 k1 (fun q => j1 q.2.2.2)
      · have hp : pc v < 2 ^ 31 := by
          have : pc v ≤ 31 := by
            have key : ∀ n, pcs v n ≤ n := by
              intro n
              induction n with
              | zero => exact Nat.le_refl 0
              | succ n ih =>
                show pcs v n + v / 2 ^ n % 2 ≤ n + 1
                omega
            exact key 31
          omega
        rw [if_neg (nI_ne hp (by omega) y)]
        exact next μ (KC.rf μ) (fun q => y q.1)
    · rw [if_neg z]
      refine next μ (KC.rf μ) (fun q => z ((bits_sub (by omega) lo).2 (fun w hw => (sMk_bit S W w).2 ⟨?_, q.2.2.1 w hw⟩)))
      apply Classical.byContradiction
      intro n
      rw [Nat.testBit_lt_two_pow (Nat.lt_of_lt_of_le q.2.1 (Nat.pow_le_pow_right (by omega) (Nat.le_of_not_lt n)))] at hw
      cases hw
theorem cShut {N : Nat} {S : zS} {H W g b k i : Nat} {set : Int32} (V : Vd N S) (eH : S 10 0 = nI H) (eW : S 10 1 = nI W) (eg : S 10 2 = nI g) (hH : H ≤ 8) (hW : W ≤ 12) (hg1 : 1 ≤ g) (hg3 : g ≤ 3) (hb1 : b < H) (hb2 : S 10 3 = nI b) (hk : k ≤ 6) (hi : i < 8) : ∀ (d s n : Nat) (μ : z_M), s + d = 13 → d + 630000 ≤ n → μ.1 41 0 = 0 → StC 1 μ S → (∀ v', pc v' < s → ¬ gd S g W b k i set v') → ∃ u μ', mn S g W b k i set u ∧ f_X4_fewestToShut_h12 n (nI i) set (nI k) (nI (sMk S W)) (nI s) μ = some (nI u, μ') ∧ KC μ μ' := by
  intro d
  induction d with
  | zero =>
    intro s n μ e hn R s1 hv
    have lp : pc (sMk S W) ≤ W := by
      have := mk_sh V.2.2.2.2.2.2.1 W hW
      omega
    exact absurd (gd_open hk) (hv (sMk S W) (by omega))
  | succ d ih =>
    intro s n μ e hn R s1 hv
    obtain ⟨m, rfl⟩ : ∃ m, n = m + 1 := ⟨n - 1, by omega⟩
    have lo : sMk S W < 4096 := Nat.lt_of_lt_of_le (sMk_lt S W) (Nat.pow_le_pow_right (n := 2) (i := W) (j := 12) (by omega) hW)
    rw [f_X4_fewestToShut_h12, if_neg (show ¬ (12 : Int32) < nI s from nI_nlt (a := 12) (by omega) (by omega))]
    rcases cShutIn (set := set) (r12 := f_X4_fewestToShut_h12 m) V eH eW eg hH hW hg1 hg3 hb1 hb2 hk hi (s := s) (by omega) (sMk S W + 1) 0 m μ (by omega) (by omega) R s1 (fun v' h => by omega) with ⟨u, μ', a1, a2, a3, a4, a5⟩ | ⟨a1, μ', a2, a3⟩
    · refine ⟨u, μ', ⟨a1, fun v hv' => ?_⟩, a4, a5⟩
      by_cases z : pc v < s
      · exact absurd hv' (hv v z)
      · by_cases y : pc v = s
        · exact Or.inr ⟨by omega, a3 v hv' y⟩
        · exact Or.inl (by omega)
    · obtain ⟨u, μ2, c1, c2, c3⟩ := ih (s + 1) m μ' (by omega) (by omega) ((a3.1 41 0 (by unfold LC; omega)).trans R) (s1.same (fun j => a3.1 3 j (by unfold LC; omega)) (fun j => a3.1 5 j (by unfold LC; omega)) (fun j => a3.1 7 j (by unfold LC; omega)) (fun j => a3.1 1 j (by unfold LC; omega))) (fun v' h => by
        by_cases z : pc v' = s
        · exact a1 v' z
        · exact hv v' (by omega))
      exact ⟨u, μ2, c1, a2.trans c2, a3.tr c3⟩
