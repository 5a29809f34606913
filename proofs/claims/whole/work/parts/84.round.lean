/-! round -/
theorem zshr {v H : Nat} (hv : v < 2 ^ 31) (hH : H < 32) : nI v >>> (nI H &&& 31) = nI (v / 2 ^ H) := pk_shrN hv _ H (z_sl H hH)
theorem bitv {v h : Nat} (hv : v < 2 ^ 31) (hh : h < 32) : (¬ (nI v >>> (nI h &&& 31)) &&& 1 = 0) ↔ (nI v >>> (nI h &&& 31)) &&& 1 = 1 := by
  rw [zbit hv hh, nI_eq0 (by omega), nL1, nI_eqE (by omega) (by omega)]
  omega
theorem Hs.c90 {ν : z_M} {S : zS} {H W g sh k b : Nat} {t0 : zT} {p : List Nat} (s : Hs ν S H W g sh k b t0 p) (h4 : t0 4 0 = nI b) : ν.1 9 0 = nI b := by
  have h := (s.2.2.2.2.drop p.length).top
  rw [List.drop_length] at h
  exact h.2.2.1.trans h4
theorem mAllHear {N : Nat} {S : zS} {H W g k b v : Nat} {t0 : zT} {p : List Nat} {ν : z_M} (w : Hs ν S H W g 0 k b t0 p) (hH : H ≤ 8) (hk : k ≤ 6) (o : okR H k p) (hv : v < 2 ^ H) (set : Int32) (n : Nat) (hn : 20 ≤ n) : (HB S g W b t0 (nI v) 0 set p 8 → f_X9_doAllHear n (nI v) set ν = some (1, ν)) ∧ (¬ HB S g W b t0 (nI v) 0 set p 8 → f_X9_doAllHear n (nI v) set ν = some (0, ν)) := by
  have ol := o.1
  have hv8 : v < 2 ^ 31 := Nat.lt_of_lt_of_le hv (Nat.pow_le_pow_right (by omega) (by omega))
  have z0 : ∀ h, h < 8 → ((0 : Int32) >>> (nI h &&& 31)) &&& 1 = 0 := by decide
  have key : ∀ (d j n : Nat), j + d = H → d < n → HB S g W b t0 (nI v) 0 set p j → (HB S g W b t0 (nI v) 0 set p 8 → f_X9_doAllHear_h2 n (nI v) set (nI j) ν = some (1, ν)) ∧ (¬ HB S g W b t0 (nI v) 0 set p 8 → f_X9_doAllHear_h2 n (nI v) set (nI j) ν = some (0, ν)) := by
    intro d
    induction d with
    | zero =>
      intro j n e hn hj
      obtain ⟨m, rfl⟩ : ∃ m, n = m + 1 := ⟨n - 1, by omega⟩
      obtain rfl : j = H := by omega
      refine ⟨fun _ => ?_, fun z => absurd ?_ z⟩
      · rw [f_X9_doAllHear_h2, w.1.2.2.1, if_neg (nI_nlt (Nat.le_refl _) (by omega))]
      · intro h hh
        by_cases c : h < j
        · exact hj h c
        · refine ⟨fun q => ?_, fun q => absurd (z0 h hh) q⟩
          rw [zbit hv8 (by omega), nI_eq0 (by omega), Nat.div_eq_of_lt (Nat.lt_of_lt_of_le hv (Nat.pow_le_pow_right (by omega) (by omega)))] at q
          exact absurd rfl q
    | succ d ih =>
      intro j n e hn hj
      obtain ⟨m, rfl⟩ : ∃ m, n = m + 1 := ⟨n - 1, by omega⟩
      have step : (¬ (nI v >>> (nI j &&& 31)) &&& 1 = 0 → hrA S 0 g W b t0 j set p) → (HB S g W b t0 (nI v) 0 set p 8 → f_X9_doAllHear_b42 (f_X9_doAllHear_h2 m) m (nI v) set (nI j) ν = some (1, ν)) ∧ (¬ HB S g W b t0 (nI v) 0 set p 8 → f_X9_doAllHear_b42 (f_X9_doAllHear_h2 m) m (nI v) set (nI j) ν = some (0, ν)) := by
        intro h1
        unfold f_X9_doAllHear_b42
        rw [i_succ]
        refine ih (j + 1) m (by omega) (by omega) (fun h hh => ?_)
        by_cases z : h = j
        · subst z; exact ⟨h1, fun q => absurd (z0 h (by omega)) q⟩
        · exact hj h (by omega)
      rw [f_X9_doAllHear_h2, w.1.2.2.1, if_pos (nI_lt (by omega) (by omega))]
      by_cases z : (nI v >>> (nI j &&& 31)) &&& 1 = 0
      · rw [if_neg (fun q => (bitv hv8 (by omega)).2 q z)]
        exact step (fun q => absurd z q)
      · rw [if_pos ((bitv hv8 (by omega)).1 z), w.2.2.2.1, i8_h, z_chkN (by omega) (by decide), z_ixN (by omega), w.heard (by omega)]
        by_cases z1 : hrA S 0 g W b t0 j set p
        · rw [if_pos (show set &&& (tR S g (fun a c => sLk S 0 a c W) b t0 p 1 j ^^^ (-1)) = 0 from z1)]
          exact step (fun _ => z1)
        · rw [if_neg (show ¬ set &&& (tR S g (fun a c => sLk S 0 a c W) b t0 p 1 j ^^^ (-1)) = 0 from z1)]
          exact ⟨fun q => absurd ((q j (by omega)).1 z) z1, fun _ => rfl⟩
  exact key H 0 n (by omega) (by omega) (fun h hh => by omega)
theorem ag_round {N : Nat} {μ ν : z_M} (R : Rr N μ ν) (x1 x3 x4 x5 : Int32) : Ag N (fun n => f_X8_round n x1 x3 x4 x5 μ) (fun n => f_X9_round n x1 x3 x4 x5 ν) := by
  obtain ⟨S, H, W, g, O⟩ := R.1.op
  have O' := O
  obtain ⟨⟨s1, s2, V⟩, ⟨hH, hW, hg1, hg3⟩, ⟨eH, eW, eg⟩, ⟨c3, c4, c5, c6⟩, ⟨m8, m9, m10, mb, m23, m24⟩, hb⟩ := O
  unfold f_X8_round f_X9_round f_X8_troubleInSeeking f_X8_round_b30 f_X9_round_b51
  rw [show f_X8_isCount x4 1 6 μ = f_X9_isIn x4 (nI 1) (nI 6) ν from rfl, show f_X9_isIn x4 1 6 ν = f_X9_isIn x4 (nI 1) (nI 6) ν from rfl]
  by_cases c5 : x5 < 0
  · refine ⟨-5 - 10, _, _, ⟨0, ?_⟩, ⟨0, ?_⟩, R.refuse 5⟩
    · simp only [if_pos c5, z_letE, ne0_5, if_false, refA5]
    · simp only [if_pos c5, refN5, z_bindS]
  have bad6 : ∀ {a b : Nat → Option (Int32 × z_M)}, (a 0 = some (-6 - 10, z_sI μ 49 6 (μ.1 49 6 + 1))) → (b 0 = some (-6 - 10, z_sI ν 1 6 (ν.1 1 6 + 1))) → Ag N a b := by
    intro a b h1 h2
    exact ⟨-6 - 10, _, _, ⟨0, h1⟩, ⟨0, h2⟩, R.refuse 6⟩
  have hsH : (x1 < 0 ∧ f_X6_isSetOfHouses 1 x1 μ = 0) ∨ (¬ x1 < 0 ∧ f_X6_isSetOfHouses 1 x1 μ = 0 ∧ ¬ x1 >>> (ν.1 0 8 &&& 31) = 0) ∨ ∃ v, v < 2 ^ H ∧ x1 = nI v ∧ f_X6_isSetOfHouses 1 (nI v) μ = 1 ∧ ¬ nI v < 0 ∧ nI v >>> (ν.1 0 8 &&& 31) = 0 := by
    unfold f_X6_isSetOfHouses
    rw [c3, m8, z_bit1 (by omega)]
    by_cases z : x1 < 0
    · exact Or.inl ⟨z, by rw [if_pos z]⟩
    · obtain ⟨v, hv, rfl⟩ := nI_of z
      have hp : 2 ^ H < 2 ^ 31 := Nat.pow_lt_pow_right (by omega) (by omega)
      rw [zshr hv (by omega)]
      have hd : v / 2 ^ H < 2 ^ 31 := Nat.lt_of_le_of_lt (Nat.div_le_self _ _) hv
      by_cases z2 : v < 2 ^ H
      · exact Or.inr (Or.inr ⟨v, z2, rfl, by rw [if_neg z, if_pos (nI_lt z2 hp)], z, by rw [zshr hv (by omega), Nat.div_eq_of_lt z2]; rfl⟩)
      · refine Or.inr (Or.inl ⟨z, by rw [if_neg z, if_neg (nI_nlt (by omega) hv)], ?_⟩)
        have : v / 2 ^ H ≠ 0 := by
          have := Nat.div_pos (Nat.le_of_not_lt z2) (Nat.two_pow_pos H)
          omega
        exact nI_ne (b := 0) hd (by omega) this
  rcases dSet μ ν x3 with ⟨f1, f2⟩ | ⟨s, hs, rfl, f1, f2⟩
  · refine bad6 ?_ ?_
    · simp only [if_neg c5, f1, if_true, z_letE, ne0_6, if_false, refA6]
    · rcases hsH with ⟨z1, z2⟩ | ⟨z1, z2, z3⟩ | ⟨v, hv, rfl, z1, z2, z3⟩
      · simp only [if_neg c5, if_pos z1, refN6, z_bindS]
      · simp only [if_neg c5, if_neg z1, if_neg z3, refN6, z_bindS]
      · simp only [if_neg c5, if_neg z2, if_pos z3, f2, if_true, refN6, z_bindS]
  rcases dIn ν x4 1 6 (by omega) (by omega) with f3 | ⟨k, -, hk, rfl, f3⟩
  · refine bad6 ?_ ?_
    · simp only [if_neg c5, f1, f3, ifn, if_true, z_letE, ne0_6, if_false, refA6]
    · rcases hsH with ⟨z1, z2⟩ | ⟨z1, z2, z3⟩ | ⟨v, hv, rfl, z1, z2, z3⟩
      · simp only [if_neg c5, if_pos z1, refN6, z_bindS]
      · simp only [if_neg c5, if_neg z1, if_neg z3, refN6, z_bindS]
      · simp only [if_neg c5, if_neg z2, if_pos z3, f2, f3, ifn, if_true, refN6, z_bindS]
  rcases hasBird c6 mb hH hb with ⟨b1, b2⟩ | ⟨b1, b2, b, hb1, hb2⟩
  · refine bad6 ?_ ?_
    · simp only [if_neg c5, f1, f3, b1, ifn, if_true, z_letE, ne0_6, if_false, refA6]
    · rcases hsH with ⟨z1, z2⟩ | ⟨z1, z2, z3⟩ | ⟨v, hv, rfl, z1, z2, z3⟩
      · simp only [if_neg c5, if_pos z1, refN6, z_bindS]
      · simp only [if_neg c5, if_neg z1, if_neg z3, refN6, z_bindS]
      · simp only [if_neg c5, if_neg z2, if_pos z3, f2, f3, ifn, show z_ix 0 = 0 from rfl, if_pos b2, refN6, z_bindS]
  rcases hsH with ⟨z1, z2⟩ | ⟨z1, z2, z3⟩ | ⟨v, hv, rfl, z1, z2, z3⟩
  · refine bad6 ?_ ?_
    · simp only [if_neg c5, f1, f3, b1, z2, ifn, if_true, z_letE, ne0_6, if_false, refA6]
    · simp only [if_neg c5, if_pos z1, refN6, z_bindS]
  · refine bad6 ?_ ?_
    · simp only [if_neg c5, f1, f3, b1, z2, ifn, if_true, z_letE, ne0_6, if_false, refA6]
    · simp only [if_neg c5, if_neg z1, if_neg z3, refN6, z_bindS]
  obtain ⟨μ9, e9⟩ : ∃ y, y = z_sI μ 42 3 0 := ⟨_, rfl⟩
  obtain ⟨ν9, n9⟩ : ∃ y, y = z_sI ν 0 47 (-1) := ⟨_, rfl⟩
  have k9 : KC μ μ9 := by rw [e9]; exact (KC.rf μ).sI (by unfold LC; omega)
  have fx9 : FX ν ν9 := by rw [n9]; exact (FX.rf ν).sI (by omega)
  have R9 : Rr N μ9 ν := R.think k9 (KM.rf ν)
  have O9 : RSo N μ9 ν S H W g := by
    have h : ∀ q j, q ≠ 42 → μ9.1 q j = μ.1 q j := fun q j hq => by rw [e9, sI1f hq]
    exact ⟨⟨s1.same (fun j => h 3 j (by decide)) (fun j => h 5 j (by decide)) (fun j => h 7 j (by decide)) (fun j => h 1 j (by decide)), s2, V⟩, ⟨hH, hW, hg1, hg3⟩, ⟨eH, eW, eg⟩, ⟨by rw [h 1 3 (by decide)]; exact O'.2.2.2.1.1, by rw [h 1 4 (by decide)]; exact O'.2.2.2.1.2.1, by rw [h 1 5 (by decide)]; exact O'.2.2.2.1.2.2.1, by rw [h 1 6 (by decide)]; exact c6⟩, ⟨m8, m9, m10, mb, m23, m24⟩, hb⟩
  obtain ⟨μ0, a1, a2, a3, a4⟩ := cStart (b := b) (sp := ν9.1 16 0) R9 O9 700000 (by omega)
  have M9 : MSt ν9 S H W g 0 := (MSt.of O').same (fun k j q => fx9.1 k j (by unfold Fm at q; omega) (by unfold Fm at q; omega))
  have T9 : RowM ν9 0 (fun a i => if a = 0 then S 3 i else if a = 1 then ν9.1 12 i else if a = 2 then S 4 i else if a = 3 then S 9 i else if i = 0 then S 10 3 else if i = 1 then ν9.1 15 0 else ν9.1 16 0) := row0 (s2.same fx9.KM)
  obtain ⟨ν1, ν2, d1, d2, d3, d4, d5, d6, d7, d8, d9⟩ := mStart (b := b) M9 T9 k 700000 (by omega)
  obtain ⟨l, L1, L2⟩ := Ch_n (ok := okL S 0 W b) hk
  have dd : Sd N S H W g b (t00 S false (ν9.1 16 0)) := Sd.of V eH eW hH hW hb2 hb1 hg1 hg3
  obtain ⟨μ', u1, u2, u3, -⟩ := cQuick dd hk 1 (by omega) (nI v) 0 (nI s) L1 L2 a2 (by rw [a4 42 (by omega) (by omega) (by omega), e9, sI1, if_pos ⟨rfl, rfl⟩])
  obtain ⟨n', ν', v1, v2, v3, v4⟩ := mAll (Md.of V eH eW hH hW hb2 hb1 hg1 hg3 (show 0 < 2 ^ 31 by omega) : Md N S H W g 0 b (t00 S false (ν9.1 16 0))) hk (fun n (_ : Option (List Nat)) m => f_X9_round_h69 n (nI v) (nI s) x5 m) (fun n _ p => z_chk (p.1 0 26) 9 (if (p.1 9 (z_ix (p.1 0 26))) = (p.1 9 (z_ix 0)) then (z_bind (f_X9_doAllHear n (nI v) (nI s) p) (fun p7 => if p7.1 = 0 then (f_X9_round_h69 n (nI v) (nI s) x5 p7.2) else (z_bind (f_X9_isBetter p7.2) (fun p8 => if p8.1 = 0 then (f_X9_round_h69 n (nI v) (nI s) x5 p8.2) else (z_bind (f_X9_takesBest n p8.2) (fun p9 => f_X9_round_h69 n (nI v) (nI s) x5 p9.2)))))) else (f_X9_round_h69 n (nI v) (nI s) x5 p))) (fun n _ p => z_bind (f_X9_toldOf x5 p) (fun p7 => some (p7.1, p7.2))) (stQ S g W b (t00 S false (ν9.1 16 0)) 1 (nI v) 0 (nI s)) (fun o m => QM (tR S g (fun a c => sLk S 0 a c W) b (t00 S false (ν9.1 16 0))) o m) (fun _ => True) (fun _ _ => False) (fun o m m' f q => q.same ⟨f.1 0 46 (by unfold FMp; omega), f.1 0 47 (by unfold FMp; omega), fun j => f.1 25 j (by unfold FMp; omega)⟩) (fun n o m => rfl) (fun n p o m hn ok _ w c29 q => by
    have ol := ok.1
    have c26 := w.2.2.2.1
    have hp : pl b p < 8 := Nat.lt_of_lt_of_le (pl_lt hb1 ok.2) hH
    have c9p : m.1 9 p.length = nI (pl b p) := by rw [w.2.2.2.2.top.2.2.1, tR_at hb2]
    simp only [c26]
    rw [z_chkN (by omega) (by decide), z_ixN (by omega), show z_ix 0 = 0 from rfl, w.c90 hb2, c9p]
    have A := mAllHear (N := N) w hH hk ok hv (nI s) n (by omega)
    have B := mBetter w (by omega) q
    have stay : stQ S g W b (t00 S false (ν9.1 16 0)) 1 (nI v) 0 (nI s) p o = o → ∃ m1, Hs m1 S H W g 0 k b (t00 S false (ν9.1 16 0)) p ∧ QM (tR S g (fun a c => sLk S 0 a c W) b (t00 S false (ν9.1 16 0))) (stQ S g W b (t00 S false (ν9.1 16 0)) 1 (nI v) 0 (nI s) p o) m1 ∧ m1.1 18 p.length = m.1 18 p.length ∧ m1.1 0 28 = m.1 0 28 ∧ (False → ¬ m1.1 0 29 = 0) ∧ (¬ False → m1.1 0 29 = 0) ∧ KM m m1 ∧ f_X9_round_h69 n (nI v) (nI s) x5 m = f_X9_round_h69 n (nI v) (nI s) x5 m1 := by
      intro e
      exact ⟨m, w, by rw [e]; exact q, rfl, rfl, fun q => q.elim, fun _ => c29, KM.rf m, rfl⟩
    by_cases z : pl b p = b
    · rw [if_pos (by rw [z])]
      by_cases y1 : HB S g W b (t00 S false (ν9.1 16 0)) (nI v) 0 (nI s) p 8
      · rw [A.1 y1, z_bindS]
        dsimp only
        rw [ifn]
        by_cases y2 : bqT (tR S g (fun a c => sLk S 0 a c W) b (t00 S false (ν9.1 16 0))) p o
        · rw [B.1 y2, z_bindS]
          dsimp only
          rw [ifn]
          obtain ⟨m9, k1, k2, k3, k4⟩ := mTake w hb2 (by omega) n (by omega)
          rw [k1, z_bindS]
          refine ⟨m9, w.FX k2, ?_, k2.c18 _, k2.c28, fun q => q.elim, fun _ => by rw [k3 29 (by omega) (by omega)]; exact c29, k2.KM, rfl⟩
          unfold stQ
          rw [if_pos (show _ ∧ _ from ⟨Or.inr z, y2, y1⟩)]
          exact k4
        · rw [B.2 y2, z_bindS]
          dsimp only
          rw [ifz]
          exact stay (by unfold stQ; exact if_neg (fun q => y2 q.2.1))
      · rw [A.2 y1, z_bindS]
        dsimp only
        rw [ifz]
        exact stay (by unfold stQ; exact if_neg (fun q => y1 q.2.2))
    · rw [if_neg (nI_ne (by omega) (by omega) z)]
      exact stay (by unfold stQ; exact if_neg (fun q => q.1.elim (by omega) z))) (fun _ _ _ _ _ _ _ _ => trivial) (fun p o h es z => z.elim) l.length l [] none 699999 ν2 (Nat.le_refl _) L1 (okR_nil H k) trivial (by omega) d3 d4 d5 d6 (by
      show ν2.1 0 47 = -1
      rw [d8 0 47 (by omega) (by omega) (by omega) (by omega), n9, sI1, if_pos ⟨rfl, rfl⟩])
  refine ⟨f_X4_told x5 μ', μ', ν', ⟨700000, ?_⟩, ⟨700000, ?_⟩, R.think ((k9.tr a3).tr u2) ((fx9.KM.tr d7).tr v3)⟩
  · unfold f_X4_quickest
    simp only [ifn, if_neg c5, f1, f3, b1, z1, if_true, z_letE]
    rw [← e9, a1, z_bindS]
    have u1' : f_X4_quickest_h18 700000 (nI v) 0 (nI s) (nI k) 1 1 0 μ0 = some ((), μ') := u1
    rw [u1', z_bindS]
  · simp only [ifn, if_neg c5, if_neg z2, if_pos z3, f2, f3, show z_ix 0 = 0 from rfl, if_neg b2, z_letE]
    rw [← n9, d1, z_bindS]
    dsimp only
    rw [show f_X9_round_h69 700000 = f_X9_round_h69 (699999 + 1) from rfl, f_X9_round_h69, d2, z_bindS, if_neg (show ¬ (1 : Int32) = 0 by decide)]
    refine v1.trans ?_
    show z_bind (f_X9_toldOf x5 ν') _ = _
    rw [told_eq u3 v4 x5 c5, z_bindS]
