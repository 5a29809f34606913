/-! the fewest visits -/
def FX (ν ν' : z_M) : Prop := (∀ k j, ¬ (k = 0 ∧ (j = 29 ∨ (46 ≤ j ∧ j ≤ 49))) → k ≠ 25 → ν'.1 k j = ν.1 k j) ∧ ν'.2 = ν.2
theorem FX.rf (ν : z_M) : FX ν ν := ⟨fun _ _ _ _ => rfl, rfl⟩
theorem FX.tr {a b c : z_M} (h : FX a b) (k : FX b c) : FX a c := ⟨fun x y q1 q2 => (k.1 x y q1 q2).trans (h.1 x y q1 q2), k.2.trans h.2⟩
theorem FX.sI {a b : z_M} (h : FX a b) {k j : Nat} {v : Int32} (hk : (k = 0 ∧ (j = 29 ∨ (46 ≤ j ∧ j ≤ 49))) ∨ k = 25) : FX a (z_sI b k j v) := by
  refine ⟨fun x y q1 q2 => ?_, h.2⟩
  rw [sI1, if_neg (by omega)]; exact h.1 x y q1 q2
theorem FX.KM {a b : z_M} (h : FX a b) : KM a b := ⟨fun k j q => h.1 k j (by unfold LM at q; omega) (by unfold LM at q; omega), by rw [h.2]⟩
theorem Hs.FX {ν ν' : z_M} {S : zS} {H W g sh k b : Nat} {t0 : zT} {p : List Nat} (s : Hs ν S H W g sh k b t0 p) (h : FX ν ν') : Hs ν' S H W g sh k b t0 p := by
  obtain ⟨M, c27, c30, c26, rk⟩ := s
  have e := h.1
  exact ⟨M.same (fun k j q => e k j (by unfold Fm at q; omega) (by unfold Fm at q; omega)), (e 0 27 (by omega) (by omega)).trans c27, (e 0 30 (by omega) (by omega)).trans c30, (e 0 26 (by omega) (by omega)).trans c26, rk.same (fun r k j _ q => e k j (by unfold Rw at q; omega) (by unfold Rw at q; omega)) (fun j _ => e 18 j (by omega) (by omega))⟩
theorem FX.c18 {ν ν' : z_M} (h : FX ν ν') (j : Nat) : ν'.1 18 j = ν.1 18 j := h.1 18 j (by omega) (by omega)
theorem FX.c28 {ν ν' : z_M} (h : FX ν ν') : ν'.1 0 28 = ν.1 0 28 := h.1 0 28 (by omega) (by omega)
/-- a house has heard a whole set -/
def hrA (S : zS) (sh g W b : Nat) (t0 : zT) (i : Nat) (set : Int32) (p : List Nat) : Prop := set &&& (tR S g (fun a c => sLk S sh a c W) b t0 p 1 i ^^^ (-1)) = 0
def hrN (S : zS) (sh g W b : Nat) (t0 : zT) (i : Nat) (set : Int32) (p : List Nat) : Prop := set &&& tR S g (fun a c => sLk S sh a c W) b t0 p 1 i = 0
theorem cHA {N k : Nat} {μ : z_M} {S : zS} {H W L sh b : Nat} {t0 : zT} {p : List Nat} (dd : Sd N S H W L b t0) (w : Wk μ S H W L sh b t0 p) (hk : k ≤ 6) (o : okR H k p) {i : Nat} (hi : i < 8) (set : Int32) (n : Nat) (hn : 100 ≤ n) : (hrA S sh L W b t0 i set p → f_X4_hearsAll n (nI i) set μ = some (1, μ)) ∧ (¬ hrA S sh L W b t0 i set p → f_X4_hearsAll n (nI i) set μ = some (0, μ)) := by
  have := o.1
  have e := cHeard w.2.2.2.2 dd.2.2.2.1 dd.2.2.2.2.2.2.2.2.2.2.1 w.2.2.1 (by omega) (show i < 2 ^ 31 by omega) n (by omega)
  unfold f_X4_hearsAll hrA
  rw [e, z_bindS]
  exact ⟨fun h => by rw [if_pos h], fun h => by rw [if_neg h]⟩
theorem cHN {N k : Nat} {μ : z_M} {S : zS} {H W L sh b : Nat} {t0 : zT} {p : List Nat} (dd : Sd N S H W L b t0) (w : Wk μ S H W L sh b t0 p) (hk : k ≤ 6) (o : okR H k p) {i : Nat} (hi : i < 8) (set : Int32) (n : Nat) (hn : 100 ≤ n) : (hrN S sh L W b t0 i set p → f_X4_hearsAny n (nI i) set μ = some (0, μ)) ∧ (¬ hrN S sh L W b t0 i set p → f_X4_hearsAny n (nI i) set μ = some (1, μ)) := by
  have := o.1
  have e := cHeard w.2.2.2.2 dd.2.2.2.1 dd.2.2.2.2.2.2.2.2.2.2.1 w.2.2.1 (by omega) (show i < 2 ^ 31 by omega) n (by omega)
  unfold f_X4_hearsAny hrN
  rw [e, z_bindS]
  exact ⟨fun h => by rw [if_pos h], fun h => by rw [if_neg h]⟩
noncomputable def stF (S : zS) (g W b : Nat) (t0 : zT) (i : Nat) (set : Int32) (p : List Nat) (f : Nat) : Nat := @ite _ (p.length < f ∧ hrA S 0 g W b t0 i set p) (Classical.propDecidable _) p.length f
def bst (f : Nat) : Int32 := if f = 7 then -1 else nI f
theorem stF_le {S : zS} {g W b : Nat} {t0 : zT} {i : Nat} {set : Int32} {p : List Nat} {f : Nat} (h : f ≤ 7) : stF S g W b t0 i set p f ≤ 7 := by
  unfold stF
  by_cases c : p.length < f ∧ hrA S 0 g W b t0 i set p
  · rw [if_pos c]; omega
  · rw [if_neg c]; exact h
theorem ag_first {N : Nat} {μ ν : z_M} (R : Rr N μ ν) (x y : Int32) : Ag N (fun n => f_X8_first n x y μ) (fun n => f_X9_first n x y ν) := by
  obtain ⟨S, H, W, g, O⟩ := R.1.op
  have O' := O
  obtain ⟨⟨s1, s2, V⟩, ⟨hH, hW, hg1, hg3⟩, ⟨eH, eW, eg⟩, ⟨c3, c4, c5, c6⟩, ⟨m8, m9, m10, mb, m23, m24⟩, hb⟩ := O
  unfold f_X8_first f_X9_first f_X8_troubleInThought f_X9_first_b30
  rcases dH c3 m8 hH x with ⟨e1, e2⟩ | ⟨i, hi, rfl, e1, e2⟩
  · refine ⟨-1 - 10, _, _, ⟨0, ?_⟩, ⟨0, ?_⟩, R.refuse 1⟩
    · simp only [e1, if_true, z_letE, ne0_1, if_false, refA1]
    · simp only [e2, if_true, refN1, z_bindS]
  · rcases dSet μ ν y with ⟨e3, e4⟩ | ⟨k, hk, rfl, e3, e4⟩
    · refine ⟨-6 - 10, _, _, ⟨0, ?_⟩, ⟨0, ?_⟩, R.refuse 6⟩
      · simp only [e1, e3, ifn, if_true, z_letE, ne0_6, if_false, refA6]
      · simp only [e2, e4, ifn, if_true, refN6, z_bindS, z_letE]
    · rcases hasBird c6 mb hH hb with ⟨b1, b2⟩ | ⟨b1, b2, b, hb1, hb2⟩
      · refine ⟨-6 - 10, _, _, ⟨0, ?_⟩, ⟨0, ?_⟩, R.refuse 6⟩
        · simp only [e1, e3, ifn, if_true, z_letE, ne0_6, if_false, refA6, b1]
        · simp only [e2, e4, ifn, if_true, refN6, z_bindS, z_letE, show z_ix 0 = 0 from rfl, if_pos b2]
      · obtain ⟨μ0, a1, a2, a3, a4⟩ := cStart (b := b) (sp := ν.1 16 0) R O' 700000 (by omega)
        obtain ⟨ν1, ν2, d1, d2, d3, d4, d5, d6, d7, d8, d9⟩ := mStart (b := b) (MSt.of O') (row0 s2) 6 700000 (by omega)
        obtain ⟨l, L1, L2⟩ := Ch_n (ok := okL S 0 W b) (k := 6) (by omega)
        have dd : Sd N S H W g b (t00 S false (ν.1 16 0)) := Sd.of V eH eW hH hW hb2 hb1 hg1 hg3
        obtain ⟨μ', u1, u2, u3, -⟩ := cAll dd (by omega) (fun n more c f m => f_X4_fewestVisits_h18 n (nI i) (nI k) (nI 6) (nI f) more c m) (stF S g W b (t00 S false (ν.1 16 0)) i (nI k)) (fun f => if f = 7 then (-1 : Int32) else nI f) (fun _ f _ => f ≤ 7) (fun _ _ _ _ _ h => h) (fun n c f m hf => by
          show f_X4_fewestVisits_h18 (n + 1) _ _ _ _ _ _ _ = _
          rw [f_X4_fewestVisits_h18, if_pos rfl]
          unfold f_X4_fewestVisits_b76
          by_cases z : f = 7
          · rw [if_pos z, z, if_pos (by decide)]
          · rw [if_neg z, if_neg (nI_nlt (by omega) (by omega))]) (fun n c p f m hn hc o w hf => by
          refine ⟨m, w, stF_le hf, KC.rf m, ?_⟩
          have ol := o.1
          show f_X4_fewestVisits_h18 (n + 1) _ _ _ _ _ _ _ = _
          rw [f_X4_fewestVisits_h18, if_neg (by decide), if_pos (show nI c < 1000000 from nI_lt (b := 1000000) hc (by omega))]
          unfold f_X7_visitsMade f_X4_fewestVisits_b60
          rw [w.2.2.1]
          have hh := cHA dd w (by omega) o (show i < 8 by omega) (nI k) n (by omega)
          unfold stF
          by_cases z : p.length < f
          · rw [if_pos (nI_lt z (by omega))]
            by_cases z2 : hrA S 0 g W b (t00 S false (ν.1 16 0)) i (nI k) p
            · rw [hh.1 z2, z_bindS, if_pos (show _ ∧ _ from ⟨z, z2⟩)]
              dsimp only
              rw [ifn, w.2.2.1, z_letE, i_succ]
            · rw [hh.2 z2, z_bindS, if_neg (show ¬ (p.length < f ∧ hrA S 0 g W b (t00 S false (ν.1 16 0)) i (nI k) p) from fun q => z2 q.2)]
              dsimp only
              rw [ifz, i_succ]
          · rw [if_neg (nI_nlt (by omega) (by omega)), if_neg (fun q => z q.1), i_succ]) l [] 7 0 700000 μ0 L1 (okR_nil H 6) (by omega) (by omega) a2 (by omega)
        obtain ⟨n', ν', v1, v2, v3, -⟩ := mAll (Md.of V eH eW hH hW hb2 hb1 hg1 hg3 (show 0 < 2 ^ 31 by omega) : Md N S H W g 0 b (t00 S false (ν.1 16 0))) (k := 6) (by omega) (fun n f m => f_X9_first_h46 n (nI i) (nI k) (bst f) m) (fun n f p => z_chk ((8 * (p.1 0 26)) + nI i) 72 (if (nI k &&& ((p.1 12 (z_ix ((8 * (p.1 0 26)) + nI i))) ^^^ (-1))) = 0 then (if bst f < 0 then (f_X9_first_b86 (f_X9_first_h46 n) n (nI i) (nI k) p) else (if (p.1 0 26) < bst f then (f_X9_first_b86 (f_X9_first_h46 n) n (nI i) (nI k) p) else (f_X9_first_b91 (f_X9_first_h46 n) n (nI i) (nI k) (bst f) p))) else (f_X9_first_b91 (f_X9_first_h46 n) n (nI i) (nI k) (bst f) p))) (fun _ f m => some (bst f, m)) (stF S g W b (t00 S false (ν.1 16 0)) i (nI k)) (fun f _ => f ≤ 7) (fun _ => True) (fun p f => f ≠ 7 ∧ f ≤ p.length + 1) (fun _ _ _ _ h => h) (fun n f m => rfl) (fun n p f m hn o _ w c29 hf => by
          have ol := o.1
          have c26 := w.2.2.2.1
          -- after the choice
          have key : ∀ f', f' ≤ 7 → ∃ m1, FX m m1 ∧ (f' ≠ 7 ∧ f' ≤ p.length + 1 → ¬ m1.1 0 29 = 0) ∧ (¬ (f' ≠ 7 ∧ f' ≤ p.length + 1) → m1.1 0 29 = 0) ∧ f_X9_first_b91 (f_X9_first_h46 n) n (nI i) (nI k) (bst f') m = f_X9_first_h46 n (nI i) (nI k) (bst f') m1 := by
            intro f' hf'
            unfold f_X9_first_b91 f_X9_first_b110 f_X9_first_b111 bst
            by_cases z : f' = 7
            · refine ⟨z_sI m 0 29 0, (FX.rf m).sI (by omega), fun q => absurd z q.1, fun _ => by rw [sI1, if_pos ⟨rfl, rfl⟩], ?_⟩
              rw [if_pos z, if_pos (by decide), z_boolE (Or.inl rfl), z_letE]
            · rw [if_neg z, if_neg (nI_pos (by omega)), c26, i_succ]
              by_cases z2 : p.length + 1 < f'
              · refine ⟨z_sI m 0 29 0, (FX.rf m).sI (by omega), fun q => absurd q.2 (by omega), fun _ => by rw [sI1, if_pos ⟨rfl, rfl⟩], ?_⟩
                rw [if_pos (nI_lt z2 (by omega)), z_boolE (Or.inl rfl), z_letE]
              · refine ⟨z_sI m 0 29 1, (FX.rf m).sI (by omega), fun q => by rw [sI1, if_pos ⟨rfl, rfl⟩]; decide, fun q => absurd ⟨z, by omega⟩ q, ?_⟩
                rw [if_neg (nI_nlt (by omega) (by omega)), z_boolE (Or.inr rfl), z_letE]
          have fin : ∀ f', f' ≤ 7 → f' = stF S g W b (t00 S false (ν.1 16 0)) i (nI k) p f → ∃ m1, Hs m1 S H W g 0 6 b (t00 S false (ν.1 16 0)) p ∧ stF S g W b (t00 S false (ν.1 16 0)) i (nI k) p f ≤ 7 ∧ m1.1 18 p.length = m.1 18 p.length ∧ m1.1 0 28 = m.1 0 28 ∧ ((stF S g W b (t00 S false (ν.1 16 0)) i (nI k) p f) ≠ 7 ∧ (stF S g W b (t00 S false (ν.1 16 0)) i (nI k) p f) ≤ p.length + 1 → ¬ m1.1 0 29 = 0) ∧ (¬ ((stF S g W b (t00 S false (ν.1 16 0)) i (nI k) p f) ≠ 7 ∧ (stF S g W b (t00 S false (ν.1 16 0)) i (nI k) p f) ≤ p.length + 1) → m1.1 0 29 = 0) ∧ KM m m1 ∧ f_X9_first_b91 (f_X9_first_h46 n) n (nI i) (nI k) (bst f') m = f_X9_first_h46 n (nI i) (nI k) (bst (stF S g W b (t00 S false (ν.1 16 0)) i (nI k) p f)) m1 := by
            rintro f' h1 rfl
            obtain ⟨m1, q1, q2, q3, q4⟩ := key _ h1
            exact ⟨m1, w.FX q1, h1, q1.c18 _, q1.c28, q2, q3, q1.KM, q4⟩
          simp only [c26, i8_h]
          rw [z_chkN (by omega) (by decide), z_ixN (by omega), w.heard (by omega)]
          by_cases z2 : hrA S 0 g W b (t00 S false (ν.1 16 0)) i (nI k) p
          · rw [if_pos (show nI k &&& (tR S g (fun a c => sLk S 0 a c W) b (t00 S false (ν.1 16 0)) p 1 i ^^^ (-1)) = 0 from z2)]
            unfold f_X9_first_b86
            rw [c26, z_letE]
            by_cases z : p.length < f
            · obtain ⟨m1, q⟩ := fin p.length (by omega) (by unfold stF; rw [if_pos ⟨z, z2⟩])
              refine ⟨m1, ?_⟩
              rw [show bst p.length = nI p.length from if_neg (by omega)] at q
              by_cases z3 : f = 7
              · rw [show bst f = -1 from if_pos z3, if_pos (by decide)]; exact q
              · rw [show bst f = nI f from if_neg z3, if_neg (nI_pos (by omega)), if_pos (nI_lt z (by omega))]; exact q
            · obtain ⟨m1, q⟩ := fin f hf (by unfold stF; rw [if_neg (fun q => z q.1)])
              refine ⟨m1, ?_⟩
              have z3 : ¬ f = 7 := by omega
              rw [show (if bst f < 0 then f_X9_first_b91 (f_X9_first_h46 n) n (nI i) (nI k) (nI p.length) m else if nI p.length < bst f then f_X9_first_b91 (f_X9_first_h46 n) n (nI i) (nI k) (nI p.length) m else f_X9_first_b91 (f_X9_first_h46 n) n (nI i) (nI k) (bst f) m) = f_X9_first_b91 (f_X9_first_h46 n) n (nI i) (nI k) (bst f) m by
                rw [show bst f = nI f from if_neg z3, if_neg (nI_pos (by omega)), if_neg (nI_nlt (by omega) (by omega))]]
              exact q
          · obtain ⟨m1, q⟩ := fin f hf (by unfold stF; rw [if_neg (fun q => z2 q.2)])
            refine ⟨m1, ?_⟩
            rw [if_neg (show ¬ (nI k &&& (tR S g (fun a c => sLk S 0 a c W) b (t00 S false (ν.1 16 0)) p 1 i ^^^ (-1)) = 0) from z2)]; exact q) (fun _ _ _ _ _ _ _ _ => trivial) (fun p f h es z => by
          unfold stF at z ⊢
          rw [if_neg (fun q => ?_)]
          have q1 := q.1
          simp only [List.length_append, List.cons_append, List.length_cons] at q1
          have := z.2
          omega) l.length l [] 7 699999 ν2 (Nat.le_refl _) L1 (okR_nil H 6) trivial (by omega) d3 d4 d5 d6 (by omega)
        refine ⟨bst (List.foldl (fun s p => stF S g W b (t00 S false (ν.1 16 0)) i (nI k) p s) 7 ([] :: l)), μ', ν', ⟨700000, ?_⟩, ⟨700000, ?_⟩, R.think (a3.tr u2) (d7.tr v3)⟩
        · unfold f_X4_fewestVisits
          simp only [e1, e3, ifn, if_true, z_letE, b1, a1, z_bindS]
          have u1' : f_X4_fewestVisits_h18 700000 (nI i) (nI k) 6 (6 + 1) 1 0 μ0 = _ := u1
          rw [u1', z_bindS]; rfl
        · simp only [e2, e4, ifn, if_true, z_bindS, show z_ix 0 = 0 from rfl, if_neg b2]
          have d1' : f_X9_beginsRoutes 700000 6 0 ν = some ((), ν1) := d1
          rw [d1', z_bindS]
          dsimp only
          rw [show f_X9_first_h46 700000 = f_X9_first_h46 (699999 + 1) from rfl, f_X9_first_h46, d2, z_bindS, if_neg (show ¬ (1 : Int32) = 0 by decide)]
          exact v1
