/-! what fits what it said -/
theorem WK.c37 {μ : z_M} {H : Nat} {T : List Nat → zT} {p : List Nat} (h : WK μ H T p) {j : Nat} (hj : j < p.length) : μ.1 37 j = T (p.drop (p.length - (j + 1))) 4 2 := by
  obtain ⟨x, e⟩ := drop_cons hj
  have k := h.drop (p.length - (j + 1))
  rw [e] at k ⊢
  have hl : (p.drop (p.length - j)).length = j := by rw [List.length_drop]; omega
  have k3 := k.2.2.2.1
  rw [hl] at k3
  exact k3
theorem RowD.sameE {μ μ' ν : z_M} {s t m : Nat} (D : RowD μ ν s t m) (e5 : μ'.1 25 = μ.1 25) (e7 : μ'.1 27 = μ.1 27) (e : μ'.2 = μ.2) : RowD μ' ν s t m := by
  obtain ⟨d1, d2, d3, d4, d5⟩ := D
  exact ⟨d1, by rw [e5]; exact d2, d3, by rw [e7]; exact d4, fun i hi => by rw [e]; exact d5 i hi⟩
/-- a route whose last word is another one -/
def bad (T : List Nat → zT) (xs : Nat → Int32) (q : List Nat) : Prop := q ≠ [] ∧ T q 4 2 ≠ xs (q.length - 1)
def sp (T : List Nat → zT) (xs : Nat → Int32) (p : List Nat) : Prop := ∀ ds q, p = ds ++ q → ¬ bad T xs q
def spI (T : List Nat → zT) (xs : Nat → Int32) (p : List Nat) : Prop := ∀ ds q, ds ≠ [] → p = ds ++ q → ¬ bad T xs q
theorem sp_iff {T : List Nat → zT} {xs : Nat → Int32} {p : List Nat} : sp T xs p ↔ spI T xs p ∧ ¬ bad T xs p := by
  constructor
  · intro h
    exact ⟨fun ds q _ e => h ds q e, h [] p rfl⟩
  · rintro ⟨h1, h2⟩ ds q e
    by_cases z : ds = []
    · subst z
      rw [List.nil_append] at e
      rw [← e]; exact h2
    · exact h1 ds q z e
theorem spI_next {T : List Nat → zT} {xs : Nat → Int32} {p q ds : List Nat} {h : Nat} (i : spI T xs p) (e : p = ds ++ q) (c : bad T xs p → ds ≠ []) : spI T xs (h :: q) := by
  intro ds' q' n e'
  cases ds' with
  | nil => exact absurd rfl n
  | cons x ds'' =>
    rw [List.cons_append] at e'
    have e2 := (List.cons.inj e').2
    by_cases z : ds ++ ds'' = []
    · obtain ⟨z1, z2⟩ := List.append_eq_nil_iff.mp z
      subst z1; subst z2
      rw [List.nil_append] at e e2
      intro b
      rw [← e2, ← e] at b
      exact c b rfl
    · exact i (ds ++ ds'') q' z (by rw [e, e2, List.append_assoc])
theorem sp_all {T : List Nat → zT} {xs : Nat → Int32} {p : List Nat} : sp T xs p ↔ ∀ j, j < p.length → T (p.drop (p.length - (j + 1))) 4 2 = xs j := by
  constructor
  · intro h j hj
    have b := h (p.take (p.length - (j + 1))) (p.drop (p.length - (j + 1))) (List.take_append_drop _ _).symm
    have hl : (p.drop (p.length - (j + 1))).length = j + 1 := by rw [List.length_drop]; omega
    apply Classical.byContradiction
    intro c
    exact b ⟨fun e => by rw [e] at hl; simp at hl, by rw [hl]; exact c⟩
  · intro h ds q e b
    have hq : 0 < q.length := List.length_pos_iff.mpr b.1
    have hl : p.length = ds.length + q.length := by rw [e, List.length_append]
    have := h (q.length - 1) (by omega)
    rw [show p.length - (q.length - 1 + 1) = ds.length by omega, e, List.drop_left] at this
    exact b.2 this
theorem cSpeaks {μ ν : z_M} {S : zS} {H W L sh b s t m : Nat} {t0 : zT} {p : List Nat} (w : Wk μ S H W L sh b t0 p) (hp : p.length ≤ 6) (hs : s < 8) (hm : m ≤ 160) (D : RowD μ ν s t m) (hpm : p.length ≤ m) (n : Nat) (hn : 20 ≤ n) : (sp (tR S L (fun a c => sLk S sh a c W) b t0) (fun j => Int64.toInt32 (ν.2 22 (160 * s + j))) p → f_X4_speaksAs n (nI s) (nI p.length) μ = some (1, μ)) ∧ (¬ sp (tR S L (fun a c => sLk S sh a c W) b t0) (fun j => Int64.toInt32 (ν.2 22 (160 * s + j))) p → f_X4_speaksAs n (nI s) (nI p.length) μ = some (0, μ)) := by
  rw [sp_all]
  have key : ∀ (d i n : Nat), i + d = p.length → d < n → (∀ j, j < i → tR S L (fun a c => sLk S sh a c W) b t0 (p.drop (p.length - (j + 1))) 4 2 = Int64.toInt32 (ν.2 22 (160 * s + j))) → ((∀ j, j < p.length → tR S L (fun a c => sLk S sh a c W) b t0 (p.drop (p.length - (j + 1))) 4 2 = Int64.toInt32 (ν.2 22 (160 * s + j))) → f_X4_speaksAs_h3 n (nI s) (nI p.length) (nI i) μ = some (1, μ)) ∧ (¬ (∀ j, j < p.length → tR S L (fun a c => sLk S sh a c W) b t0 (p.drop (p.length - (j + 1))) 4 2 = Int64.toInt32 (ν.2 22 (160 * s + j))) → f_X4_speaksAs_h3 n (nI s) (nI p.length) (nI i) μ = some (0, μ)) := by
    intro d
    induction d with
    | zero =>
      intro i n e hn hi
      obtain ⟨k, rfl⟩ : ∃ k, n = k + 1 := ⟨n - 1, by omega⟩
      obtain rfl : i = p.length := by omega
      refine ⟨fun _ => ?_, fun z => absurd hi z⟩
      rw [f_X4_speaksAs_h3, if_neg (nI_nlt (Nat.le_refl _) (by omega))]
    | succ d ih =>
      intro i n e hn hi
      obtain ⟨k, rfl⟩ : ∃ k, n = k + 1 := ⟨n - 1, by omega⟩
      rw [f_X4_speaksAs_h3, if_pos (nI_lt (by omega) (by omega)), cInt hs hm D (by omega), z_bindS]
      unfold f_X7_spokenAt
      rw [g_getN (by omega) (by decide), w.2.2.2.2.c37 (by omega)]
      by_cases z : tR S L (fun a c => sLk S sh a c W) b t0 (p.drop (p.length - (i + 1))) 4 2 = Int64.toInt32 (ν.2 22 (160 * s + i))
      · rw [if_pos z, i_succ]
        exact ih (i + 1) k (by omega) (by omega) (fun j hj => by
          by_cases y : j = i
          · subst y; exact z
          · exact hi j (by omega))
      · rw [if_neg z]
        exact ⟨fun q => absurd (q i (by omega)) z, fun _ => rfl⟩
  exact key p.length 0 n (by omega) (by omega) (fun j hj => by omega)
abbrev zF : Type := Nat × Int32 × Option (List Nat)
noncomputable def stT (T : List Nat → zT) (xs : Nat → Int32) (b k : Nat) (p : List Nat) (f : zF) : zF := @ite _ (p.length = k ∧ sp T xs p) (Classical.propDecidable _) (f.1 + 1, f.2.1 ||| ((1 : Int32) <<< (nI (pl b p) &&& 31)), match f.2.2 with | none => some p | some q => some q) f
def kOf (k : Nat) (f : zF) : Prop := (f.2.2 = none ↔ f.1 = 0) ∧ ∀ q, f.2.2 = some q → q.length = k
theorem kOf.st {T : List Nat → zT} {xs : Nat → Int32} {b k : Nat} {p : List Nat} {f : zF} (h : kOf k f) : kOf k (stT T xs b k p f) := by
  unfold stT
  by_cases c : p.length = k ∧ sp T xs p
  · rw [if_pos c]
    obtain ⟨h1, h2⟩ := h
    refine ⟨?_, fun q e => ?_⟩
    · cases f.2.2 <;> simp
    · cases e2 : f.2.2 with
      | none => rw [e2] at e; exact (Option.some.inj e) ▸ c.1
      | some r => rw [e2] at e; exact h2 q (e2.trans e)
  · rw [if_neg c]; exact h
/-- both search for what fits -/
theorem fitBoth {N : Nat} {μ ν : z_M} (R : Rr N μ ν) {S : zS} {H W g s t mm k b : Nat} (O : RSo N μ ν S H W g) (hs : s < 8) (hm : mm ≤ 160) (hk : k ≤ mm) (hk6 : k ≤ 6) (D : RowD μ ν s t mm) (hb1 : b < H) (hb2 : S 10 3 = nI b) : ∃ (T : List Nat → zT) (f : zF) (μ' ν' : z_M), f_X4_fit 700000 (nI s) (nI k) μ = some ((), μ') ∧ f_X9_findFits 700000 (nI s) (nI k) ν = some ((), ν') ∧ KC μ μ' ∧ KM ν ν' ∧ kOf k f ∧ f.1 ≤ 1000000 ∧ QC T f.2.2 μ' ∧ μ'.1 42 3 = nI f.1 ∧ μ'.1 42 4 = f.2.1 ∧ QM T f.2.2 ν' ∧ ν'.1 0 48 = nI f.1 ∧ ν'.1 0 49 = f.2.1 := by
  have O' := O
  obtain ⟨⟨s1, s2, V⟩, ⟨hH, hW, hg1, hg3⟩, ⟨eH, eW, eg⟩, ⟨c3, c4, c5, c6⟩, ⟨m8, m9, m10, mb, m23, m24⟩, hb⟩ := O
  obtain ⟨μ9, e9⟩ : ∃ y, y = z_sI (z_sI μ 42 3 0) 42 4 0 := ⟨_, rfl⟩
  obtain ⟨ν9, n9⟩ : ∃ y, y = z_sI (z_sI (z_sI ν 0 48 0) 0 49 0) 0 47 (-1) := ⟨_, rfl⟩
  have k9 : KC μ μ9 := by rw [e9]; exact ((KC.rf μ).sI (by unfold LC; omega)).sI (by unfold LC; omega)
  have fx9 : FX ν ν9 := by rw [n9]; exact (((FX.rf ν).sI (by omega)).sI (by omega)).sI (by omega)
  have R9 : Rr N μ9 ν := R.think k9 (KM.rf ν)
  have h9 : ∀ q, q ≠ 42 → μ9.1 q = μ.1 q := fun q hq => by rw [e9, sI1f hq, sI1f hq]
  have O9 : RSo N μ9 ν S H W g := by
    exact ⟨⟨s1.same (fun j => by rw [h9 3 (by decide)]) (fun j => by rw [h9 5 (by decide)]) (fun j => by rw [h9 7 (by decide)]) (fun j => by rw [h9 1 (by decide)]), s2, V⟩, ⟨hH, hW, hg1, hg3⟩, ⟨eH, eW, eg⟩, ⟨by rw [h9 1 (by decide)]; exact O'.2.2.2.1.1, by rw [h9 1 (by decide)]; exact O'.2.2.2.1.2.1, by rw [h9 1 (by decide)]; exact O'.2.2.2.1.2.2.1, by rw [h9 1 (by decide)]; exact c6⟩, ⟨m8, m9, m10, mb, m23, m24⟩, hb⟩
  obtain ⟨μ0, a1, a2, a3, a4⟩ := cStart (b := b) (sp := ν9.1 16 0) R9 O9 700000 (by omega)
  have M9 : MSt ν9 S H W g 0 := (MSt.of O').same (fun k j q => fx9.1 k j (by unfold Fm at q; omega) (by unfold Fm at q; omega))
  have T9 : RowM ν9 0 (fun a i => if a = 0 then S 3 i else if a = 1 then ν9.1 12 i else if a = 2 then S 4 i else if a = 3 then S 9 i else if i = 0 then S 10 3 else if i = 1 then ν9.1 15 0 else ν9.1 16 0) := row0 (s2.same fx9.KM)
  obtain ⟨ν1, ν2, d1, d2, d3, d4, d5, d6, d7, d8, d9⟩ := mStart (b := b) M9 T9 k 700000 (by omega)
  obtain ⟨l, L1, L2⟩ := Ch_n (ok := okL S 0 W b) hk6
  have dd : Sd N S H W g b (t00 S false (ν9.1 16 0)) := Sd.of V eH eW hH hW hb2 hb1 hg1 hg3
  have D0 : RowD μ0 ν s t mm := D.sameE (by rw [a4 25 (by omega) (by omega) (by omega), h9 25 (by omega)]) (by rw [a4 27 (by omega) (by omega) (by omega), h9 27 (by omega)]) (by rw [a3.2, k9.2])
  obtain ⟨T, eT⟩ : ∃ T, T = tR S g (fun a c => sLk S 0 a c W) b (t00 S false (ν9.1 16 0)) := ⟨_, rfl⟩
  obtain ⟨xs, exs⟩ : ∃ xs : Nat → Int32, xs = fun j => Int64.toInt32 (ν.2 22 (160 * s + j)) := ⟨_, rfl⟩
  obtain ⟨μ', u1, u2, ⟨i', hi', u3⟩, u4⟩ := cAll dd hk6 (fun n more c (_ : zF) m => f_X4_fit_h23 n (nI s) (nI k) more c m) (stT T xs b k) (fun _ => ()) (fun i f μ => QC T f.2.2 μ ∧ kOf k f ∧ f.1 ≤ i ∧ μ.1 42 3 = nI f.1 ∧ μ.1 42 4 = f.2.1 ∧ RowD μ ν s t mm) (fun i o μ μ' f h => by
    have e42 : μ'.1 42 = μ.1 42 := f.1 42 (by omega) (by omega) (by omega) (by omega) (by omega)
    refine ⟨h.1.same (fun k hk => f.1 k (by omega) (by omega) (by omega) (by omega) (by omega)), h.2.1, h.2.2.1, by rw [e42]; exact h.2.2.2.1, by rw [e42]; exact h.2.2.2.2.1, h.2.2.2.2.2.sameE (f.1 25 (by omega) (by omega) (by omega) (by omega) (by omega)) (f.1 27 (by omega) (by omega) (by omega) (by omega) (by omega)) f.2.2⟩) (fun n c o m h => rfl) (fun n c p f m hn hc ok w h => by
    have ol := ok.1
    have hp : pl b p < 8 := Nat.lt_of_lt_of_le (pl_lt hb1 ok.2) hH
    obtain ⟨q, kf, fc, f3, f4, Dm⟩ := h
    have A := cSpeaks w (by omega) hs hm Dm (by omega) n (by omega)
    rw [← eT, ← exs] at A
    show ∃ μ1, _ ∧ _ ∧ _ ∧ f_X4_fit_h23 (n + 1) _ _ _ _ _ = _
    rw [f_X4_fit_h23, if_neg (show ¬ (1 : Int32) = 0 by decide), if_pos (show nI c < 1000000 from nI_lt (b := 1000000) hc (by omega))]
    unfold f_X7_visitsMade f_X4_fit_b95 f_X4_fit_b67 f_X4_fit_b95
    rw [w.2.2.1]
    have stay : ¬ (p.length = k ∧ sp T xs p) → ∃ μ1, Wk μ1 S H W g 0 b (t00 S false (ν9.1 16 0)) p ∧ (QC T (stT T xs b k p f).2.2 μ1 ∧ kOf k (stT T xs b k p f) ∧ (stT T xs b k p f).1 ≤ c + 1 ∧ μ1.1 42 3 = nI (stT T xs b k p f).1 ∧ μ1.1 42 4 = (stT T xs b k p f).2.1 ∧ RowD μ1 ν s t mm) ∧ KC m μ1 ∧ z_bind (f_X7_becomeNext n (nI k) m) (fun p5 => f_X4_fit_h23 n (nI s) (nI k) p5.1 (nI c + 1) p5.2) = z_bind (f_X7_becomeNext n (nI k) μ1) (fun r => f_X4_fit_h23 n (nI s) (nI k) r.1 (nI (c + 1)) r.2) := by
      intro z
      have e : stT T xs b k p f = f := by unfold stT; exact if_neg z
      rw [e]
      exact ⟨m, w, ⟨q, kf, by omega, f3, f4, Dm⟩, KC.rf m, by rw [i_succ]⟩
    by_cases z : p.length = k
    · rw [if_pos (show nI p.length = nI k by rw [z])]
      rw [z] at A
      by_cases z2 : sp T xs p
      · rw [A.1 z2, z_bindS]
        dsimp only
        rw [ifn]
        have e : stT T xs b k p f = (f.1 + 1, f.2.1 ||| ((1 : Int32) <<< (nI (pl b p) &&& 31)), match f.2.2 with | none => some p | some q => some q) := by unfold stT; exact if_pos ⟨z, z2⟩
        -- the end of a step
        have last : ∀ m6, FQ m m6 → m6.1 42 3 = nI f.1 → m6.1 42 4 = f.2.1 → (∀ m7, FQ m6 m7 → m7.1 42 3 = nI (f.1 + 1) → (∀ j, j ≠ 3 → j ≠ 4 → m7.1 42 j = m6.1 42 j) → m7.1 44 = m6.1 44 → QC T (stT T xs b k p f).2.2 m7) → ∃ μ1, Wk μ1 S H W g 0 b (t00 S false (ν9.1 16 0)) p ∧ (QC T (stT T xs b k p f).2.2 μ1 ∧ kOf k (stT T xs b k p f) ∧ (stT T xs b k p f).1 ≤ c + 1 ∧ μ1.1 42 3 = nI (stT T xs b k p f).1 ∧ μ1.1 42 4 = (stT T xs b k p f).2.1 ∧ RowD μ1 ν s t mm) ∧ KC m μ1 ∧ (z_let (z_sI m6 42 3 ((m6.1 42 3) + 1)) (fun m7 => z_let (z_sI m7 42 4 ((m7.1 42 4) ||| (1 <<< ((f_X7_place m7) &&& 31)))) (fun m8 => z_bind (f_X7_becomeNext n (nI k) m8) (fun p5 => f_X4_fit_h23 n (nI s) (nI k) p5.1 (nI c + 1) p5.2)))) = z_bind (f_X7_becomeNext n (nI k) μ1) (fun r => f_X4_fit_h23 n (nI s) (nI k) r.1 (nI (c + 1)) r.2) := by
          intro m6 k6 e3 e4 hq
          rw [z_letE, z_letE, e3, i_succ]
          obtain ⟨m7, e7⟩ : ∃ y, y = z_sI m6 42 3 (nI (f.1 + 1)) := ⟨_, rfl⟩
          rw [← e7]
          have k7 : FQ m6 m7 := by rw [e7]; exact (FQ.rf m6).sI (by omega)
          rw [cPlace (w.FQ (k6.tr k7)) (by omega) hb2]
          obtain ⟨m8, e8⟩ : ∃ y, y = z_sI m7 42 4 (m7.1 42 4 ||| ((1 : Int32) <<< (nI (pl b p) &&& 31))) := ⟨_, rfl⟩
          rw [← e8]
          have k8 : FQ m6 m8 := by rw [e8]; exact k7.sI (by omega)
          have f3' : m8.1 42 3 = nI (f.1 + 1) := by rw [e8, sI1, if_neg (by omega), e7, sI1, if_pos ⟨rfl, rfl⟩]
          have f4' : m8.1 42 4 = f.2.1 ||| ((1 : Int32) <<< (nI (pl b p) &&& 31)) := by
            rw [e8, sI1, if_pos ⟨rfl, rfl⟩, e7, sI1, if_neg (by omega), e4]
          have k68 := k6.tr k8
          refine ⟨m8, w.FQ k68, ⟨hq m8 k8 f3' (fun j h1 h2 => by rw [e8, sI1, if_neg (by omega), e7, sI1, if_neg (by omega)]) (by rw [e8, sI1f (by decide), e7, sI1f (by decide)]), kf.st, by rw [e]; show f.1 + 1 ≤ c + 1; omega, by rw [e]; exact f3', by rw [e]; exact f4', Dm.sameE (k68.1 25 (by omega) (by omega)) (k68.1 27 (by omega) (by omega)) k68.2⟩, k68.KC, by rw [i_succ]⟩
        cases eo : f.2.2 with
        | none =>
          have c0 : f.1 = 0 := kf.1.1 eo
          rw [if_pos (show m.1 42 3 = 0 by rw [f3, c0]; rfl)]
          obtain ⟨m6, k1, k2, k3, k4, k5, k6⟩ := cKeepR w (by omega) n (by omega)
          rw [k1, z_bindS]
          refine last m6 k2 (by rw [k3 3 (by omega) (by omega)]; exact f3) (by rw [k3 4 (by omega) (by omega)]; exact f4) (fun m7 j1 j2 j3 j4 => ?_)
          rw [e, eo]
          refine ⟨by omega, by rw [j2, c0]; decide, by rw [j3 5 (by omega) (by omega), k4, eT], by rw [j3 6 (by omega) (by omega), k5], fun j hj => by rw [j4]; exact k6 j hj⟩
        | some r =>
          have c0 : f.1 ≠ 0 := fun y => by rw [kf.1.2 y] at eo; cases eo
          rw [if_neg (show ¬ m.1 42 3 = 0 by rw [f3]; exact nI_ne (b := 0) (by omega) (by omega) c0)]
          refine last m (FQ.rf m) f3 f4 (fun m7 j1 j2 j3 j4 => ?_)
          rw [eo] at q
          obtain ⟨q1, q2, q3, q4, q5⟩ := q
          rw [e, eo]
          refine ⟨q1, by rw [j2]; exact nI_ne (b := 0) (by omega) (by omega) (by omega), by rw [j3 5 (by omega) (by omega)]; exact q3, by rw [j3 6 (by omega) (by omega)]; exact q4, fun j hj => by rw [j4]; exact q5 j hj⟩
      · rw [A.2 z2, z_bindS]
        dsimp only
        rw [ifz]
        exact stay (fun y => z2 y.2)
    · rw [if_neg (nI_ne (by omega) (by omega) z)]
      exact stay (fun y => z y.1)) l [] (0, 0, none) 0 700000 μ0 L1 (okR_nil H k) (by omega) (by omega) a2 ⟨by show μ0.1 42 3 = 0; rw [a4 42 (by omega) (by omega) (by omega), e9, sI1, if_neg (by omega), sI1, if_pos ⟨rfl, rfl⟩], ⟨by simp, fun q e => by cases e⟩, Nat.le_refl 0, by rw [a4 42 (by omega) (by omega) (by omega), e9, sI1, if_neg (by omega), sI1, if_pos ⟨rfl, rfl⟩]; rfl, by rw [a4 42 (by omega) (by omega) (by omega), e9, sI1, if_pos ⟨rfl, rfl⟩], D0⟩
  obtain ⟨n', ν', v1, v2, v3, v4⟩ := mAll (Md.of V eH eW hH hW hb2 hb1 hg1 hg3 (show 0 < 2 ^ 31 by omega) : Md N S H W g 0 b (t00 S false (ν9.1 16 0))) hk6 (fun n (_ : zF) m => f_X9_findFits_h21 n (nI s) (nI k) m) (fun n _ p5 => if (0 : Int32) < (p5.1 0 26) then (z_chk (p5.1 0 26) 9 (z_bind (f_X9_intAt (nI s) ((p5.1 0 26) - 1) p5) (fun p6 => if (p5.1 16 (z_ix (p5.1 0 26))) = p6.1 then (f_X9_findFits_b63 (f_X9_findFits_h21 n) n (nI s) (nI k) p6.2) else (f_X9_findFits_b64 (f_X9_findFits_h21 n) n (nI s) (nI k) 1 p6.2)))) else (f_X9_findFits_b63 (f_X9_findFits_h21 n) n (nI s) (nI k) p5)) (fun n _ p => some ((), p)) (stT T xs b k) (fun f m => QM T f.2.2 m ∧ kOf k f ∧ m.1 0 48 = nI f.1 ∧ m.1 0 49 = f.2.1 ∧ m.2 22 = ν.2 22) (spI T xs) (fun p _ => bad T xs p) (fun o m m' f q => ⟨q.1.same ⟨f.1 0 46 (by unfold FMp; omega), f.1 0 47 (by unfold FMp; omega), fun j => f.1 25 j (by unfold FMp; omega)⟩, q.2.1, by rw [f.1 0 48 (by unfold FMp; omega)]; exact q.2.2.1, by rw [f.1 0 49 (by unfold FMp; omega)]; exact q.2.2.2.1, by rw [f.2 22 (by omega)]; exact q.2.2.2.2⟩) (fun n o m => rfl) (fun n p f m hn ok ii w c29 q => by
    have ol := ok.1
    have hp : pl b p < 8 := Nat.lt_of_lt_of_le (pl_lt hb1 ok.2) hH
    have c26 := w.2.2.2.1
    have c9p : m.1 9 p.length = nI (pl b p) := by rw [w.2.2.2.2.top.2.2.1, tR_at hb2]
    have c16 : m.1 16 p.length = T p 4 2 := by rw [w.2.2.2.2.top.2.2.2.2, eT]
    obtain ⟨q1, q2, q3, q4, q5⟩ := q
    -- a route that is cut
    have cutC : bad T xs p → ∃ ν1, Hs ν1 S H W g 0 k b (t00 S false (ν9.1 16 0)) p ∧ (QM T (stT T xs b k p f).2.2 ν1 ∧ kOf k (stT T xs b k p f) ∧ ν1.1 0 48 = nI (stT T xs b k p f).1 ∧ ν1.1 0 49 = (stT T xs b k p f).2.1 ∧ ν1.2 22 = ν.2 22) ∧ ν1.1 18 p.length = m.1 18 p.length ∧ ν1.1 0 28 = m.1 0 28 ∧ (bad T xs p → ¬ ν1.1 0 29 = 0) ∧ (¬ bad T xs p → ν1.1 0 29 = 0) ∧ KM m ν1 ∧ f_X9_findFits_b64 (f_X9_findFits_h21 n) n (nI s) (nI k) 1 m = f_X9_findFits_h21 n (nI s) (nI k) ν1 := by
      intro z
      have e : stT T xs b k p f = f := by unfold stT; exact if_neg (fun y => (sp_iff.1 y.2).2 z)
      rw [e]
      unfold f_X9_findFits_b64
      rw [z_boolE (Or.inr rfl), z_letE]
      obtain ⟨m8, e8⟩ : ∃ y, y = z_sI m 0 29 1 := ⟨_, rfl⟩
      rw [← e8]
      have fx : FX m m8 := by rw [e8]; exact (FX.rf m).sI (by omega)
      have e29 : m8.1 0 29 = 1 := by rw [e8, sI1, if_pos ⟨rfl, rfl⟩]
      have ej : ∀ k j, ¬ (k = 0 ∧ j = 29) → m8.1 k j = m.1 k j := fun k j h => by rw [e8, sI1, if_neg h]
      rw [e29, ifn]
      exact ⟨m8, w.FX fx, ⟨q1.same ⟨ej _ _ (by omega), ej _ _ (by omega), fun j => ej _ _ (by omega)⟩, q2, by rw [ej _ _ (by omega)]; exact q3, by rw [ej _ _ (by omega)]; exact q4, by rw [e8]; exact q5⟩, fx.c18 _, fx.c28, fun _ => by rw [e29]; decide, fun y => absurd z y, fx.KM, rfl⟩
    have goC : ¬ bad T xs p → ∃ ν1, Hs ν1 S H W g 0 k b (t00 S false (ν9.1 16 0)) p ∧ (QM T (stT T xs b k p f).2.2 ν1 ∧ kOf k (stT T xs b k p f) ∧ ν1.1 0 48 = nI (stT T xs b k p f).1 ∧ ν1.1 0 49 = (stT T xs b k p f).2.1 ∧ ν1.2 22 = ν.2 22) ∧ ν1.1 18 p.length = m.1 18 p.length ∧ ν1.1 0 28 = m.1 0 28 ∧ (bad T xs p → ¬ ν1.1 0 29 = 0) ∧ (¬ bad T xs p → ν1.1 0 29 = 0) ∧ KM m ν1 ∧ f_X9_findFits_b63 (f_X9_findFits_h21 n) n (nI s) (nI k) m = f_X9_findFits_h21 n (nI s) (nI k) ν1 := by
      intro z
      have hsp : sp T xs p := sp_iff.2 ⟨ii, z⟩
      unfold f_X9_findFits_b63 f_X9_findFits_b64
      rw [z_boolE (Or.inl rfl), z_letE]
      obtain ⟨m8, e8⟩ : ∃ y, y = z_sI m 0 29 0 := ⟨_, rfl⟩
      rw [← e8]
      have fx : FX m m8 := by rw [e8]; exact (FX.rf m).sI (by omega)
      have e29 : m8.1 0 29 = 0 := by rw [e8, sI1, if_pos ⟨rfl, rfl⟩]
      have ej : ∀ k j, ¬ (k = 0 ∧ j = 29) → m8.1 k j = m.1 k j := fun k j h => by rw [e8, sI1, if_neg h]
      have w8 := w.FX fx
      rw [e29, ifz, w8.2.2.2.1]
      by_cases y : p.length = k
      · rw [if_neg (nI_nlt (by omega) (by omega)), z_letE]
        have e : stT T xs b k p f = (f.1 + 1, f.2.1 ||| ((1 : Int32) <<< (nI (pl b p) &&& 31)), match f.2.2 with | none => some p | some q => some q) := by unfold stT; exact if_pos ⟨y, hsp⟩
        rw [show m8.1 0 48 = nI f.1 from (ej 0 48 (by omega)).trans q3, i_succ]
        obtain ⟨m9, e9'⟩ : ∃ y, y = z_sI m8 0 48 (nI (f.1 + 1)) := ⟨_, rfl⟩
        rw [← e9']
        have fx9' : FX m m9 := by rw [e9']; exact fx.sI (by omega)
        have ej9 : ∀ k j, ¬ (k = 0 ∧ (j = 29 ∨ j = 48)) → m9.1 k j = m.1 k j := fun k j h => by rw [e9', sI1, if_neg (by omega)]; exact ej k j (by omega)
        rw [ej9 0 26 (by omega), c26, z_chkN (by omega) (by decide), z_ixN (by omega), z_letE, ej9 9 _ (by omega), c9p, ej9 0 49 (by omega), q4]
        obtain ⟨m10', e10⟩ : ∃ y, y = z_sI m9 0 49 (f.2.1 ||| ((1 : Int32) <<< (nI (pl b p) &&& 31))) := ⟨_, rfl⟩
        rw [← e10]
        have fx10 : FX m m10' := by rw [e10]; exact fx9'.sI (by omega)
        have ej10 : ∀ k j, ¬ (k = 0 ∧ (j = 29 ∨ j = 48 ∨ j = 49)) → m10'.1 k j = m.1 k j := fun k j h => by rw [e10, sI1, if_neg (by omega)]; exact ej9 k j (by omega)
        have h48 : m10'.1 0 48 = nI (f.1 + 1) := by rw [e10, sI1, if_neg (by omega), e9', sI1, if_pos ⟨rfl, rfl⟩]
        have h49 : m10'.1 0 49 = f.2.1 ||| ((1 : Int32) <<< (nI (pl b p) &&& 31)) := by rw [e10, sI1, if_pos ⟨rfl, rfl⟩]
        have h29 : m10'.1 0 29 = 0 := by rw [e10, sI1, if_neg (by omega), e9', sI1, if_neg (by omega)]; exact e29
        have k10 := q2.st (T := T) (xs := xs) (b := b) (p := p)
        cases eo : f.2.2 with
        | none =>
          rw [eo] at q1
          rw [ej10 0 47 (by omega), show m.1 0 47 = -1 from q1, if_pos (by decide)]
          obtain ⟨m11, k1, k2, k3, k4⟩ := mTake (w.FX fx10) hb2 (by omega) n (by omega)
          rw [k1, z_bindS]
          rw [← eT] at k4
          refine ⟨m11, (w.FX fx10).FX k2, ⟨by rw [e, eo]; exact k4, k10, by rw [e, k3 48 (by omega) (by omega)]; exact h48, by rw [e, k3 49 (by omega) (by omega)]; exact h49, by rw [(fx10.tr k2).2]; exact q5⟩, (fx10.tr k2).c18 _, (fx10.tr k2).c28, fun x => absurd x z, fun _ => by rw [k3 29 (by omega) (by omega)]; exact h29, (fx10.tr k2).KM, rfl⟩
        | some r =>
          rw [eo] at q1
          obtain ⟨r1, r2, r3, r4⟩ := q1
          rw [ej10 0 47 (by omega), r3, if_neg (nI_pos (by omega))]
          refine ⟨m10', w.FX fx10, ⟨by rw [e, eo]; exact ⟨r1, by rw [ej10 0 46 (by omega)]; exact r2, by rw [ej10 0 47 (by omega)]; exact r3, fun j hj => by rw [ej10 25 j (by omega)]; exact r4 j hj⟩, k10, by rw [e]; exact h48, by rw [e]; exact h49, by rw [fx10.2]; exact q5⟩, fx10.c18 _, fx10.c28, fun x => absurd x z, fun _ => h29, fx10.KM, rfl⟩
      · rw [if_pos (nI_lt (by omega) (by omega))]
        have e : stT T xs b k p f = f := by unfold stT; exact if_neg (fun x => y x.1)
        rw [e]
        exact ⟨m8, w8, ⟨q1.same ⟨ej _ _ (by omega), ej _ _ (by omega), fun j => ej _ _ (by omega)⟩, q2, by rw [ej _ _ (by omega)]; exact q3, by rw [ej _ _ (by omega)]; exact q4, by rw [e8]; exact q5⟩, fx.c18 _, fx.c28, fun x => absurd x z, fun _ => e29, fx.KM, rfl⟩
    simp only [c26]
    by_cases z : p = []
    · have nb : ¬ bad T xs p := fun y => y.1 z
      rw [if_neg (show ¬ (0 : Int32) < nI p.length by rw [z]; decide)]
      exact goC nb
    · have hl : 0 < p.length := List.length_pos_iff.mpr z
      rw [if_pos (show (0 : Int32) < nI p.length from nI_lt (a := 0) hl (by omega)), z_chkN (by omega) (by decide), i_pred hl, mInt hs (by omega), z_bindS, z_ixN (by omega), c16, q5]
      by_cases y : T p 4 2 = xs (p.length - 1)
      · rw [if_pos (by rw [y, exs])]
        exact goC (fun x => x.2 y)
      · rw [if_neg (by rw [exs] at y; exact y)]
        exact cutC ⟨z, y⟩) (fun p f h q ds i e c => spI_next i e c) (fun p f h es z => by
    unfold stT
    exact if_neg (fun q => q.2 (h :: es) p rfl z)) l.length l [] (0, 0, none) 699999 ν2 (Nat.le_refl _) L1 (okR_nil H k) (fun ds q n e => absurd (List.append_eq_nil_iff.mp e.symm).1 n) (by omega) d3 d4 d5 d6 ⟨by
      show ν2.1 0 47 = -1
      rw [d8 0 47 (by omega) (by omega) (by omega) (by omega), n9, sI1, if_pos ⟨rfl, rfl⟩], ⟨by simp, fun q e => by cases e⟩, by rw [d8 0 48 (by omega) (by omega) (by omega) (by omega), n9, sI1, if_neg (by omega), sI1, if_neg (by omega), sI1, if_pos ⟨rfl, rfl⟩]; rfl, by rw [d8 0 49 (by omega) (by omega) (by omega) (by omega), n9, sI1, if_neg (by omega), sI1, if_pos ⟨rfl, rfl⟩], by rw [d9 22 (by omega), fx9.2]⟩
  refine ⟨T, _, μ', ν', ?_, ?_, (k9.tr a3).tr u2, (fx9.KM.tr d7).tr v3, u3.2.1, Nat.le_trans u3.2.2.1 hi', u3.1, u3.2.2.2.1, u3.2.2.2.2.1, v4.1, v4.2.2.1, v4.2.2.2.1⟩
  · unfold f_X4_fit
    simp only [z_letE]
    rw [← e9, a1, z_bindS]
    exact u1
  · unfold f_X9_findFits
    simp only [z_letE]
    rw [← n9, d1, z_bindS]
    dsimp only
    rw [show f_X9_findFits_h21 700000 = f_X9_findFits_h21 (699999 + 1) from rfl, f_X9_findFits_h21, d2, z_bindS, if_neg (show ¬ (1 : Int32) = 0 by decide)]
    exact v1
