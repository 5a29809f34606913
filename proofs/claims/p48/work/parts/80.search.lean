/-! the search: aim, shuts, odds -/
noncomputable def stR (S : zS) (g W b : Nat) (t0 : zT) (i : Nat) (p : List Nat) (s : Int32) : Int32 := s ||| tR S g (fun a c => sLk S 0 a c W) b t0 p 1 i
/-- a house has heard a whole set -/
def hrA (S : zS) (sh g W b : Nat) (t0 : zT) (i : Nat) (set : Int32) (p : List Nat) : Prop := set &&& (tR S g (fun a c => sLk S sh a c W) b t0 p 1 i ^^^ (-1)) = 0
def hrN (S : zS) (sh g W b : Nat) (t0 : zT) (i : Nat) (set : Int32) (p : List Nat) : Prop := set &&& tR S g (fun a c => sLk S sh a c W) b t0 p 1 i = 0
theorem cHA {N k : Nat} {μ : z_M} {S : zS} {H W L sh b : Nat} {t0 : zT} {p : List Nat} (dd : Sd N S H W L b t0) (w : Wk μ S H W L sh b t0 p) (hk : k ≤ 6) (o : okR H k p) {i : Nat} (hi : i < 8) (set : Int32) (n : Nat) (hn : 100 ≤ n) : (hrA S sh L W b t0 i set p → f_X4_hearsAll n (nI i) set μ = some (1, μ)) ∧ (¬ hrA S sh L W b t0 i set p → f_X4_hearsAll n (nI i) set μ = some (0, μ)) := by
  have := o.1
  have e := cHeard w.2.2.2.2 dd.2.2.2.1 dd.2.2.2.2.2.2.2.2.2.2.1 w.2.2.1 (by omega) (show i < 2 ^ 31 by omega) n (by omega)
  unfold f_X4_hearsAll hrA
  rw [e, z_bindS]
  exact ⟨fun h => by rw [if_pos h], fun h => by rw [if_neg h]⟩
theorem cHN {N k : Nat} {μ : z_M} {S : zS} {H W L sh b : Nat} {t0 : zT} {p : List Nat} (dd : Sd N S H W L b t0) (w : Wk μ S H W L sh b t0 p) (hk : k ≤ 6) (o : okR H k p) {i : Nat} (hi : i < 8) (set : Int32) (n : Nat) (hn : 100 ≤ n) : (hrN S sh L W b t0 i set p → f_X4_hearsAny n (nI i) set μ = some (0, μ)) ∧ (¬ hrN S sh L W b t0 i set p → f_X4_hearsAny n (nI i) set μ = some (1, μ)) := by
  have := o.1
  have e := cHeard w.2.2.2.2 dd.2.2.2.1 dd.2.2.2.2.2.2.2.2.2.2.1 w.2.2.1 (by omega) (show i < 2 ^ 31 by omega) n (by omega)
  unfold f_X4_hearsAny hrN
  rw [e, z_bindS]
  exact ⟨fun h => by rw [if_pos h], fun h => by rw [if_neg h]⟩
noncomputable def stF (S : zS) (g W b : Nat) (t0 : zT) (i : Nat) (set : Int32) (p : List Nat) (f : Nat) : Nat := @ite _ (p.length < f ∧ hrA S 0 g W b t0 i set p) (Classical.propDecidable _) p.length f
def bst (f : Nat) : Int32 := if f = 7 then -1 else nI f
theorem stF_le {S : zS} {g W b : Nat} {t0 : zT} {i : Nat} {set : Int32} {p : List Nat} {f : Nat} (h : f ≤ 7) : stF S g W b t0 i set p f ≤ 7 := by
  unfold stF
  by_cases c : p.length < f ∧ hrA S 0 g W b t0 i set p
  · rw [if_pos c]; omega
  · rw [if_neg c]; exact h
def hsAt (p : List Nat) (j : Nat) : Nat := pl 0 (p.drop (p.length - (j + 1)))
theorem WK.c35 {μ : z_M} {H : Nat} {T : List Nat → zT} {p : List Nat} (h : WK μ H T p) {j : Nat} (hj : j < p.length) : μ.1 35 j = nI (hsAt p j) := by
  obtain ⟨x, e⟩ := drop_cons hj
  have k := h.drop (p.length - (j + 1))
  rw [e] at k
  unfold hsAt
  rw [e]
  have hl : (p.drop (p.length - j)).length = j := by rw [List.length_drop]; omega
  have k3 := k.2.2.1
  rw [hl] at k3
  exact k3
/-- a better route -/
def bqT (T : List Nat → zT) (p : List Nat) : Option (List Nat) → Prop
  | none => True
  | some q => T p 4 1 < T q 4 1 ∨ (T p 4 1 = T q 4 1 ∧ p.length < q.length)
/-- all hearers hear all, the deaf none -/
def HB (S : zS) (g W b : Nat) (t0 : zT) (hr df set : Int32) (p : List Nat) (n : Nat) : Prop := ∀ h, h < n → (¬ (hr >>> (nI h &&& 31)) &&& 1 = 0 → hrA S 0 g W b t0 h set p) ∧ (¬ (df >>> (nI h &&& 31)) &&& 1 = 0 → hrN S 0 g W b t0 h set p)
noncomputable def stQ (S : zS) (g W b : Nat) (t0 : zT) (bk : Nat) (hr df set : Int32) (p : List Nat) (o : Option (List Nat)) : Option (List Nat) := @ite _ ((bk = 0 ∨ pl b p = b) ∧ bqT (tR S g (fun a c => sLk S 0 a c W) b t0) p o ∧ HB S g W b t0 hr df set p 8) (Classical.propDecidable _) (some p) o
/-- the class keeps a route -/
def QC (T : List Nat → zT) (o : Option (List Nat)) (μ : z_M) : Prop := match o with
  | none => μ.1 42 3 = 0
  | some q => q.length ≤ 6 ∧ ¬ μ.1 42 3 = 0 ∧ μ.1 42 5 = T q 4 1 ∧ μ.1 42 6 = nI q.length ∧ ∀ j, j < q.length → μ.1 44 j = nI (hsAt q j)
theorem QC.same {T : List Nat → zT} {o : Option (List Nat)} {μ μ' : z_M} (h : QC T o μ) (e : ∀ k, k = 42 ∨ k = 44 → μ'.1 k = μ.1 k) : QC T o μ' := by
  cases o with
  | none => show μ'.1 42 3 = 0; rw [e 42 (by omega)]; exact h
  | some q =>
    obtain ⟨h1, h2, h3, h4, h5⟩ := h
    exact ⟨h1, by rw [e 42 (by omega)]; exact h2, by rw [e 42 (by omega)]; exact h3, by rw [e 42 (by omega)]; exact h4, fun j hj => by rw [e 44 (by omega)]; exact h5 j hj⟩
theorem cQuicker {μ : z_M} {S : zS} {H W L sh b : Nat} {t0 : zT} {p : List Nat} {o : Option (List Nat)} (w : Wk μ S H W L sh b t0 p) (hp : p.length ≤ 6) (q : QC (tR S L (fun a c => sLk S sh a c W) b t0) o μ) : (bqT (tR S L (fun a c => sLk S sh a c W) b t0) p o → f_X4_isQuicker μ = 1) ∧ (¬ bqT (tR S L (fun a c => sLk S sh a c W) b t0) p o → f_X4_isQuicker μ = 0) := by
  unfold f_X4_isQuicker f_X4_isQuicker_b45 f_X7_minutesTaken f_X7_visitsMade
  rw [w.2.2.1, g_getN (by omega) (by decide), w.2.2.2.2.c41, z_letE]
  cases o with
  | none =>
    have q' : μ.1 42 3 = 0 := q
    exact ⟨fun _ => by rw [if_pos q'], fun z => absurd trivial z⟩
  | some r =>
    obtain ⟨h1, h2, h3, h4, h5⟩ := q
    rw [if_neg h2, h3, h4]
    unfold bqT
    constructor
    · rintro (z | ⟨z1, z2⟩)
      · rw [if_pos z]
      · by_cases z : tR S L (fun a c => sLk S sh a c W) b t0 p 4 1 < tR S L (fun a c => sLk S sh a c W) b t0 r 4 1
        · rw [if_pos z]
        · rw [if_neg z, if_pos z1, if_pos (nI_lt z2 (by omega))]
    · intro z
      rw [if_neg (fun q => z (Or.inl q))]
      by_cases z1 : tR S L (fun a c => sLk S sh a c W) b t0 p 4 1 = tR S L (fun a c => sLk S sh a c W) b t0 r 4 1
      · rw [if_pos z1, if_neg (nI_nlt (Nat.le_of_not_lt (fun z2 => z (Or.inr ⟨z1, z2⟩))) (by omega))]
      · rw [if_neg z1]
/-- what a search's own cells are -/
def FQ (μ μ' : z_M) : Prop := (∀ k, k ≠ 42 → k ≠ 44 → μ'.1 k = μ.1 k) ∧ μ'.2 = μ.2
theorem FQ.rf (μ : z_M) : FQ μ μ := ⟨fun _ _ _ => rfl, rfl⟩
theorem FQ.tr {a b c : z_M} (h : FQ a b) (k : FQ b c) : FQ a c := ⟨fun x q1 q2 => (k.1 x q1 q2).trans (h.1 x q1 q2), k.2.trans h.2⟩
theorem FQ.sI {a b : z_M} (h : FQ a b) {k j : Nat} {v : Int32} (hk : k = 42 ∨ k = 44) : FQ a (z_sI b k j v) := by
  refine ⟨fun x q1 q2 => ?_, h.2⟩
  rw [sI1f (by omega)]; exact h.1 x q1 q2
theorem FQ.KC {a b : z_M} (h : FQ a b) : KC a b := ⟨fun k j q => by rw [h.1 k (by unfold LC at q; omega) (by unfold LC at q; omega)], h.2⟩
theorem Wk.FQ {μ μ' : z_M} {S : zS} {H W L sh b : Nat} {t0 : zT} {p : List Nat} (w : Wk μ S H W L sh b t0 p) (h : FQ μ μ') : Wk μ' S H W L sh b t0 p := by
  obtain ⟨w1, w2, w3, w4, w5⟩ := w
  have e := h.1
  refine ⟨w1.same (fun j => by rw [e 3 (by omega) (by omega)]) (fun j => by rw [e 5 (by omega) (by omega)]) (fun j => by rw [e 7 (by omega) (by omega)]) (fun j => by rw [e 1 (by omega) (by omega)]), fun a c ha hc => by rw [e 33 (by omega) (by omega)]; exact w2 a c ha hc, by rw [e 31 (by omega) (by omega)]; exact w3, by rw [e 31 (by omega) (by omega)]; exact w4, w5.same (fun j _ => ⟨by rw [e 35 (by omega) (by omega)], by rw [e 37 (by omega) (by omega)]⟩) (fun j _ => by rw [e 39 (by omega) (by omega)]) (fun j _ => by rw [e 41 (by omega) (by omega)])⟩
theorem cKeepR {μ : z_M} {S : zS} {H W L sh b : Nat} {t0 : zT} {p : List Nat} (w : Wk μ S H W L sh b t0 p) (hp : p.length ≤ 6) (n : Nat) (hn : 20 ≤ n) : ∃ μ', f_X4_keepRoute n μ = some ((), μ') ∧ FQ μ μ' ∧ (∀ j, j ≠ 5 → j ≠ 6 → μ'.1 42 j = μ.1 42 j) ∧ μ'.1 42 5 = tR S L (fun a c => sLk S sh a c W) b t0 p 4 1 ∧ μ'.1 42 6 = nI p.length ∧ ∀ j, j < p.length → μ'.1 44 j = nI (hsAt p j) := by
  unfold f_X4_keepRoute f_X7_minutesTaken f_X7_visitsMade
  rw [z_letE, z_letE]
  obtain ⟨m2, e2⟩ : ∃ y, y = z_sI (z_sI μ 42 5 (g_get 41 41 (μ.1 31 6) μ)) 42 6 ((z_sI μ 42 5 (g_get 41 41 (μ.1 31 6) μ)).1 31 6) := ⟨_, rfl⟩
  rw [← e2]
  have f2 : FQ μ m2 := by rw [e2]; exact ((FQ.rf μ).sI (by omega)).sI (by omega)
  have c5 : m2.1 42 5 = tR S L (fun a c => sLk S sh a c W) b t0 p 4 1 := by
    rw [e2, sI1, if_neg (by omega), sI1, if_pos ⟨rfl, rfl⟩, w.2.2.1, g_getN (by omega) (by decide), w.2.2.2.2.c41]
  have c6 : m2.1 42 6 = nI p.length := by
    rw [e2, sI1, if_pos ⟨rfl, rfl⟩, sI1f (by decide), w.2.2.1]
  have cj : ∀ j, j ≠ 5 → j ≠ 6 → m2.1 42 j = μ.1 42 j := fun j h1 h2 => by
    rw [e2, sI1, if_neg (by omega), sI1, if_neg (by omega)]
  have key : ∀ (d i n : Nat) (m : z_M), i + d = p.length → d < n → FQ m2 m → m.1 42 = m2.1 42 → (∀ j, j < i → m.1 44 j = nI (hsAt p j)) → ∃ m', f_X4_keepRoute_h24 n (nI i) m = some ((), m') ∧ FQ m2 m' ∧ m'.1 42 = m2.1 42 ∧ ∀ j, j < p.length → m'.1 44 j = nI (hsAt p j) := by
    intro d
    induction d with
    | zero =>
      intro i n m e hn h1 h2 h3
      obtain ⟨k, rfl⟩ : ∃ k, n = k + 1 := ⟨n - 1, by omega⟩
      refine ⟨m, ?_, h1, h2, fun j hj => h3 j (by omega)⟩
      rw [f_X4_keepRoute_h24, h2, c6, if_neg (nI_nlt (by omega) (by omega))]
    | succ d ih =>
      intro i n m e hn h1 h2 h3
      obtain ⟨k, rfl⟩ : ∃ k, n = k + 1 := ⟨n - 1, by omega⟩
      rw [f_X4_keepRoute_h24, h2, c6, if_pos (nI_lt (by omega) (by omega))]
      unfold f_X7_placeAt
      rw [if_neg (nI_pos (by omega)), g_getN (by omega) (by decide), g_putN (by omega) (by decide), z_letE, i_succ]
      have e35 : m.1 35 i = nI (hsAt p i) := by
        rw [(f2.tr h1).1 35 (by omega) (by omega)]; exact w.2.2.2.2.c35 (by omega)
      rw [e35]
      obtain ⟨m', k1, k2, k3, k4⟩ := ih (i + 1) k (z_sI m 44 i (nI (hsAt p i))) (by omega) (by omega) (h1.sI (by omega)) (by rw [sI1f (by decide)]; exact h2) (fun j hj => by
        rw [sI1]
        by_cases z : j = i
        · subst z; rw [if_pos ⟨rfl, rfl⟩]
        · rw [if_neg (fun q => z q.2)]; exact h3 j (by omega))
      exact ⟨m', k1, k2, k3, k4⟩
  obtain ⟨m', k1, k2, k3, k4⟩ := key p.length 0 n m2 (by omega) (by omega) (FQ.rf m2) rfl (fun j hj => by omega)
  exact ⟨m', k1, f2.tr k2, fun j h1 h2 => by rw [k3]; exact cj j h1 h2, by rw [k3]; exact c5, by rw [k3]; exact c6, k4⟩
/-- is it heard as asked -/
theorem cIHB {N k : Nat} {μ : z_M} {S : zS} {H W L b : Nat} {t0 : zT} {p : List Nat} (dd : Sd N S H W L b t0) (w : Wk μ S H W L 0 b t0 p) (hk : k ≤ 6) (o : okR H k p) (hr df set : Int32) (n : Nat) (hn : 150 ≤ n) : (HB S L W b t0 hr df set p 8 → f_X4_isHeardBy n hr df set μ = some (1, μ)) ∧ (¬ HB S L W b t0 hr df set p 8 → f_X4_isHeardBy n hr df set μ = some (0, μ)) := by
  have key : ∀ (d j n : Nat), j + d = 8 → d + 120 ≤ n → HB S L W b t0 hr df set p j → (HB S L W b t0 hr df set p 8 → f_X4_isHeardBy_h3 n hr df set (nI j) μ = some (1, μ)) ∧ (¬ HB S L W b t0 hr df set p 8 → f_X4_isHeardBy_h3 n hr df set (nI j) μ = some (0, μ)) := by
    intro d
    induction d with
    | zero =>
      intro j n e hn hj
      obtain ⟨m, rfl⟩ : ∃ m, n = m + 1 := ⟨n - 1, by omega⟩
      obtain rfl : j = 8 := by omega
      refine ⟨fun _ => ?_, fun z => absurd hj z⟩
      rw [f_X4_isHeardBy_h3, if_neg (by decide)]
    | succ d ih =>
      intro j n e hn hj
      obtain ⟨m, rfl⟩ : ∃ m, n = m + 1 := ⟨n - 1, by omega⟩
      rw [f_X4_isHeardBy_h3, if_pos (show nI j < 8 from nI_lt (b := 8) (by omega) (by decide))]
      have A := cHA dd w hk o (show j < 8 by omega) set m (by omega)
      have B := cHN dd w hk o (show j < 8 by omega) set m (by omega)
      have rest : (¬ (hr >>> (nI j &&& 31)) &&& 1 = 0 → hrA S 0 L W b t0 j set p) → (HB S L W b t0 hr df set p 8 → f_X4_isHeardBy_b31 (f_X4_isHeardBy_h3 m) m hr df set (nI j) μ = some (1, μ)) ∧ (¬ HB S L W b t0 hr df set p 8 → f_X4_isHeardBy_b31 (f_X4_isHeardBy_h3 m) m hr df set (nI j) μ = some (0, μ)) := by
        intro h1
        unfold f_X4_isHeardBy_b31 f_X4_isHeardBy_b52
        have go : (¬ (df >>> (nI j &&& 31)) &&& 1 = 0 → hrN S 0 L W b t0 j set p) → (HB S L W b t0 hr df set p 8 → f_X4_isHeardBy_h3 m hr df set (nI j + 1) μ = some (1, μ)) ∧ (¬ HB S L W b t0 hr df set p 8 → f_X4_isHeardBy_h3 m hr df set (nI j + 1) μ = some (0, μ)) := by
          intro h2
          rw [i_succ]
          refine ih (j + 1) m (by omega) (by omega) (fun h hh => ?_)
          by_cases z : h = j
          · subst z; exact ⟨h1, h2⟩
          · exact hj h (by omega)
        by_cases z : (df >>> (nI j &&& 31)) &&& 1 = 0
        · rw [if_pos z]; exact go (fun q => absurd z q)
        · rw [if_neg z]
          by_cases z2 : hrN S 0 L W b t0 j set p
          · rw [B.1 z2, z_bindS, if_pos rfl]
            exact go (fun _ => z2)
          · rw [B.2 z2, z_bindS]
            dsimp only
            rw [ifn]
            exact ⟨fun q => absurd ((q j (by omega)).2 z) z2, fun _ => rfl⟩
      by_cases z : (hr >>> (nI j &&& 31)) &&& 1 = 0
      · rw [if_pos z]; exact rest (fun q => absurd z q)
      · rw [if_neg z]
        by_cases z2 : hrA S 0 L W b t0 j set p
        · rw [A.1 z2, z_bindS]
          dsimp only
          rw [ifn]
          exact rest (fun _ => z2)
        · rw [A.2 z2, z_bindS, if_pos rfl]
          exact ⟨fun q => absurd ((q j (by omega)).1 z) z2, fun _ => rfl⟩
  exact key 8 0 n (by omega) (by omega) (fun h hh => by omega)
theorem cQuick {N : Nat} {S : zS} {H W L b k : Nat} {t0 : zT} (dd : Sd N S H W L b t0) (hk : k ≤ 6) (bk : Nat) (hbk : bk < 2) (hr df set : Int32) {l : List (List Nat)} (L1 : Ch (okL S 0 W b) 8 k [] l) (L2 : l.length < 600000) {μ : z_M} (w : Wk μ S H W L 0 b t0 []) (q0 : μ.1 42 3 = 0) : ∃ μ', f_X4_quickest_h18 700000 hr df set (nI k) (nI bk) 1 0 μ = some ((), μ') ∧ KC μ μ' ∧ QC (tR S L (fun a c => sLk S 0 a c W) b t0) (List.foldl (fun o p => stQ S L W b t0 bk hr df set p o) none ([] :: l)) μ' ∧ StC 1 μ' S := by
  obtain ⟨μ', u1, u2, ⟨i', -, u3⟩, u4⟩ := cAll dd hk (fun n more c (_ : Option (List Nat)) m => f_X4_quickest_h18 n hr df set (nI k) (nI bk) more c m) (stQ S L W b t0 bk hr df set) (fun _ => ()) (fun i o μ => QC (tR S L (fun a c => sLk S 0 a c W) b t0) o μ ∧ ∃ c, c ≤ i ∧ μ.1 42 3 = nI c) (fun i o μ μ' f h => ⟨h.1.same (fun k hk => f.1 k (by omega) (by omega) (by omega) (by omega) (by omega)), by rw [f.1 42 (by omega) (by omega) (by omega) (by omega) (by omega)]; exact h.2⟩) (fun n c o m h => rfl) (fun n c p o m hn hc ok w h => by
    have ol := ok.1
    obtain ⟨q, c0, hc0, ec0⟩ := h
    have eb : S 10 3 = nI b := dd.2.2.2.2.2.1
    have hb := dd.2.2.2.2.2.2.1
    have hH := dd.2.2.2.1
    have A := cQuicker w (by omega) q
    have B := cIHB dd w hk ok hr df set n
    have pb : (f_X7_place m = f_X6_birdAt 1 m) = (pl b p = b) := by
      have hp : pl b p < 8 := Nat.lt_of_lt_of_le (pl_lt hb ok.2) hH
      rw [cPlace w (by omega) eb]
      show (nI (pl b p) = m.1 1 6) = _
      rw [show m.1 1 6 = nI b from (w.1.2.2.2 3 (by omega)).trans eb, nI_eqE (by omega) (by omega)]
    have stay : stQ S L W b t0 bk hr df set p o = o → ∃ μ1, Wk μ1 S H W L 0 b t0 p ∧ (QC (tR S L (fun a c => sLk S 0 a c W) b t0) (stQ S L W b t0 bk hr df set p o) μ1 ∧ ∃ c', c' ≤ c + 1 ∧ μ1.1 42 3 = nI c') ∧ KC m μ1 ∧ z_bind (f_X7_becomeNext n (nI k) m) (fun p3 => f_X4_quickest_h18 n hr df set (nI k) (nI bk) p3.1 (nI c + 1) p3.2) = z_bind (f_X7_becomeNext n (nI k) μ1) (fun r => f_X4_quickest_h18 n hr df set (nI k) (nI bk) r.1 (nI (c + 1)) r.2) := by
      intro e
      exact ⟨m, w, ⟨by rw [e]; exact q, c0, by omega, ec0⟩, KC.rf m, by rw [i_succ]⟩
    -- a route that may be better
    have go : (bk = 0 ∨ pl b p = b) → ∃ μ1, Wk μ1 S H W L 0 b t0 p ∧ (QC (tR S L (fun a c => sLk S 0 a c W) b t0) (stQ S L W b t0 bk hr df set p o) μ1 ∧ ∃ c', c' ≤ c + 1 ∧ μ1.1 42 3 = nI c') ∧ KC m μ1 ∧ f_X4_quickest_b57 (f_X4_quickest_h18 n) n hr df set (nI k) (nI bk) (nI c) 1 m = z_bind (f_X7_becomeNext n (nI k) μ1) (fun r => f_X4_quickest_h18 n hr df set (nI k) (nI bk) r.1 (nI (c + 1)) r.2) := by
      intro hE
      unfold f_X4_quickest_b57 f_X4_quickest_b95
      rw [ifn]
      by_cases z1 : bqT (tR S L (fun a c => sLk S 0 a c W) b t0) p o
      · rw [A.1 z1, ifn]
        by_cases z2 : HB S L W b t0 hr df set p 8
        · rw [(cIHB dd w hk ok hr df set n (by omega)).1 z2, z_bindS]
          dsimp only
          rw [ifn, z_letE]
          obtain ⟨m5, e5⟩ : ∃ y, y = z_sI m 42 3 (m.1 42 3 + 1) := ⟨_, rfl⟩
          rw [← e5]
          have f5 : FQ m m5 := by rw [e5]; exact (FQ.rf m).sI (by omega)
          obtain ⟨m6, k1, k2, k3, k4, k5, k6⟩ := cKeepR (w.FQ f5) (by omega) n (by omega)
          rw [k1, z_bindS]
          have e3 : m6.1 42 3 = nI (c0 + 1) := by
            rw [k3 3 (by omega) (by omega), e5, sI1, if_pos ⟨rfl, rfl⟩, ec0, i_succ]
          refine ⟨m6, (w.FQ f5).FQ k2, ⟨?_, c0 + 1, by omega, e3⟩, (f5.tr k2).KC, by rw [i_succ]⟩
          unfold stQ
          rw [if_pos (show _ ∧ _ from ⟨hE, z1, z2⟩)]
          exact ⟨by omega, by rw [e3]; exact nI_ne (b := 0) (by omega) (by omega) (by omega), k4, k5, k6⟩
        · rw [(cIHB dd w hk ok hr df set n (by omega)).2 z2, z_bindS]
          dsimp only
          rw [ifz]
          exact stay (by unfold stQ; exact if_neg (fun q => z2 q.2.2))
      · rw [A.2 z1, ifz]
        exact stay (by unfold stQ; exact if_neg (fun q => z1 q.2.1))
    show ∃ μ1, _ ∧ _ ∧ _ ∧ f_X4_quickest_h18 (n + 1) _ _ _ _ _ _ _ _ = _
    rw [f_X4_quickest_h18, if_neg (show ¬ (1 : Int32) = 0 by decide), if_pos (show nI c < 1000000 from nI_lt (b := 1000000) hc (by omega))]
    unfold f_X4_quickest_b52
    by_cases z : bk = 0
    · rw [if_pos (show nI bk = 0 by rw [z]; rfl)]
      exact go (Or.inl z)
    · rw [if_neg (show ¬ nI bk = 0 from nI_ne (b := 0) (by omega) (by omega) z)]
      by_cases z2 : pl b p = b
      · rw [if_pos (by rw [pb]; exact z2)]
        exact go (Or.inr z2)
      · rw [if_neg (by rw [pb]; exact z2)]
        unfold f_X4_quickest_b57 f_X4_quickest_b95
        rw [ifz]
        exact stay (by unfold stQ; exact if_neg (fun q => q.1.elim z z2))) l [] none 0 700000 μ L1 (okR_nil H k) (by omega) (by omega) w ⟨q0, 0, by omega, q0⟩
  exact ⟨μ', u1, u2, u3.1, u4⟩
theorem bit1_is : ∀ a, a < 8 → ∀ h, h < 8 → ((¬ (((1 : Int32) <<< (nI a &&& 31)) >>> (nI h &&& 31)) &&& 1 = 0) ↔ h = a) := by decide
theorem and_or_z {s a c : Int32} (h : s &&& (a ||| c) = 0) : s &&& a = 0 := by
  have e : s &&& a = (s &&& (a ||| c)) &&& a := by
    apply Int32.toBitVec_inj.1
    simp only [Int32.toBitVec_and, Int32.toBitVec_or]
    apply BitVec.eq_of_getLsbD_eq
    intro i hi
    simp only [BitVec.getLsbD_and, BitVec.getLsbD_or]
    cases s.toBitVec.getLsbD i <;> cases a.toBitVec.getLsbD i <;> cases c.toBitVec.getLsbD i <;> rfl
  rw [e, h]
  exact Int32.zero_and
theorem hrN_ext {S : zS} {sh g W b : Nat} {t0 : zT} {i : Nat} {set : Int32} : ∀ (es p : List Nat), hrN S sh g W b t0 i set (es ++ p) → hrN S sh g W b t0 i set p := by
  intro es
  induction es with
  | nil => intro p h; exact h
  | cons x es ih =>
    intro p h
    apply ih
    unfold hrN at h ⊢
    rw [List.cons_append] at h
    unfold tR at h
    rw [tW1] at h
    by_cases c : i = x
    · rw [if_pos c] at h
      rw [c]
      exact and_or_z h
    · rw [if_neg c] at h; exact h
theorem HB_aim {S : zS} {g W b : Nat} {t0 : zT} {a c : Nat} {set : Int32} {p : List Nat} (ha : a < 8) (hc : c < 8) : HB S g W b t0 ((1 : Int32) <<< (nI a &&& 31)) ((1 : Int32) <<< (nI c &&& 31)) set p 8 ↔ hrA S 0 g W b t0 a set p ∧ hrN S 0 g W b t0 c set p := by
  constructor
  · intro h
    exact ⟨(h a ha).1 ((bit1_is a ha a ha).2 rfl), (h c hc).2 ((bit1_is c hc c hc).2 rfl)⟩
  · rintro ⟨h1, h2⟩ h hh
    refine ⟨fun z => ?_, fun z => ?_⟩
    · rw [(bit1_is a ha h hh).1 z]; exact h1
    · rw [(bit1_is c hc h hh).1 z]; exact h2
