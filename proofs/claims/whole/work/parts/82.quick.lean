/-! the quickest route -/
def hsAt (p : List Nat) (j : Nat) : Nat := pl 0 (p.drop (p.length - (j + 1)))
theorem WK.c35 {μ : z_M} {H : Nat} {T : List Nat → zT} {p : List Nat} (h : WK μ H T p) {j : Nat} (hj : j < p.length) : μ.1 35 j = nI (hsAt p j) := by
  obtain ⟨x, e⟩ := drop_cons hj
  have k := h.drop (p.length - (j + 1))
  rw [e] at k
  unfold hsAt
  rw [e]
  have hl : (p.drop (p.length - j)).length = j := by rw [List.length_drop]; omega
  have k3 := k.2.2.1
  rw [hl] at k3
  exact k3
theorem RK.drop {ν : z_M} {T : List Nat → zT} : ∀ (k : Nat) {p : List Nat}, RK ν T p → RK ν T (p.drop k) := by
  intro k
  induction k with
  | zero => intro p h; exact h
  | succ k ih =>
    intro p h
    cases p with
    | nil => exact h
    | cons x p => exact ih h.1
theorem Hs.c9 {ν : z_M} {S : zS} {H W g sh k b : Nat} {t0 : zT} {p : List Nat} (s : Hs ν S H W g sh k b t0 p) (h4 : t0 4 0 = nI b) {j : Nat} (hj : j < p.length) : ν.1 9 (j + 1) = nI (hsAt p j) := by
  obtain ⟨x, e⟩ := drop_cons hj
  have k := (s.2.2.2.2.drop (p.length - (j + 1))).top
  rw [e] at k
  have hl : (p.drop (p.length - j)).length = j := by rw [List.length_drop]; omega
  rw [List.length_cons, hl] at k
  rw [k.2.2.1, tR_at h4]
  unfold hsAt
  rw [e]
  rfl
/-- a better route -/
def bqT (T : List Nat → zT) (p : List Nat) : Option (List Nat) → Prop
  | none => True
  | some q => T p 4 1 < T q 4 1 ∨ (T p 4 1 = T q 4 1 ∧ p.length < q.length)
/-- all hearers hear all, the deaf none -/
def HB (S : zS) (g W b : Nat) (t0 : zT) (hr df set : Int32) (p : List Nat) (n : Nat) : Prop := ∀ h, h < n → (¬ (hr >>> (nI h &&& 31)) &&& 1 = 0 → hrA S 0 g W b t0 h set p) ∧ (¬ (df >>> (nI h &&& 31)) &&& 1 = 0 → hrN S 0 g W b t0 h set p)
noncomputable def stQ (S : zS) (g W b : Nat) (t0 : zT) (bk : Nat) (hr df set : Int32) (p : List Nat) (o : Option (List Nat)) : Option (List Nat) := @ite _ ((bk = 0 ∨ pl b p = b) ∧ bqT (tR S g (fun a c => sLk S 0 a c W) b t0) p o ∧ HB S g W b t0 hr df set p 8) (Classical.propDecidable _) (some p) o
/-- the class keeps a route -/
def QC (T : List Nat → zT) (o : Option (List Nat)) (μ : z_M) : Prop := match o with
  | none => μ.1 42 3 = 0
  | some q => q.length ≤ 6 ∧ ¬ μ.1 42 3 = 0 ∧ μ.1 42 5 = T q 4 1 ∧ μ.1 42 6 = nI q.length ∧ ∀ j, j < q.length → μ.1 44 j = nI (hsAt q j)
def QM (T : List Nat → zT) (o : Option (List Nat)) (ν : z_M) : Prop := match o with
  | none => ν.1 0 47 = -1
  | some q => q.length ≤ 6 ∧ ν.1 0 46 = T q 4 1 ∧ ν.1 0 47 = nI q.length ∧ ∀ j, j < q.length → ν.1 25 j = nI (hsAt q j)
theorem QC.same {T : List Nat → zT} {o : Option (List Nat)} {μ μ' : z_M} (h : QC T o μ) (e : ∀ k, k = 42 ∨ k = 44 → μ'.1 k = μ.1 k) : QC T o μ' := by
  cases o with
  | none => show μ'.1 42 3 = 0; rw [e 42 (by omega)]; exact h
  | some q =>
    obtain ⟨h1, h2, h3, h4, h5⟩ := h
    exact ⟨h1, by rw [e 42 (by omega)]; exact h2, by rw [e 42 (by omega)]; exact h3, by rw [e 42 (by omega)]; exact h4, fun j hj => by rw [e 44 (by omega)]; exact h5 j hj⟩
theorem QM.same {T : List Nat → zT} {o : Option (List Nat)} {ν ν' : z_M} (h : QM T o ν) (e : ν'.1 0 46 = ν.1 0 46 ∧ ν'.1 0 47 = ν.1 0 47 ∧ ∀ j, ν'.1 25 j = ν.1 25 j) : QM T o ν' := by
  cases o with
  | none => show ν'.1 0 47 = -1; rw [e.2.1]; exact h
  | some q =>
    obtain ⟨h1, h3, h4, h5⟩ := h
    exact ⟨h1, by rw [e.1]; exact h3, by rw [e.2.1]; exact h4, fun j hj => by rw [e.2.2]; exact h5 j hj⟩
theorem cQuicker {μ : z_M} {S : zS} {H W L sh b : Nat} {t0 : zT} {p : List Nat} {o : Option (List Nat)} (w : Wk μ S H W L sh b t0 p) (hp : p.length ≤ 6) (q : QC (tR S L (fun a c => sLk S sh a c W) b t0) o μ) : (bqT (tR S L (fun a c => sLk S sh a c W) b t0) p o → f_X4_isQuicker μ = 1) ∧ (¬ bqT (tR S L (fun a c => sLk S sh a c W) b t0) p o → f_X4_isQuicker μ = 0) := by
  unfold f_X4_isQuicker f_X4_isQuicker_b45 f_X7_minutesTaken f_X7_visitsMade
  rw [w.2.2.1, g_getN (by omega) (by decide), w.2.2.2.2.c41, z_letE]
  cases o with
  | none =>
    have q' : μ.1 42 3 = 0 := q
    exact ⟨fun _ => by rw [if_pos q'], fun z => absurd trivial z⟩
  | some r =>
    obtain ⟨h1, h2, h3, h4, h5⟩ := q
    rw [if_neg h2, h3, h4]
    unfold bqT
    constructor
    · rintro (z | ⟨z1, z2⟩)
      · rw [if_pos z]
      · by_cases z : tR S L (fun a c => sLk S sh a c W) b t0 p 4 1 < tR S L (fun a c => sLk S sh a c W) b t0 r 4 1
        · rw [if_pos z]
        · rw [if_neg z, if_pos z1, if_pos (nI_lt z2 (by omega))]
    · intro z
      rw [if_neg (fun q => z (Or.inl q))]
      by_cases z1 : tR S L (fun a c => sLk S sh a c W) b t0 p 4 1 = tR S L (fun a c => sLk S sh a c W) b t0 r 4 1
      · rw [if_pos z1, if_neg (nI_nlt (Nat.le_of_not_lt (fun z2 => z (Or.inr ⟨z1, z2⟩))) (by omega))]
      · rw [if_neg z1]
theorem mBetter {ν : z_M} {S : zS} {H W g sh k b : Nat} {t0 : zT} {p : List Nat} {o : Option (List Nat)} (w : Hs ν S H W g sh k b t0 p) (hp : p.length ≤ 6) (q : QM (tR S g (fun a c => sLk S sh a c W) b t0) o ν) : (bqT (tR S g (fun a c => sLk S sh a c W) b t0) p o → f_X9_isBetter ν = some (1, ν)) ∧ (¬ bqT (tR S g (fun a c => sLk S sh a c W) b t0) p o → f_X9_isBetter ν = some (0, ν)) := by
  unfold f_X9_isBetter f_X9_isBetter_b50
  have c15 : ν.1 15 p.length = tR S g (fun a c => sLk S sh a c W) b t0 p 4 1 := w.2.2.2.2.top.2.2.2.1
  simp only [w.2.2.2.1]
  rw [z_chkN (by omega) (by decide), z_ixN (by omega), c15]
  cases o with
  | none =>
    have q' : ν.1 0 47 = -1 := q
    exact ⟨fun _ => by rw [q', if_pos (by decide)], fun z => absurd trivial z⟩
  | some r =>
    obtain ⟨h1, h3, h4, h5⟩ := q
    rw [h4, if_neg (nI_pos (by omega)), h3]
    unfold bqT
    constructor
    · rintro (z | ⟨z1, z2⟩)
      · rw [if_pos z]
      · by_cases z : tR S g (fun a c => sLk S sh a c W) b t0 p 4 1 < tR S g (fun a c => sLk S sh a c W) b t0 r 4 1
        · rw [if_pos z]
        · rw [if_neg z, z_chkN (by omega) (by decide), if_pos z1, if_pos (nI_lt z2 (by omega))]
    · intro z
      rw [if_neg (fun q => z (Or.inl q)), z_chkN (by omega) (by decide)]
      by_cases z1 : tR S g (fun a c => sLk S sh a c W) b t0 p 4 1 = tR S g (fun a c => sLk S sh a c W) b t0 r 4 1
      · rw [if_pos z1, if_neg (nI_nlt (Nat.le_of_not_lt (fun z2 => z (Or.inr ⟨z1, z2⟩))) (by omega))]
      · rw [if_neg z1]
/-- what a search's own cells are -/
def FQ (μ μ' : z_M) : Prop := (∀ k, k ≠ 42 → k ≠ 44 → μ'.1 k = μ.1 k) ∧ μ'.2 = μ.2
theorem FQ.rf (μ : z_M) : FQ μ μ := ⟨fun _ _ _ => rfl, rfl⟩
theorem FQ.tr {a b c : z_M} (h : FQ a b) (k : FQ b c) : FQ a c := ⟨fun x q1 q2 => (k.1 x q1 q2).trans (h.1 x q1 q2), k.2.trans h.2⟩
theorem FQ.sI {a b : z_M} (h : FQ a b) {k j : Nat} {v : Int32} (hk : k = 42 ∨ k = 44) : FQ a (z_sI b k j v) := by
  refine ⟨fun x q1 q2 => ?_, h.2⟩
  rw [sI1f (by omega)]; exact h.1 x q1 q2
theorem FQ.KC {a b : z_M} (h : FQ a b) : KC a b := ⟨fun k j q => by rw [h.1 k (by unfold LC at q; omega) (by unfold LC at q; omega)], h.2⟩
theorem Wk.FQ {μ μ' : z_M} {S : zS} {H W L sh b : Nat} {t0 : zT} {p : List Nat} (w : Wk μ S H W L sh b t0 p) (h : FQ μ μ') : Wk μ' S H W L sh b t0 p := by
  obtain ⟨w1, w2, w3, w4, w5⟩ := w
  have e := h.1
  refine ⟨w1.same (fun j => by rw [e 3 (by omega) (by omega)]) (fun j => by rw [e 5 (by omega) (by omega)]) (fun j => by rw [e 7 (by omega) (by omega)]) (fun j => by rw [e 1 (by omega) (by omega)]), fun a c ha hc => by rw [e 33 (by omega) (by omega)]; exact w2 a c ha hc, by rw [e 31 (by omega) (by omega)]; exact w3, by rw [e 31 (by omega) (by omega)]; exact w4, w5.same (fun j _ => ⟨by rw [e 35 (by omega) (by omega)], by rw [e 37 (by omega) (by omega)]⟩) (fun j _ => by rw [e 39 (by omega) (by omega)]) (fun j _ => by rw [e 41 (by omega) (by omega)])⟩
theorem cKeepR {μ : z_M} {S : zS} {H W L sh b : Nat} {t0 : zT} {p : List Nat} (w : Wk μ S H W L sh b t0 p) (hp : p.length ≤ 6) (n : Nat) (hn : 20 ≤ n) : ∃ μ', f_X4_keepRoute n μ = some ((), μ') ∧ FQ μ μ' ∧ (∀ j, j ≠ 5 → j ≠ 6 → μ'.1 42 j = μ.1 42 j) ∧ μ'.1 42 5 = tR S L (fun a c => sLk S sh a c W) b t0 p 4 1 ∧ μ'.1 42 6 = nI p.length ∧ ∀ j, j < p.length → μ'.1 44 j = nI (hsAt p j) := by
  unfold f_X4_keepRoute f_X7_minutesTaken f_X7_visitsMade
  rw [z_letE, z_letE]
  obtain ⟨m2, e2⟩ : ∃ y, y = z_sI (z_sI μ 42 5 (g_get 41 41 (μ.1 31 6) μ)) 42 6 ((z_sI μ 42 5 (g_get 41 41 (μ.1 31 6) μ)).1 31 6) := ⟨_, rfl⟩
  rw [← e2]
  have f2 : FQ μ m2 := by rw [e2]; exact ((FQ.rf μ).sI (by omega)).sI (by omega)
  have c5 : m2.1 42 5 = tR S L (fun a c => sLk S sh a c W) b t0 p 4 1 := by
    rw [e2, sI1, if_neg (by omega), sI1, if_pos ⟨rfl, rfl⟩, w.2.2.1, g_getN (by omega) (by decide), w.2.2.2.2.c41]
  have c6 : m2.1 42 6 = nI p.length := by
    rw [e2, sI1, if_pos ⟨rfl, rfl⟩, sI1f (by decide), w.2.2.1]
  have cj : ∀ j, j ≠ 5 → j ≠ 6 → m2.1 42 j = μ.1 42 j := fun j h1 h2 => by
    rw [e2, sI1, if_neg (by omega), sI1, if_neg (by omega)]
  have key : ∀ (d i n : Nat) (m : z_M), i + d = p.length → d < n → FQ m2 m → m.1 42 = m2.1 42 → (∀ j, j < i → m.1 44 j = nI (hsAt p j)) → ∃ m', f_X4_keepRoute_h24 n (nI i) m = some ((), m') ∧ FQ m2 m' ∧ m'.1 42 = m2.1 42 ∧ ∀ j, j < p.length → m'.1 44 j = nI (hsAt p j) := by
    intro d
    induction d with
    | zero =>
      intro i n m e hn h1 h2 h3
      obtain ⟨k, rfl⟩ : ∃ k, n = k + 1 := ⟨n - 1, by omega⟩
      refine ⟨m, ?_, h1, h2, fun j hj => h3 j (by omega)⟩
      rw [f_X4_keepRoute_h24, h2, c6, if_neg (nI_nlt (by omega) (by omega))]
    | succ d ih =>
      intro i n m e hn h1 h2 h3
      obtain ⟨k, rfl⟩ : ∃ k, n = k + 1 := ⟨n - 1, by omega⟩
      rw [f_X4_keepRoute_h24, h2, c6, if_pos (nI_lt (by omega) (by omega))]
      unfold f_X7_placeAt
      rw [if_neg (nI_pos (by omega)), g_getN (by omega) (by decide), g_putN (by omega) (by decide), z_letE, i_succ]
      have e35 : m.1 35 i = nI (hsAt p i) := by
        rw [(f2.tr h1).1 35 (by omega) (by omega)]; exact w.2.2.2.2.c35 (by omega)
      rw [e35]
      obtain ⟨m', k1, k2, k3, k4⟩ := ih (i + 1) k (z_sI m 44 i (nI (hsAt p i))) (by omega) (by omega) (h1.sI (by omega)) (by rw [sI1f (by decide)]; exact h2) (fun j hj => by
        rw [sI1]
        by_cases z : j = i
        · subst z; rw [if_pos ⟨rfl, rfl⟩]
        · rw [if_neg (fun q => z q.2)]; exact h3 j (by omega))
      exact ⟨m', k1, k2, k3, k4⟩
  obtain ⟨m', k1, k2, k3, k4⟩ := key p.length 0 n m2 (by omega) (by omega) (FQ.rf m2) rfl (fun j hj => by omega)
  exact ⟨m', k1, f2.tr k2, fun j h1 h2 => by rw [k3]; exact cj j h1 h2, by rw [k3]; exact c5, by rw [k3]; exact c6, k4⟩
theorem mTake {ν : z_M} {S : zS} {H W g sh k b : Nat} {t0 : zT} {p : List Nat} (w : Hs ν S H W g sh k b t0 p) (h4 : t0 4 0 = nI b) (hp : p.length ≤ 6) (n : Nat) (hn : 20 ≤ n) : ∃ ν', f_X9_takesBest n ν = some ((), ν') ∧ FX ν ν' ∧ (∀ j, j ≠ 46 → j ≠ 47 → ν'.1 0 j = ν.1 0 j) ∧ QM (tR S g (fun a c => sLk S sh a c W) b t0) (some p) ν' := by
  unfold f_X9_takesBest
  have c15 : ν.1 15 p.length = tR S g (fun a c => sLk S sh a c W) b t0 p 4 1 := w.2.2.2.2.top.2.2.2.1
  rw [w.2.2.2.1, z_chkN (by omega) (by decide), z_ixN (by omega), c15, z_letE, z_letE]
  obtain ⟨m2, e2⟩ : ∃ y, y = z_sI (z_sI ν 0 46 (tR S g (fun a c => sLk S sh a c W) b t0 p 4 1)) 0 47 ((z_sI ν 0 46 (tR S g (fun a c => sLk S sh a c W) b t0 p 4 1)).1 0 26) := ⟨_, rfl⟩
  rw [← e2]
  have f2 : FX ν m2 := by rw [e2]; exact ((FX.rf ν).sI (by omega)).sI (by omega)
  have c46 : m2.1 0 46 = tR S g (fun a c => sLk S sh a c W) b t0 p 4 1 := by
    rw [e2, sI1, if_neg (by omega), sI1, if_pos ⟨rfl, rfl⟩]
  have c47 : m2.1 0 47 = nI p.length := by
    rw [e2, sI1, if_pos ⟨rfl, rfl⟩, sI1, if_neg (by omega), w.2.2.2.1]
  have cj : ∀ j, j ≠ 46 → j ≠ 47 → m2.1 0 j = ν.1 0 j := fun j h1 h2 => by
    rw [e2, sI1, if_neg (by omega), sI1, if_neg (by omega)]
  have key : ∀ (d i n : Nat) (m : z_M), i + d = p.length → d < n → FX m2 m → m.1 0 = m2.1 0 → (∀ j, j < i → m.1 25 j = nI (hsAt p j)) → ∃ m', f_X9_takesBest_h23 n (nI i) m = some ((), m') ∧ FX m2 m' ∧ m'.1 0 = m2.1 0 ∧ ∀ j, j < p.length → m'.1 25 j = nI (hsAt p j) := by
    intro d
    induction d with
    | zero =>
      intro i n m e hn h1 h2 h3
      obtain ⟨k, rfl⟩ : ∃ k, n = k + 1 := ⟨n - 1, by omega⟩
      refine ⟨m, ?_, h1, h2, fun j hj => h3 j (by omega)⟩
      rw [f_X9_takesBest_h23, h2, cj 26 (by omega) (by omega), w.2.2.2.1, if_neg (nI_nlt (by omega) (by omega))]
    | succ d ih =>
      intro i n m e hn h1 h2 h3
      obtain ⟨k, rfl⟩ : ∃ k, n = k + 1 := ⟨n - 1, by omega⟩
      rw [f_X9_takesBest_h23, h2, cj 26 (by omega) (by omega), w.2.2.2.1, if_pos (nI_lt (by omega) (by omega)), i_succ, z_chkN (by omega) (by decide), z_chkN (by omega) (by decide), z_ixN (by omega), z_ixN (by omega), z_letE]
      have e9 : m.1 9 (i + 1) = nI (hsAt p i) := by
        rw [(f2.tr h1).1 9 _ (by omega) (by omega)]; exact w.c9 h4 (by omega)
      rw [e9]
      obtain ⟨m', k1, k2, k3, k4⟩ := ih (i + 1) k (z_sI m 25 i (nI (hsAt p i))) (by omega) (by omega) (h1.sI (by omega)) (by rw [sI1f (by decide)]; exact h2) (fun j hj => by
        rw [sI1]
        by_cases z : j = i
        · subst z; rw [if_pos ⟨rfl, rfl⟩]
        · rw [if_neg (fun q => z q.2)]; exact h3 j (by omega))
      exact ⟨m', k1, k2, k3, k4⟩
  obtain ⟨m', k1, k2, k3, k4⟩ := key p.length 0 n m2 (by omega) (by omega) (FX.rf m2) rfl (fun j hj => by omega)
  exact ⟨m', k1, f2.tr k2, fun j h1 h2 => by rw [k3]; exact cj j h1 h2, hp, by rw [k3]; exact c46, by rw [k3]; exact c47, k4⟩
/-- is it heard as asked -/
theorem cIHB {N k : Nat} {μ : z_M} {S : zS} {H W L b : Nat} {t0 : zT} {p : List Nat} (dd : Sd N S H W L b t0) (w : Wk μ S H W L 0 b t0 p) (hk : k ≤ 6) (o : okR H k p) (hr df set : Int32) (n : Nat) (hn : 150 ≤ n) : (HB S L W b t0 hr df set p 8 → f_X4_isHeardBy n hr df set μ = some (1, μ)) ∧ (¬ HB S L W b t0 hr df set p 8 → f_X4_isHeardBy n hr df set μ = some (0, μ)) := by
  have key : ∀ (d j n : Nat), j + d = 8 → d + 120 ≤ n → HB S L W b t0 hr df set p j → (HB S L W b t0 hr df set p 8 → f_X4_isHeardBy_h3 n hr df set (nI j) μ = some (1, μ)) ∧ (¬ HB S L W b t0 hr df set p 8 → f_X4_isHeardBy_h3 n hr df set (nI j) μ = some (0, μ)) := by
    intro d
    induction d with
    | zero =>
      intro j n e hn hj
      obtain ⟨m, rfl⟩ : ∃ m, n = m + 1 := ⟨n - 1, by omega⟩
      obtain rfl : j = 8 := by omega
      refine ⟨fun _ => ?_, fun z => absurd hj z⟩
      rw [f_X4_isHeardBy_h3, if_neg (by decide)]
    | succ d ih =>
      intro j n e hn hj
      obtain ⟨m, rfl⟩ : ∃ m, n = m + 1 := ⟨n - 1, by omega⟩
      rw [f_X4_isHeardBy_h3, if_pos (show nI j < 8 from nI_lt (b := 8) (by omega) (by decide))]
      have A := cHA dd w hk o (show j < 8 by omega) set m (by omega)
      have B := cHN dd w hk o (show j < 8 by omega) set m (by omega)
      have rest : (¬ (hr >>> (nI j &&& 31)) &&& 1 = 0 → hrA S 0 L W b t0 j set p) → (HB S L W b t0 hr df set p 8 → f_X4_isHeardBy_b31 (f_X4_isHeardBy_h3 m) m hr df set (nI j) μ = some (1, μ)) ∧ (¬ HB S L W b t0 hr df set p 8 → f_X4_isHeardBy_b31 (f_X4_isHeardBy_h3 m) m hr df set (nI j) μ = some (0, μ)) := by
        intro h1
        unfold f_X4_isHeardBy_b31 f_X4_isHeardBy_b52
        have go : (¬ (df >>> (nI j &&& 31)) &&& 1 = 0 → hrN S 0 L W b t0 j set p) → (HB S L W b t0 hr df set p 8 → f_X4_isHeardBy_h3 m hr df set (nI j + 1) μ = some (1, μ)) ∧ (¬ HB S L W b t0 hr df set p 8 → f_X4_isHeardBy_h3 m hr df set (nI j + 1) μ = some (0, μ)) := by
          intro h2
          rw [i_succ]
          refine ih (j + 1) m (by omega) (by omega) (fun h hh => ?_)
          by_cases z : h = j
          · subst z; exact ⟨h1, h2⟩
          · exact hj h (by omega)
        by_cases z : (df >>> (nI j &&& 31)) &&& 1 = 0
        · rw [if_pos z]; exact go (fun q => absurd z q)
        · rw [if_neg z]
          by_cases z2 : hrN S 0 L W b t0 j set p
          · rw [B.1 z2, z_bindS, if_pos rfl]
            exact go (fun _ => z2)
          · rw [B.2 z2, z_bindS]
            dsimp only
            rw [ifn]
            exact ⟨fun q => absurd ((q j (by omega)).2 z) z2, fun _ => rfl⟩
      by_cases z : (hr >>> (nI j &&& 31)) &&& 1 = 0
      · rw [if_pos z]; exact rest (fun q => absurd z q)
      · rw [if_neg z]
        by_cases z2 : hrA S 0 L W b t0 j set p
        · rw [A.1 z2, z_bindS]
          dsimp only
          rw [ifn]
          exact rest (fun _ => z2)
        · rw [A.2 z2, z_bindS, if_pos rfl]
          exact ⟨fun q => absurd ((q j (by omega)).1 z) z2, fun _ => rfl⟩
  exact key 8 0 n (by omega) (by omega) (fun h hh => by omega)
