/-! a walk in thought -/
def t00 (S : zS) (fresh : Bool) (sp : Int32) : zT := fun a i => if a = 0 then S 3 i else if a = 1 then 0 else if a = 2 then S 4 i else if a = 3 then (if fresh then 0 else S 9 i) else if i = 0 then S 10 3 else if i = 2 then sp else 0
def tW (S : zS) (L h w : Nat) (t : zT) : zT := fun a i => if a = 4 ∧ i = 1 then t 4 1 + S 7 w else tV S L h t a i
def pl (b : Nat) : List Nat → Nat
  | [] => b
  | h :: _ => h
def tR (S : zS) (L : Nat) (lk : Nat → Nat → Nat) (b : Nat) (t0 : zT) : List Nat → zT
  | [] => t0
  | h :: p => tW S L h (lk (pl b p) h - 1) (tR S L lk b t0 p)
theorem tW0 (S : zS) (L h w : Nat) (t : zT) (i : Nat) : tW S L h w t 0 i = if i = h then t 0 h ||| t 3 (L - 1) else t 0 i := rfl
theorem tW1 (S : zS) (L h w : Nat) (t : zT) (i : Nat) : tW S L h w t 1 i = if i = h then t 1 h ||| t 3 (L - 1) else t 1 i := rfl
theorem tW2 (S : zS) (L h w : Nat) (t : zT) (i : Nat) : tW S L h w t 2 i = if i = h then t 2 h + 1 else t 2 i := rfl
theorem tW30 (S : zS) (L h w : Nat) (t : zT) : tW S L h w t 3 0 = s_ans S h (t 3 (L - 1)) (t 0 h) (t 2 h) := rfl
theorem tW3s (S : zS) (L h w : Nat) (t : zT) (i : Nat) : tW S L h w t 3 (i + 1) = t 3 i := rfl
theorem tW40 (S : zS) (L h w : Nat) (t : zT) : tW S L h w t 4 0 = nI h := rfl
theorem tW41 (S : zS) (L h w : Nat) (t : zT) : tW S L h w t 4 1 = t 4 1 + S 7 w := rfl
theorem tW42 (S : zS) (L h w : Nat) (t : zT) : tW S L h w t 4 2 = t 3 (L - 1) := rfl
theorem tR_known {S : zS} {L : Nat} {lk : Nat → Nat → Nat} {b : Nat} {t0 : zT} (h0 : ∀ i, t0 0 i = S 3 i ||| t0 1 i) : ∀ (p : List Nat) (i : Nat), tR S L lk b t0 p 0 i = S 3 i ||| tR S L lk b t0 p 1 i := by
  intro p
  induction p with
  | nil => exact h0
  | cons h p ih =>
    intro i
    show tW S L h _ _ 0 i = S 3 i ||| tW S L h _ _ 1 i
    rw [tW0, tW1]
    by_cases e : i = h
    · subst e; rw [if_pos rfl, if_pos rfl, ih, Int32.or_assoc]
    · rw [if_neg e, if_neg e, ih]
theorem tR_visits {S : zS} {L : Nat} {lk : Nat → Nat → Nat} {b : Nat} {t0 : zT} (h0 : ∀ i, t0 2 i = S 4 i) : ∀ (p : List Nat) (i : Nat), tR S L lk b t0 p 2 i = S 4 i + nI (p.count i) := by
  intro p
  induction p with
  | nil => intro i; rw [List.count_nil]; exact (h0 i).trans (add0 (S 4 i)).symm
  | cons h p ih =>
    intro i
    show tW S L h _ _ 2 i = _
    rw [tW2]
    by_cases e : i = h
    · subst e; rw [if_pos rfl, ih, List.count_cons_self, ← i_succ, Int32.add_assoc]
    · rw [if_neg e, ih, List.count_cons_of_ne (Ne.symm e)]
/-- the class's walk holds route p -/
def WK (μ : z_M) (H : Nat) (T : List Nat → zT) : List Nat → Prop
  | [] => (∀ i, i < 3 → μ.1 39 (2 - i) = T [] 3 i) ∧ μ.1 41 0 = T [] 4 1
  | h :: p => WK μ H T p ∧ h < H ∧ μ.1 35 p.length = nI h ∧ μ.1 37 p.length = T (h :: p) 4 2 ∧ μ.1 39 (3 + p.length) = T (h :: p) 3 0 ∧ μ.1 41 (p.length + 1) = T (h :: p) 4 1
theorem WK.same {μ μ' : z_M} {H : Nat} {T : List Nat → zT} : ∀ {p : List Nat}, WK μ H T p → (∀ j, j < p.length → μ'.1 35 j = μ.1 35 j ∧ μ'.1 37 j = μ.1 37 j) → (∀ j, j < 3 + p.length → μ'.1 39 j = μ.1 39 j) → (∀ j, j < p.length + 1 → μ'.1 41 j = μ.1 41 j) → WK μ' H T p := by
  intro p
  induction p with
  | nil =>
    intro h h1 h2 h3
    exact ⟨fun i hi => (h2 _ (by simp; omega)).trans (h.1 i hi), (h3 0 (by simp)).trans h.2⟩
  | cons x p ih =>
    intro h h1 h2 h3
    obtain ⟨a, b, c, d, e, f⟩ := h
    have l : (x :: p).length = p.length + 1 := rfl
    rw [l] at h1 h2 h3
    refine ⟨ih a (fun j hj => h1 j (by omega)) (fun j hj => h2 j (by omega)) (fun j hj => h3 j (by omega)), b, ?_, ?_, ?_, ?_⟩
    · rw [(h1 p.length (by omega)).1]; exact c
    · rw [(h1 p.length (by omega)).2]; exact d
    · rw [h2 (3 + p.length) (by omega)]; exact e
    · rw [h3 (p.length + 1) (by omega)]; exact f
theorem WK.drop {μ : z_M} {H : Nat} {T : List Nat → zT} : ∀ (k : Nat) {p : List Nat}, WK μ H T p → WK μ H T (p.drop k) := by
  intro k
  induction k with
  | zero => intro p h; exact h
  | succ k ih =>
    intro p h
    cases p with
    | nil => exact h
    | cons x p => exact ih h.1
theorem WK.c41 {μ : z_M} {H : Nat} {T : List Nat → zT} {p : List Nat} (h : WK μ H T p) : μ.1 41 p.length = T p 4 1 := by
  cases p with
  | nil => exact h.2
  | cons x p => exact h.2.2.2.2.2
theorem WK.lt {μ : z_M} {H b : Nat} {T : List Nat → zT} {p : List Nat} (h : WK μ H T p) (hb : b < H) : pl b p < H := by
  cases p with
  | nil => exact hb
  | cons x p => exact h.2.1
theorem WK.all {μ : z_M} {H : Nat} {T : List Nat → zT} : ∀ {p : List Nat}, WK μ H T p → ∀ x ∈ p, x < H := by
  intro p
  induction p with
  | nil => intro _ x hx; cases hx
  | cons y p ih =>
    intro h x hx
    rcases List.mem_cons.mp hx with rfl | hx
    · exact h.2.1
    · exact ih h.1 x hx
theorem WK.c39 {μ : z_M} {H L b : Nat} {S : zS} {lk : Nat → Nat → Nat} {t0 : zT} : ∀ {p : List Nat}, WK μ H (tR S L lk b t0) p → ∀ i, i < 3 + p.length → μ.1 39 (2 + p.length - i) = tR S L lk b t0 p 3 i := by
  intro p
  induction p with
  | nil => intro h i hi; exact h.1 i (by simpa using hi)
  | cons x p ih =>
    intro h i hi
    have l : (x :: p).length = p.length + 1 := rfl
    rw [l] at hi ⊢
    cases i with
    | zero => rw [show 2 + (p.length + 1) - 0 = 3 + p.length by omega]; exact h.2.2.2.2.1
    | succ i =>
      rw [show 2 + (p.length + 1) - (i + 1) = 2 + p.length - i by omega]
      show _ = tW S L x _ _ 3 (i + 1)
      rw [tW3s]
      exact ih h.1 i (by omega)
theorem drop_cons {p : List Nat} {j : Nat} (h : j < p.length) : ∃ x, p.drop (p.length - (j + 1)) = x :: p.drop (p.length - j) := by
  have hl : p.length - (j + 1) < p.length := by omega
  refine ⟨p[p.length - (j + 1)], ?_⟩
  rw [List.drop_eq_getElem_cons hl, show p.length - (j + 1) + 1 = p.length - j by omega]
theorem cHeard {μ : z_M} {H L b : Nat} {S : zS} {lk : Nat → Nat → Nat} {t0 : zT} {p : List Nat} (k : WK μ H (tR S L lk b t0) p) (hH : H ≤ 8) (h0 : ∀ i, t0 1 i = 0) (c6 : μ.1 31 6 = nI p.length) (hl : p.length ≤ 40) {x : Nat} (hx : x < 2 ^ 31) (n : Nat) (hn : p.length < n) : f_X7_heardBy n (nI x) μ = some (tR S L lk b t0 p 1 x, μ) := by
  have key : ∀ (d j n : Nat), j + d = p.length → d < n → f_X7_heardBy_h4 n (nI x) (tR S L lk b t0 (p.drop (p.length - j)) 1 x) (nI j) μ = some (tR S L lk b t0 p 1 x, μ) := by
    intro d
    induction d with
    | zero =>
      intro j n e hn
      obtain ⟨m, rfl⟩ : ∃ m, n = m + 1 := ⟨n - 1, by omega⟩
      unfold f_X7_heardBy_h4
      rw [c6, if_neg (nI_nlt (by omega) (by omega)), show p.length - j = 0 by omega]; rfl
    | succ d ih =>
      intro j n e hn
      obtain ⟨m, rfl⟩ : ∃ m, n = m + 1 := ⟨n - 1, by omega⟩
      obtain ⟨y, ey⟩ := drop_cons (p := p) (j := j) (by omega)
      have kd := k.drop (p.length - (j + 1))
      rw [ey] at kd
      obtain ⟨-, k1, k2, k3, -⟩ := kd
      have ld : (p.drop (p.length - j)).length = j := by rw [List.length_drop]; omega
      rw [ld] at k2 k3
      have q := ih (j + 1) m (by omega) (by omega)
      rw [ey] at q
      have e1 : tR S L lk b t0 (y :: p.drop (p.length - j)) 1 x = if x = y then tR S L lk b t0 (p.drop (p.length - j)) 1 y ||| tR S L lk b t0 (p.drop (p.length - j)) 3 (L - 1) else tR S L lk b t0 (p.drop (p.length - j)) 1 x := tW1 _ _ _ _ _ _
      have e2 : tR S L lk b t0 (y :: p.drop (p.length - j)) 4 2 = tR S L lk b t0 (p.drop (p.length - j)) 3 (L - 1) := tW42 _ _ _ _ _
      rw [e1] at q
      rw [e2] at k3
      unfold f_X7_heardBy_h4 f_X7_heardBy_b35
      rw [c6, if_pos (nI_lt (by omega) (by omega)), g_getN (by omega) (by decide), g_getN (by omega) (by decide), k2, k3, i_succ]
      by_cases c : x = y
      · subst c; rw [if_pos rfl] at q; rw [if_pos rfl, z_letE]; exact q
      · rw [if_neg c] at q; rw [if_neg (nI_ne (by omega) hx (Ne.symm c))]; exact q
  have q := key p.length 0 n (by omega) hn
  rw [Nat.sub_zero, List.drop_length] at q
  rw [show tR S L lk b t0 [] 1 x = 0 from h0 x] at q
  exact q
theorem cVisitsOf {μ : z_M} {H : Nat} {T : List Nat → zT} {p : List Nat} (k : WK μ H T p) (hH : H ≤ 8) (c6 : μ.1 31 6 = nI p.length) (hl : p.length ≤ 40) {x : Nat} (hx : x < 2 ^ 31) (n : Nat) (hn : p.length < n) : f_X7_visitsOf n (nI x) μ = some (nI (p.count x), μ) := by
  have key : ∀ (d j n : Nat), j + d = p.length → d < n → f_X7_visitsOf_h4 n (nI x) (nI ((p.drop (p.length - j)).count x)) (nI j) μ = some (nI (p.count x), μ) := by
    intro d
    induction d with
    | zero =>
      intro j n e hn
      obtain ⟨m, rfl⟩ : ∃ m, n = m + 1 := ⟨n - 1, by omega⟩
      unfold f_X7_visitsOf_h4
      rw [c6, if_neg (nI_nlt (by omega) (by omega)), show p.length - j = 0 by omega]; rfl
    | succ d ih =>
      intro j n e hn
      obtain ⟨m, rfl⟩ : ∃ m, n = m + 1 := ⟨n - 1, by omega⟩
      obtain ⟨y, ey⟩ := drop_cons (p := p) (j := j) (by omega)
      have kd := k.drop (p.length - (j + 1))
      rw [ey] at kd
      obtain ⟨-, k1, k2, -⟩ := kd
      have ld : (p.drop (p.length - j)).length = j := by rw [List.length_drop]; omega
      rw [ld] at k2
      have q := ih (j + 1) m (by omega) (by omega)
      rw [ey] at q
      unfold f_X7_visitsOf_h4 f_X7_visitsOf_b27
      rw [c6, if_pos (nI_lt (by omega) (by omega)), g_getN (by omega) (by decide), k2, i_succ, i_succ]
      by_cases c : x = y
      · subst c; rw [List.count_cons_self] at q; rw [if_pos rfl]; exact q
      · rw [List.count_cons_of_ne (Ne.symm c)] at q; rw [if_neg (nI_ne (by omega) hx (Ne.symm c))]; exact q
  have q := key p.length 0 n (by omega) hn
  rw [Nat.sub_zero, List.drop_length, List.count_nil] at q
  exact q
/-- the class's walk, whole -/
def Wk (μ : z_M) (S : zS) (H W L sh b : Nat) (t0 : zT) (p : List Nat) : Prop := StC 1 μ S ∧ LkI μ S sh W ∧ μ.1 31 6 = nI p.length ∧ μ.1 31 7 = nI L ∧ WK μ H (tR S L (fun a c => sLk S sh a c W) b t0) p
theorem cPlace {μ : z_M} {S : zS} {H W L sh b : Nat} {t0 : zT} {p : List Nat} (k : Wk μ S H W L sh b t0 p) (hl : p.length ≤ 40) (eb : S 10 3 = nI b) : f_X7_place μ = nI (pl b p) := by
  obtain ⟨s1, -, c6, -, w⟩ := k
  unfold f_X7_place f_X6_birdAt
  rw [c6]
  cases p with
  | nil => rw [if_neg (show ¬ (0 : Int32) < nI [].length by decide)]; exact (s1.2.2.2 3 (by omega)).trans eb
  | cons x p =>
    have l : (x :: p).length = p.length + 1 := rfl
    rw [l] at hl
    rw [l, if_pos (show (0 : Int32) < nI (p.length + 1) from nI_lt (a := 0) (by omega) (by omega)), i_pred (by omega), Nat.add_sub_cancel, g_getN (by omega) (by decide)]
    exact w.2.2.1
/-- frame of a step -/
def FW (μ μ' : z_M) : Prop := (∀ k, k ≠ 31 → k ≠ 35 → k ≠ 37 → k ≠ 39 → k ≠ 41 → μ'.1 k = μ.1 k) ∧ μ'.1 41 0 = μ.1 41 0 ∧ μ'.2 = μ.2
theorem FW.rf (μ : z_M) : FW μ μ := ⟨fun _ _ _ _ _ _ => rfl, rfl, rfl⟩
theorem FW.tr {a b c : z_M} (h : FW a b) (k : FW b c) : FW a c := ⟨fun x h1 h2 h3 h4 h5 => (k.1 x h1 h2 h3 h4 h5).trans (h.1 x h1 h2 h3 h4 h5), k.2.1.trans h.2.1, k.2.2.trans h.2.2⟩
theorem FW.KC {a b : z_M} (h : FW a b) : KC a b := by
  refine ⟨fun k j q => ?_, h.2.2⟩
  by_cases z : k = 41
  · unfold LC at q
    rw [z, show j = 0 by omega]; exact h.2.1
  · unfold LC at q
    rw [h.1 k (by omega) (by omega) (by omega) (by omega) z]
theorem cStep {N : Nat} {μ : z_M} {S : zS} {H W L sh b : Nat} {t0 : zT} {p : List Nat} (V : Vd N S) (eH : S 10 0 = nI H) (eW : S 10 1 = nI W) (hH : H ≤ 8) (hW : W ≤ 12) (eb : S 10 3 = nI b) (hb : b < H) (hL1 : 1 ≤ L) (hL3 : L ≤ 3) (h00 : ∀ i, t0 0 i = S 3 i ||| t0 1 i) (h01 : ∀ i, t0 1 i = 0) (h02 : ∀ i, t0 2 i = S 4 i) (k : Wk μ S H W L sh b t0 p) (hl : p.length < 40) (n : Nat) (hn : 50 ≤ n) (h : Nat) (hh : h < 8) :
    (sLk S sh (pl b p) h W = 0 → f_X7_stepTo n (nI h) μ = some (0, μ)) ∧ (sLk S sh (pl b p) h W ≠ 0 → ∃ μ', f_X7_stepTo n (nI h) μ = some (1, μ') ∧ Wk μ' S H W L sh b t0 (h :: p) ∧ FW μ μ') := by
  have k' := k
  obtain ⟨s1, lk, c6, c7, w⟩ := k
  have c3 : μ.1 1 3 = nI H := (s1.2.2.2 0 (by omega)).trans eH
  have hp : pl b p < H := w.lt hb
  have pl0 := cPlace k' (by omega) eb
  refine ⟨fun z => ?_, fun z => ?_⟩
  · have ta : f_X7_wayTaken (nI (pl b p)) (nI h) μ = -1 := by
      by_cases c : h < H
      · rw [cTaken c3 hH lk hp c, z]; rfl
      · unfold f_X7_wayTaken f_X7_wayTaken_b26 f_X7_wayTaken_b27
        have e : f_X6_isHouse 1 (nI h) μ = 0 := by
          unfold f_X6_isHouse
          rw [c3, if_neg (nI_pos (by omega)), if_neg (nI_nlt (by omega) (by omega))]
        rw [e]; simp only [if_true, ite_self]
    unfold f_X7_stepTo
    rw [pl0, z_letE, ta, if_pos rfl]
  · have bt := sLk_bt S sh (pl b p) h W z
    have le := sLk_le S sh (pl b p) h W
    have c : h < H := by
      obtain ⟨z5, z6, -, -⟩ := V.2.2.2.2.2.1 (sLk S sh (pl b p) h W - 1) (by rw [sW_of eW hW]; omega)
      rw [sH_of eH hH] at z5 z6
      rcases bt.2 with q | q
      · obtain ⟨y, hy, ey⟩ := z6
        rw [ey] at q
        rw [← nI_inj (by omega) (by omega) q.2]; exact hy
      · obtain ⟨y, hy, ey⟩ := z5
        rw [ey] at q
        rw [← nI_inj (by omega) (by omega) q.1]; exact hy
    have ta : f_X7_wayTaken (nI (pl b p)) (nI h) μ = nI (sLk S sh (pl b p) h W - 1) := by
      rw [cTaken c3 hH lk hp c, i_pred (by omega)]
    have nz : ¬ nI (sLk S sh (pl b p) h W - 1) = -1 := fun e => by rw [nI_em1 (by omega)] at e; exact e
    generalize hw0 : sLk S sh (pl b p) h W - 1 = w0 at ta nz
    have hw12 : w0 < 12 := by omega
    -- the words spoken
    have sp : g_get 39 43 (3 + nI p.length - nI L) μ = tR S L (fun a c => sLk S sh a c W) b t0 p 3 (L - 1) := by
      rw [show (3 : Int32) + nI p.length = nI (3 + p.length) from nI_add 3 p.length, nI_sub (by omega), g_getN (by omega) (by decide), ← w.c39 (L - 1) (by omega), show 2 + p.length - (L - 1) = 3 + p.length - L by omega]
    obtain ⟨T, hT⟩ : ∃ T, T = tR S L (fun a c => sLk S sh a c W) b t0 := ⟨_, rfl⟩
    rw [← hT] at sp w
    obtain ⟨m3, e3⟩ : ∃ m, m = z_sI μ 37 p.length (T p 3 (L - 1)) := ⟨_, rfl⟩
    have w3 : WK m3 H T p := w.same (fun j hj => ⟨by rw [e3, sI1, if_neg (by omega)], by rw [e3, sI1, if_neg (by omega)]⟩) (fun j hj => by rw [e3, sI1, if_neg (by omega)]) (fun j hj => by rw [e3, sI1, if_neg (by omega)])
    have c63 : m3.1 31 6 = nI p.length := by rw [e3, sI1f (by decide)]; exact c6
    have s13 : StC 1 m3 S := s1.same (fun i => by rw [e3, sI1f (by decide)]) (fun i => by rw [e3, sI1f (by decide)]) (fun i => by rw [e3, sI1f (by decide)]) (fun i => by rw [e3, sI1f (by decide)])
    have hd := cHeard (x := h) (by rw [← hT]; exact w3) hH h01 c63 (by omega) (by omega) n (by omega)
    have vs := cVisitsOf (x := h) w3 hH c63 (by omega) (by omega) n (by omega)
    rw [← hT] at hd
    have an : f_X6_answerAfter 1 (nI h) (T p 3 (L - 1)) (T p 1 h) (nI (p.count h)) m3 = s_ans S h (T p 3 (L - 1)) (T p 0 h) (T p 2 h) := by
      rw [cAns s13 hh, hT, tR_known h00 p h, tR_visits h02 p h]
    obtain ⟨m6, e6⟩ : ∃ m, m = z_sI m3 39 (3 + p.length) (s_ans S h (T p 3 (L - 1)) (T p 0 h) (T p 2 h)) := ⟨_, rfl⟩
    have c66 : m6.1 31 6 = nI p.length := by rw [e6, sI1f (by decide)]; exact c63
    have s16 : StC 1 m6 S := s13.same (fun i => by rw [e6, sI1f (by decide)]) (fun i => by rw [e6, sI1f (by decide)]) (fun i => by rw [e6, sI1f (by decide)]) (fun i => by rw [e6, sI1f (by decide)])
    have m41 : m6.1 41 p.length = T p 4 1 := by rw [e6, sI1f (by decide), e3, sI1f (by decide)]; exact w.c41
    obtain ⟨m7, e7⟩ : ∃ m, m = z_sI m6 41 (p.length + 1) (T p 4 1 + S 7 w0) := ⟨_, rfl⟩
    have c67 : m7.1 31 6 = nI p.length := by rw [e7, sI1f (by decide)]; exact c66
    obtain ⟨m8, e8⟩ : ∃ m, m = z_sI m7 35 p.length (nI h) := ⟨_, rfl⟩
    have c68 : m8.1 31 6 = nI p.length := by rw [e8, sI1f (by decide)]; exact c67
    obtain ⟨m9, e9⟩ : ∃ m, m = z_sI m8 31 6 (nI (p.length + 1)) := ⟨_, rfl⟩
    have run : f_X7_stepTo n (nI h) μ = some (1, m9) := by
      unfold f_X7_stepTo
      rw [pl0, z_letE, ta, if_neg nz, c6, if_pos (show nI p.length < (40 : Int32) from nI_lt (b := 40) hl (by omega)), c7, sp, z_letE, g_putN hl (by decide), z_letE, ← e3, hd, z_bindS, vs, z_bindS]
      dsimp only
      rw [an, c63, show (3 : Int32) + nI p.length = nI (3 + p.length) from nI_add 3 p.length, g_putN (by omega) (by decide), z_letE, ← e6, c66, g_getN (by omega) (by decide), m41, cW2 s16 hw12, i_succ, g_putN (by omega) (by decide), z_letE, ← e7, c67, g_putN hl (by decide), z_letE, ← e8, c68, i_succ, z_letE, ← e9]
    have f9 : ∀ k, k ≠ 31 → k ≠ 35 → k ≠ 37 → k ≠ 39 → k ≠ 41 → m9.1 k = μ.1 k := fun k h1 h2 h3 h4 h5 => by
      rw [e9, sI1f h1, e8, sI1f h2, e7, sI1f h5, e6, sI1f h4, e3, sI1f h3]
    refine ⟨m9, run, ⟨s1.same (fun i => by rw [f9 _ (by decide) (by decide) (by decide) (by decide) (by decide)]) (fun i => by rw [f9 _ (by decide) (by decide) (by decide) (by decide) (by decide)]) (fun i => by rw [f9 _ (by decide) (by decide) (by decide) (by decide) (by decide)]) (fun i => by rw [f9 _ (by decide) (by decide) (by decide) (by decide) (by decide)]), fun a c ha hc => by rw [f9 33 (by decide) (by decide) (by decide) (by decide) (by decide)]; exact lk a c ha hc, ?_, ?_, ?_⟩, f9, ?_, ?_⟩
    · rw [e9, sI1, if_pos ⟨rfl, rfl⟩]; rfl
    · rw [e9, sI1, if_neg (by omega), e8, sI1f (by decide), e7, sI1f (by decide), e6, sI1f (by decide), e3, sI1f (by decide)]; exact c7
    · rw [← hT]
      refine ⟨w.same (fun j hj => ⟨?_, ?_⟩) (fun j hj => ?_) (fun j hj => ?_), c, ?_, ?_, ?_, ?_⟩
      · rw [e9, sI1f (by decide), e8, sI1, if_neg (by omega), e7, sI1f (by decide), e6, sI1f (by decide), e3, sI1f (by decide)]
      · rw [e9, sI1f (by decide), e8, sI1f (by decide), e7, sI1f (by decide), e6, sI1f (by decide), e3, sI1, if_neg (by omega)]
      · rw [e9, sI1f (by decide), e8, sI1f (by decide), e7, sI1f (by decide), e6, sI1, if_neg (by omega), e3, sI1f (by decide)]
      · rw [e9, sI1f (by decide), e8, sI1f (by decide), e7, sI1, if_neg (by omega), e6, sI1f (by decide), e3, sI1f (by decide)]
      · rw [e9, sI1f (by decide), e8, sI1, if_pos ⟨rfl, rfl⟩]
      · rw [e9, sI1f (by decide), e8, sI1f (by decide), e7, sI1f (by decide), e6, sI1f (by decide), e3, sI1, if_pos ⟨rfl, rfl⟩, hT]; rfl
      · rw [e9, sI1f (by decide), e8, sI1f (by decide), e7, sI1f (by decide), e6, sI1, if_pos ⟨rfl, rfl⟩, hT]; rfl
      · rw [e9, sI1f (by decide), e8, sI1f (by decide), e7, sI1, if_pos ⟨rfl, rfl⟩, hT, ← hw0]; rfl
    · rw [e9, sI1f (by decide), e8, sI1f (by decide), e7, sI1, if_neg (by omega), e6, sI1f (by decide), e3, sI1f (by decide)]
    · rw [e9, sI2, e8, sI2, e7, sI2, e6, sI2, e3, sI2]
