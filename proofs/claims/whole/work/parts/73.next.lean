/-! the class's next route -/
noncomputable def okL (S : zS) (sh W b : Nat) (p : List Nat) (h : Nat) : Bool := decide (sLk S sh (pl b p) h W ≠ 0)
theorem okL_t {S : zS} {sh W b : Nat} {p : List Nat} {h : Nat} : okL S sh W b p h = true ↔ sLk S sh (pl b p) h W ≠ 0 := by unfold okL; exact decide_eq_true_iff
theorem okL_f {S : zS} {sh W b : Nat} {p : List Nat} {h : Nat} : okL S sh W b p h = false ↔ sLk S sh (pl b p) h W = 0 := by
  unfold okL
  rw [decide_eq_false_iff_not]
  exact Classical.not_not
/-- what stays the same through a search -/
def Sd (N : Nat) (S : zS) (H W L b : Nat) (t0 : zT) : Prop := Vd N S ∧ S 10 0 = nI H ∧ S 10 1 = nI W ∧ H ≤ 8 ∧ W ≤ 12 ∧ S 10 3 = nI b ∧ b < H ∧ 1 ≤ L ∧ L ≤ 3 ∧ (∀ i, t0 0 i = S 3 i ||| t0 1 i) ∧ (∀ i, t0 1 i = 0) ∧ (∀ i, t0 2 i = S 4 i)
theorem cStep' {N : Nat} {μ : z_M} {S : zS} {H W L sh b : Nat} {t0 : zT} {p : List Nat} (d : Sd N S H W L b t0) (k : Wk μ S H W L sh b t0 p) (hl : p.length < 40) (n : Nat) (hn : 50 ≤ n) (h : Nat) (hh : h < 8) :
    (sLk S sh (pl b p) h W = 0 → f_X7_stepTo n (nI h) μ = some (0, μ)) ∧ (sLk S sh (pl b p) h W ≠ 0 → ∃ μ', f_X7_stepTo n (nI h) μ = some (1, μ') ∧ Wk μ' S H W L sh b t0 (h :: p) ∧ FW μ μ') := by
  obtain ⟨d1, d2, d3, d4, d5, d6, d7, d8, d9, d10, d11, d12⟩ := d
  exact cStep d1 d2 d3 d4 d5 d6 d7 d8 d9 d10 d11 d12 k hl n hn h hh
theorem cTry {N : Nat} {μ : z_M} {S : zS} {H W L sh b : Nat} {t0 : zT} {p : List Nat} {r20 : Int32 → Int32 → z_M → Option (Int32 × z_M)} (dd : Sd N S H W L b t0) (k : Wk μ S H W L sh b t0 p) (hl : p.length < 39) : ∀ (d l n : Nat), l + d = 8 → d + 60 ≤ n →
    (∀ h, fc (okL S sh W b p) d l = some h → ∃ μ', f_X7_becomeNext_h32 r20 n (nI p.length) (nI l) μ = some (1, μ') ∧ Wk μ' S H W L sh b t0 (h :: p) ∧ FW μ μ') ∧ (fc (okL S sh W b p) d l = none → f_X7_becomeNext_h32 r20 n (nI p.length) (nI l) μ = r20 (g_get 35 40 (nI p.length - 1) μ + 1) (nI p.length + (-1)) μ) := by
  intro d
  induction d with
  | zero =>
    intro l n e hn
    obtain ⟨m, rfl⟩ : ∃ m, n = m + 1 := ⟨n - 1, by omega⟩
    refine ⟨fun h q => (by cases q), fun _ => ?_⟩
    rw [f_X7_becomeNext_h32, if_neg (show ¬ nI l < (8 : Int32) from nI_nlt (b := 8) (by omega) (by omega)), z_letE]
  | succ d ih =>
    intro l n e hn
    obtain ⟨m, rfl⟩ : ∃ m, n = m + 1 := ⟨n - 1, by omega⟩
    obtain ⟨st1, st2⟩ := cStep' dd k (by omega) m (by omega) l (by omega)
    obtain ⟨i1, i2⟩ := ih (l + 1) m (by omega) (by omega)
    rw [f_X7_becomeNext_h32, if_pos (show nI l < (8 : Int32) from nI_lt (b := 8) (by omega) (by omega)), fc, i_succ]
    by_cases c : sLk S sh (pl b p) l W = 0
    · rw [okL_f.2 c, st1 c]
      simp only [z_bindS, if_true, Bool.false_eq_true, if_false]
      exact ⟨i1, i2⟩
    · obtain ⟨μ', q1, q2, q3⟩ := st2 c
      rw [okL_t.2 c, q1]
      simp only [z_bindS, ifn, if_true]
      refine ⟨fun h e => ?_, fun e => (by cases e)⟩
      cases e
      exact ⟨μ', rfl, q2, q3⟩
theorem cPop {N : Nat} {S : zS} {H W L sh b : Nat} {t0 : zT} (dd : Sd N S H W L b t0) : ∀ (p : List Nat) (l n : Nat) (μ : z_M), p.length < 39 → l ≤ 8 → p.length + 80 ≤ n → StC 1 μ S → LkI μ S sh W → μ.1 31 7 = nI L → WK μ H (tR S L (fun a c => sLk S sh a c W) b t0) p →
    (∀ p', nx (okL S sh W b) 8 p l = some p' → ∃ μ', f_X7_becomeNext_h20 n (nI l) (nI p.length) μ = some (1, μ') ∧ Wk μ' S H W L sh b t0 p' ∧ FW μ μ') ∧ (nx (okL S sh W b) 8 p l = none → ∃ μ', f_X7_becomeNext_h20 n (nI l) (nI p.length) μ = some (0, μ') ∧ StC 1 μ' S ∧ FW μ μ') := by
  intro p
  induction p with
  | nil =>
    intro l n μ hp hl hn s1 lk c7 w
    obtain ⟨m, rfl⟩ : ∃ m, n = m + 1 := ⟨n - 1, by omega⟩
    have fw : FW μ (z_sI μ 31 6 (nI ([] : List Nat).length)) := ⟨fun k h1 _ _ _ _ => sI1f h1, sI1 _ _ _ _ _ _ ▸ rfl, rfl⟩
    have kk : Wk (z_sI μ 31 6 (nI ([] : List Nat).length)) S H W L sh b t0 [] := ⟨s1.same (fun _ => rfl) (fun _ => rfl) (fun _ => rfl) (fun _ => rfl), lk, rfl, c7, w⟩
    obtain ⟨i1, i2⟩ := cTry (r20 := f_X7_becomeNext_h20 m) dd kk (by simp) (8 - l) l m (by omega) (by omega)
    rw [f_X7_becomeNext_h20, if_neg (nI_pos (by simp)), z_letE]
    refine ⟨fun p' e => ?_, fun e => ?_⟩
    · cases c : fc (okL S sh W b []) (8 - l) l with
      | none => rw [nx_end c] at e; cases e
      | some h =>
        rw [nx_some c] at e
        cases e
        obtain ⟨μ', q1, q2, q3⟩ := i1 h c
        exact ⟨μ', q1, q2, fw.tr q3⟩
    · cases c : fc (okL S sh W b []) (8 - l) l with
      | some h => rw [nx_some c] at e; cases e
      | none =>
        rw [i2 c]
        obtain ⟨m2, rfl⟩ : ∃ m2, m = m2 + 1 := ⟨m - 1, by omega⟩
        refine ⟨_, ?_, kk.1, fw⟩
        rw [f_X7_becomeNext_h20, if_pos (show nI ([] : List Nat).length + -1 < 0 by decide)]
  | cons x q ih =>
    intro l n μ hp hl hn s1 lk c7 w
    obtain ⟨m, rfl⟩ : ∃ m, n = m + 1 := ⟨n - 1, by omega⟩
    have lq : (x :: q).length = q.length + 1 := rfl
    have hx : x < H := w.2.1
    have hH : H ≤ 8 := dd.2.2.2.1
    have fw : FW μ (z_sI μ 31 6 (nI (x :: q).length)) := ⟨fun k h1 _ _ _ _ => sI1f h1, sI1 _ _ _ _ _ _ ▸ rfl, rfl⟩
    have w2 : WK (z_sI μ 31 6 (nI (x :: q).length)) H (tR S L (fun a c => sLk S sh a c W) b t0) (x :: q) := w.same (fun j _ => ⟨rfl, rfl⟩) (fun j _ => rfl) (fun j _ => rfl)
    have kk : Wk (z_sI μ 31 6 (nI (x :: q).length)) S H W L sh b t0 (x :: q) := ⟨s1.same (fun _ => rfl) (fun _ => rfl) (fun _ => rfl) (fun _ => rfl), lk, rfl, c7, w2⟩
    obtain ⟨i1, i2⟩ := cTry (r20 := f_X7_becomeNext_h20 m) dd kk hp (8 - l) l m (by omega) (by omega)
    rw [f_X7_becomeNext_h20, if_neg (nI_pos (by omega)), z_letE]
    cases c : fc (okL S sh W b (x :: q)) (8 - l) l with
    | some h =>
      refine ⟨fun p' e => ?_, fun e => ?_⟩
      · rw [nx_some c] at e
        cases e
        obtain ⟨μ', q1, q2, q3⟩ := i1 h c
        exact ⟨μ', q1, q2, fw.tr q3⟩
      · rw [nx_some c] at e; cases e
    | none =>
      have pv : g_get 35 40 (nI (x :: q).length - 1) (z_sI μ 31 6 (nI (x :: q).length)) = nI x := by
        rw [lq, i_pred (by omega), Nat.add_sub_cancel, g_getN (by omega) (by decide)]; exact w2.2.2.1
      rw [i2 c, pv, i_succ, i_pred' (by omega), nx_pop c]
      obtain ⟨j1, j2⟩ := ih (x + 1) m (z_sI μ 31 6 (nI (x :: q).length)) (by omega) (by omega) (by omega) kk.1 kk.2.1 kk.2.2.2.1 w2.1
      rw [lq] at j1 j2 fw ⊢
      rw [Nat.add_sub_cancel]
      refine ⟨fun p' e => ?_, fun e => ?_⟩
      · obtain ⟨μ', q1, q2, q3⟩ := j1 p' e
        exact ⟨μ', q1, q2, fw.tr q3⟩
      · obtain ⟨μ', q1, q2, q3⟩ := j2 e
        exact ⟨μ', q1, q2, fw.tr q3⟩
theorem cBN {N : Nat} {μ : z_M} {S : zS} {H W L sh b k : Nat} {t0 : zT} {p : List Nat} (dd : Sd N S H W L b t0) (w : Wk μ S H W L sh b t0 p) (hk : k ≤ 6) (hp : p.length ≤ k) (n : Nat) (hn : 100 ≤ n) :
    (∀ p', nx (okL S sh W b) 8 p (lst 8 k p) = some p' → ∃ μ', f_X7_becomeNext n (nI k) μ = some (1, μ') ∧ Wk μ' S H W L sh b t0 p' ∧ FW μ μ') ∧ (nx (okL S sh W b) 8 p (lst 8 k p) = none → ∃ μ', f_X7_becomeNext n (nI k) μ = some (0, μ') ∧ StC 1 μ' S ∧ FW μ μ') := by
  obtain ⟨s1, lk, c6, c7, wk⟩ := w
  unfold f_X7_becomeNext f_X7_becomeNext_b14
  rw [c6, z_letE, z_letE]
  unfold lst
  by_cases c : p.length < k
  · rw [if_pos c, if_pos (nI_lt c (by omega))]
    exact cPop dd p 0 n μ (by omega) (by omega) (by omega) s1 lk c7 wk
  · rw [if_neg c, if_neg (nI_nlt (by omega) (by omega))]
    exact cPop dd p 8 n μ (by omega) (by omega) (by omega) s1 lk c7 wk
