/-! the next route -/
noncomputable def okL (S : zS) (sh W b : Nat) (p : List Nat) (h : Nat) : Bool := decide (sLk S sh (pl b p) h W ≠ 0)
theorem okL_t {S : zS} {sh W b : Nat} {p : List Nat} {h : Nat} : okL S sh W b p h = true ↔ sLk S sh (pl b p) h W ≠ 0 := by unfold okL; exact decide_eq_true_iff
theorem okL_f {S : zS} {sh W b : Nat} {p : List Nat} {h : Nat} : okL S sh W b p h = false ↔ sLk S sh (pl b p) h W = 0 := by
  unfold okL
  rw [decide_eq_false_iff_not]
  exact Classical.not_not
/-- what stays the same through a search -/
def Sd (N : Nat) (S : zS) (H W L b : Nat) (t0 : zT) : Prop := Vd N S ∧ S 10 0 = nI H ∧ S 10 1 = nI W ∧ H ≤ 8 ∧ W ≤ 12 ∧ S 10 3 = nI b ∧ b < H ∧ 1 ≤ L ∧ L ≤ 3 ∧ (∀ i, t0 0 i = S 3 i ||| t0 1 i) ∧ (∀ i, t0 1 i = 0) ∧ (∀ i, t0 2 i = S 4 i)
theorem cStep' {N : Nat} {μ : z_M} {S : zS} {H W L sh b : Nat} {t0 : zT} {p : List Nat} (d : Sd N S H W L b t0) (k : Wk μ S H W L sh b t0 p) (hl : p.length < 40) (n : Nat) (hn : 50 ≤ n) (h : Nat) (hh : h < 8) :
    (sLk S sh (pl b p) h W = 0 → f_X7_stepTo n (nI h) μ = some (0, μ)) ∧ (sLk S sh (pl b p) h W ≠ 0 → ∃ μ', f_X7_stepTo n (nI h) μ = some (1, μ') ∧ Wk μ' S H W L sh b t0 (h :: p) ∧ FW μ μ') := by
  obtain ⟨d1, d2, d3, d4, d5, d6, d7, d8, d9, d10, d11, d12⟩ := d
  exact cStep d1 d2 d3 d4 d5 d6 d7 d8 d9 d10 d11 d12 k hl n hn h hh
theorem cTry {N : Nat} {μ : z_M} {S : zS} {H W L sh b : Nat} {t0 : zT} {p : List Nat} {r20 : Int32 → Int32 → z_M → Option (Int32 × z_M)} (dd : Sd N S H W L b t0) (k : Wk μ S H W L sh b t0 p) (hl : p.length < 39) : ∀ (d l n : Nat), l + d = 8 → d + 60 ≤ n →
    (∀ h, fc (okL S sh W b p) d l = some h → ∃ μ', f_X7_becomeNext_h32 r20 n (nI p.length) (nI l) μ = some (1, μ') ∧ Wk μ' S H W L sh b t0 (h :: p) ∧ FW μ μ') ∧ (fc (okL S sh W b p) d l = none → f_X7_becomeNext_h32 r20 n (nI p.length) (nI l) μ = r20 (g_get 35 40 (nI p.length - 1) μ + 1) (nI p.length + (-1)) μ) := by
  intro d
  induction d with
  | zero =>
    intro l n e hn
    obtain ⟨m, rfl⟩ : ∃ m, n = m + 1 := ⟨n - 1, by omega⟩
    refine ⟨fun h q => (by cases q), fun _ => ?_⟩
    rw [f_X7_becomeNext_h32, if_neg (show ¬ nI l < (8 : Int32) from nI_nlt (b := 8) (by omega) (by omega)), z_letE]
  | succ d ih =>
    intro l n e hn
    obtain ⟨m, rfl⟩ : ∃ m, n = m + 1 := ⟨n - 1, by omega⟩
    obtain ⟨st1, st2⟩ := cStep' dd k (by omega) m (by omega) l (by omega)
    obtain ⟨i1, i2⟩ := ih (l + 1) m (by omega) (by omega)
    rw [f_X7_becomeNext_h32, if_pos (show nI l < (8 : Int32) from nI_lt (b := 8) (by omega) (by omega)), fc, i_succ]
    by_cases c : sLk S sh (pl b p) l W = 0
    · rw [okL_f.2 c, st1 c]
      simp only [z_bindS, if_true, Bool.false_eq_true, if_false]
      exact ⟨i1, i2⟩
    · obtain ⟨μ', q1, q2, q3⟩ := st2 c
      rw [okL_t.2 c, q1]
      simp only [z_bindS, ifn, if_true]
      refine ⟨fun h e => ?_, fun e => (by cases e)⟩
      cases e
      exact ⟨μ', rfl, q2, q3⟩
theorem cPop {N : Nat} {S : zS} {H W L sh b : Nat} {t0 : zT} (dd : Sd N S H W L b t0) : ∀ (p : List Nat) (l n : Nat) (μ : z_M), p.length < 39 → l ≤ 8 → p.length + 80 ≤ n → StC 1 μ S → LkI μ S sh W → μ.1 31 7 = nI L → WK μ H (tR S L (fun a c => sLk S sh a c W) b t0) p →
    (∀ p', nx (okL S sh W b) 8 p l = some p' → ∃ μ', f_X7_becomeNext_h20 n (nI l) (nI p.length) μ = some (1, μ') ∧ Wk μ' S H W L sh b t0 p' ∧ FW μ μ') ∧ (nx (okL S sh W b) 8 p l = none → ∃ μ', f_X7_becomeNext_h20 n (nI l) (nI p.length) μ = some (0, μ') ∧ StC 1 μ' S ∧ FW μ μ') := by
  intro p
  induction p with
  | nil =>
    intro l n μ hp hl hn s1 lk c7 w
    obtain ⟨m, rfl⟩ : ∃ m, n = m + 1 := ⟨n - 1, by omega⟩
    have fw : FW μ (z_sI μ 31 6 (nI ([] : List Nat).length)) := ⟨fun k h1 _ _ _ _ => sI1f h1, sI1 _ _ _ _ _ _ ▸ rfl, rfl⟩
    have kk : Wk (z_sI μ 31 6 (nI ([] : List Nat).length)) S H W L sh b t0 [] := ⟨s1.same (fun _ => rfl) (fun _ => rfl) (fun _ => rfl) (fun _ => rfl), lk, rfl, c7, w⟩
    obtain ⟨i1, i2⟩ := cTry (r20 := f_X7_becomeNext_h20 m) dd kk (by simp) (8 - l) l m (by omega) (by omega)
    rw [f_X7_becomeNext_h20, if_neg (nI_pos (by simp)), z_letE]
    refine ⟨fun p' e => ?_, fun e => ?_⟩
    · cases c : fc (okL S sh W b []) (8 - l) l with
      | none => rw [nx_end c] at e; cases e
      | some h =>
        rw [nx_some c] at e
        cases e
        obtain ⟨μ', q1, q2, q3⟩ := i1 h c
        exact ⟨μ', q1, q2, fw.tr q3⟩
    · cases c : fc (okL S sh W b []) (8 - l) l with
      | some h => rw [nx_some c] at e; cases e
      | none =>
        rw [i2 c]
        obtain ⟨m2, rfl⟩ : ∃ m2, m = m2 + 1 := ⟨m - 1, by omega⟩
        refine ⟨_, ?_, kk.1, fw⟩
        rw [f_X7_becomeNext_h20, if_pos (show nI ([] : List Nat).length + -1 < 0 by decide)]
  | cons x q ih =>
    intro l n μ hp hl hn s1 lk c7 w
    obtain ⟨m, rfl⟩ : ∃ m, n = m + 1 := ⟨n - 1, by omega⟩
    have lq : (x :: q).length = q.length + 1 := rfl
    have hx : x < H := w.2.1
    have hH : H ≤ 8 := dd.2.2.2.1
    have fw : FW μ (z_sI μ 31 6 (nI (x :: q).length)) := ⟨fun k h1 _ _ _ _ => sI1f h1, sI1 _ _ _ _ _ _ ▸ rfl, rfl⟩
    have w2 : WK (z_sI μ 31 6 (nI (x :: q).length)) H (tR S L (fun a c => sLk S sh a c W) b t0) (x :: q) := w.same (fun j _ => ⟨rfl, rfl⟩) (fun j _ => rfl) (fun j _ => rfl)
    have kk : Wk (z_sI μ 31 6 (nI (x :: q).length)) S H W L sh b t0 (x :: q) := ⟨s1.same (fun _ => rfl) (fun _ => rfl) (fun _ => rfl) (fun _ => rfl), lk, rfl, c7, w2⟩
    obtain ⟨i1, i2⟩ := cTry (r20 := f_X7_becomeNext_h20 m) dd kk hp (8 - l) l m (by omega) (by omega)
    rw [f_X7_becomeNext_h20, if_neg (nI_pos (by omega)), z_letE]
    cases c : fc (okL S sh W b (x :: q)) (8 - l) l with
    | some h =>
      refine ⟨fun p' e => ?_, fun e => ?_⟩
      · rw [nx_some c] at e
        cases e
        obtain ⟨μ', q1, q2, q3⟩ := i1 h c
        exact ⟨μ', q1, q2, fw.tr q3⟩
      · rw [nx_some c] at e; cases e
    | none =>
      have pv : g_get 35 40 (nI (x :: q).length - 1) (z_sI μ 31 6 (nI (x :: q).length)) = nI x := by
        rw [lq, i_pred (by omega), Nat.add_sub_cancel, g_getN (by omega) (by decide)]; exact w2.2.2.1
      rw [i2 c, pv, i_succ, i_pred' (by omega), nx_pop c]
      obtain ⟨j1, j2⟩ := ih (x + 1) m (z_sI μ 31 6 (nI (x :: q).length)) (by omega) (by omega) (by omega) kk.1 kk.2.1 kk.2.2.2.1 w2.1
      rw [lq] at j1 j2 fw ⊢
      rw [Nat.add_sub_cancel]
      refine ⟨fun p' e => ?_, fun e => ?_⟩
      · obtain ⟨μ', q1, q2, q3⟩ := j1 p' e
        exact ⟨μ', q1, q2, fw.tr q3⟩
      · obtain ⟨μ', q1, q2, q3⟩ := j2 e
        exact ⟨μ', q1, q2, fw.tr q3⟩
theorem cBN {N : Nat} {μ : z_M} {S : zS} {H W L sh b k : Nat} {t0 : zT} {p : List Nat} (dd : Sd N S H W L b t0) (w : Wk μ S H W L sh b t0 p) (hk : k ≤ 6) (hp : p.length ≤ k) (n : Nat) (hn : 100 ≤ n) :
    (∀ p', nx (okL S sh W b) 8 p (lst 8 k p) = some p' → ∃ μ', f_X7_becomeNext n (nI k) μ = some (1, μ') ∧ Wk μ' S H W L sh b t0 p' ∧ FW μ μ') ∧ (nx (okL S sh W b) 8 p (lst 8 k p) = none → ∃ μ', f_X7_becomeNext n (nI k) μ = some (0, μ') ∧ StC 1 μ' S ∧ FW μ μ') := by
  obtain ⟨s1, lk, c6, c7, wk⟩ := w
  unfold f_X7_becomeNext f_X7_becomeNext_b14
  rw [c6, z_letE, z_letE]
  unfold lst
  by_cases c : p.length < k
  · rw [if_pos c, if_pos (nI_lt c (by omega))]
    exact cPop dd p 0 n μ (by omega) (by omega) (by omega) s1 lk c7 wk
  · rw [if_neg c, if_neg (nI_nlt (by omega) (by omega))]
    exact cPop dd p 8 n μ (by omega) (by omega) (by omega) s1 lk c7 wk
theorem okL_out {N : Nat} {S : zS} {H W sh b : Nat} (V : Vd N S) (eH : S 10 0 = nI H) (eW : S 10 1 = nI W) (hH : H ≤ 8) (hW : W ≤ 12) {p : List Nat} {x : Nat} (hp : pl b p < H) (hx : H ≤ x) (hx2 : x < 2 ^ 31) : okL S sh W b p x = false := by
  rw [okL_f]
  apply Classical.byContradiction
  intro z
  have bt := sLk_bt S sh (pl b p) x W z
  have le := sLk_le S sh (pl b p) x W
  obtain ⟨z5, z6, -, -⟩ := V.2.2.2.2.2.1 (sLk S sh (pl b p) x W - 1) (by rw [sW_of eW hW]; omega)
  rw [sH_of eH hH] at z5 z6
  rcases bt.2 with q | q
  · obtain ⟨y, hy, ey⟩ := z6
    rw [ey] at q
    have := nI_inj (by omega) hx2 q.2; omega
  · obtain ⟨y, hy, ey⟩ := z5
    rw [ey] at q
    have := nI_inj (by omega) hx2 q.1; omega
theorem pl_lt {H b : Nat} (hb : b < H) {p : List Nat} (h : ∀ x ∈ p, x < H) : pl b p < H := by
  cases p with
  | nil => exact hb
  | cons x p => exact h x List.mem_cons_self
theorem okL_in {N : Nat} {S : zS} {H W sh b : Nat} (V : Vd N S) (eH : S 10 0 = nI H) (eW : S 10 1 = nI W) (hH : H ≤ 8) (hW : W ≤ 12) {p : List Nat} (hp : pl b p < H) : ∀ x, H ≤ x → x < 8 → okL S sh W b p x = false := fun x h1 h2 => okL_out V eH eW hH hW hp h1 (by omega)
theorem Sd.of {N : Nat} {S : zS} {H W L b : Nat} {fr : Bool} {sp : Int32} (V : Vd N S) (eH : S 10 0 = nI H) (eW : S 10 1 = nI W) (hH : H ≤ 8) (hW : W ≤ 12) (eb : S 10 3 = nI b) (hb : b < H) (h1 : 1 ≤ L) (h3 : L ≤ 3) : Sd N S H W L b (t00 S fr sp) := ⟨V, eH, eW, hH, hW, eb, hb, h1, h3, fun i => (or0 _).symm, fun i => rfl, fun i => rfl⟩
/-- the class's walk as it begins -/
theorem cBegin' {N H W g sh b : Nat} {μ : z_M} {S : zS} {sp : Int32} (R : μ.1 41 0 = 0) (s1 : StC 1 μ S) (V : Vd N S) (eH : S 10 0 = nI H) (eW : S 10 1 = nI W) (eg : S 10 2 = nI g) (hH : H ≤ 8) (hW : W ≤ 12) (hs : sh < 2 ^ 31) (n : Nat) (hn : 20 ≤ n) : ∃ μ', f_X7_beginWithout n (nI sh) μ = some ((), μ') ∧ Wk μ' S H W g sh b (t00 S false sp) [] ∧ KC μ μ' ∧ (∀ k, k ≠ 31 → k ≠ 33 → k ≠ 39 → μ'.1 k = μ.1 k) := by
  obtain ⟨μ', q1, q2, q3, q4, q5, q6, q7⟩ := cBegin s1 V eH eW eg hH hW hs n hn
  refine ⟨μ', q1, ⟨s1.same (fun i => by rw [q6 3 (by decide) (by decide) (by decide)]) (fun i => by rw [q6 5 (by decide) (by decide) (by decide)]) (fun i => by rw [q6 7 (by decide) (by decide) (by decide)]) (fun i => by rw [q6 1 (by decide) (by decide) (by decide)]), q2, q3, q4, fun i hi => q5 i hi, ?_⟩, ⟨fun k j z => ?_, q7⟩, q6⟩
  · rw [q6 41 (by decide) (by decide) (by decide)]; exact R
  · unfold LC at z
    rw [q6 k (by omega) (by omega) (by omega)]
theorem nx_form {ok : List Nat → Nat → Bool} {B : Nat} : ∀ (p : List Nat) (l : Nat) (p' : List Nat), nx ok B p l = some p' → ∃ h q, p' = h :: q ∧ (∃ ds, p = ds ++ q ∧ (B ≤ l → ds ≠ [])) ∧ ok q h = true ∧ h < B := by
  intro p
  induction p with
  | nil =>
    intro l p' e
    cases c : fc (ok []) (B - l) l with
    | none => rw [nx_end c] at e; cases e
    | some h =>
      rw [nx_some c] at e
      obtain ⟨f1, f2, f3, -⟩ := fc_some c
      exact ⟨h, [], (Option.some.inj e).symm, ⟨[], rfl, fun q => by omega⟩, f3, by omega⟩
  | cons x q ih =>
    intro l p' e
    cases c : fc (ok (x :: q)) (B - l) l with
    | none =>
      rw [nx_pop c] at e
      obtain ⟨h, q', e1, ⟨ds, e2, e3⟩, e4, e5⟩ := ih _ _ e
      exact ⟨h, q', e1, ⟨x :: ds, by rw [e2]; rfl, fun _ z => by cases z⟩, e4, e5⟩
    | some h =>
      rw [nx_some c] at e
      obtain ⟨f1, f2, f3, -⟩ := fc_some c
      exact ⟨h, x :: q, (Option.some.inj e).symm, ⟨[], rfl, fun q => by omega⟩, f3, by omega⟩
theorem nx_okH {N : Nat} {S : zS} {H W sh b k : Nat} (V : Vd N S) (eH : S 10 0 = nI H) (eW : S 10 1 = nI W) (hH : H ≤ 8) (hW : W ≤ 12) (hb : b < H) {p : List Nat} (o : okR H k p) {l : Nat} {p' : List Nat} (hl : p.length < k ∨ 8 ≤ l) (e : nx (okL S sh W b) 8 p l = some p') : okR H k p' := by
  obtain ⟨h, q, rfl, ⟨ds, rfl, z⟩, e3, e4⟩ := nx_form p l p' e
  have oq : ∀ x ∈ q, x < H := fun x hx => o.2 x (List.mem_append_right _ hx)
  have hq : pl b q < H := pl_lt hb oq
  refine ⟨?_, fun x hx => ?_⟩
  · have := o.1
    rw [List.length_append] at this hl
    show q.length + 1 ≤ k
    rcases hl with hl | hl
    · omega
    · have : ds.length ≠ 0 := fun q => z hl (List.length_eq_zero_iff.mp q)
      omega
  · rcases List.mem_cons.mp hx with rfl | hx
    · apply Classical.byContradiction
      intro n
      have := okL_in (sh := sh) V eH eW hH hW hq x (by omega) e4
      rw [this] at e3; cases e3
    · exact oq x hx
theorem okR_up {H k : Nat} (hH : H ≤ 8) {p : List Nat} (o : okR H k p) : okR 8 k p := ⟨o.1, fun x hx => Nat.lt_of_lt_of_le (o.2 x hx) hH⟩
/-- the class's loop -/
theorem cAll {α σ : Type} {N : Nat} {S : zS} {H W L sh b k : Nat} {t0 : zT} (dd : Sd N S H W L b t0) (hk : k ≤ 6) (G : Nat → Int32 → Int32 → σ → z_M → Option (α × z_M)) (st : List Nat → σ → σ) (out : σ → α) (Q : Nat → σ → z_M → Prop)
    (hQ : ∀ i s μ μ', FW μ μ' → Q i s μ → Q i s μ') (he : ∀ n i s μ, Q i s μ → G (n + 1) 0 (nI i) s μ = some (out s, μ))
    (hs : ∀ n i p s μ, 200 ≤ n → i < 1000000 → okR H k p → Wk μ S H W L sh b t0 p → Q i s μ → ∃ μ1, Wk μ1 S H W L sh b t0 p ∧ Q (i + 1) (st p s) μ1 ∧ KC μ μ1 ∧ G (n + 1) 1 (nI i) s μ = z_bind (f_X7_becomeNext n (nI k) μ1) (fun r => G n r.1 (nI (i + 1)) (st p s) r.2)) :
    ∀ (l : List (List Nat)) (p : List Nat) (s : σ) (i n : Nat) (μ : z_M), Ch (okL S sh W b) 8 k p l → okR H k p → i + l.length < 1000000 → l.length + 220 ≤ n → Wk μ S H W L sh b t0 p → Q i s μ → ∃ μ', G n 1 (nI i) s μ = some (out (List.foldl (fun s p => st p s) s (p :: l)), μ') ∧ KC μ μ' ∧ (∃ i', i' ≤ 1000000 ∧ Q i' (List.foldl (fun s p => st p s) s (p :: l)) μ') ∧ StC 1 μ' S := by
  intro l
  induction l with
  | nil =>
    intro p s i n μ hc o hi hn w q
    obtain ⟨m, rfl⟩ : ∃ m, n = m + 2 := ⟨n - 2, by omega⟩
    simp only [List.length_nil] at hi hn
    obtain ⟨μ1, a1, a2, a3, a4⟩ := hs (m + 1) i p s μ (by omega) (by omega) o w q
    obtain ⟨-, b2⟩ := cBN dd a1 hk o.1 (m + 1) (by omega)
    obtain ⟨μ2, c1, c2, c3⟩ := b2 hc
    refine ⟨μ2, ?_, a3.tr c3.KC, ⟨i + 1, by omega, hQ _ _ _ _ c3 a2⟩, c2⟩
    rw [a4, c1, z_bindS]
    exact he m _ _ _ (hQ _ _ _ _ c3 a2)
  | cons p' l ih =>
    intro p s i n μ hc o hi hn w q
    obtain ⟨m, rfl⟩ : ∃ m, n = m + 1 := ⟨n - 1, by omega⟩
    simp only [List.length_cons] at hi hn
    obtain ⟨μ1, a1, a2, a3, a4⟩ := hs m i p s μ (by omega) (by omega) o w q
    obtain ⟨b1, -⟩ := cBN dd a1 hk o.1 m (by omega)
    obtain ⟨hc1, hc2⟩ := hc
    obtain ⟨μ2, c1, c2, c3⟩ := b1 p' hc1
    obtain ⟨V, eH, eW, hH, hW, eb, hb, -⟩ := dd
    have o' := nx_okH V eH eW hH hW hb o (lst_ok 8 k p) hc1
    obtain ⟨μ3, d1, d2, d3, d4⟩ := ih p' (st p s) (i + 1) m μ2 hc2 o' (by omega) (by omega) c2 (hQ _ _ _ _ c3 a2)
    refine ⟨μ3, ?_, (a3.tr c3.KC).tr d2, d3, d4⟩
    rw [a4, c1, z_bindS]
    exact d1
theorem fold_id {σ : Type} {st : List Nat → σ → σ} {s : σ} : ∀ (l : List (List Nat)), (∀ r ∈ l, st r s = s) → List.foldl (fun s p => st p s) s l = s := by
  intro l
  induction l with
  | nil => intro _; rfl
  | cons r l ih =>
    intro h
    rw [List.foldl_cons, h r (List.mem_cons_self ..)]
    exact ih (fun x hx => h x (List.mem_cons_of_mem _ hx))
theorem Ch_n {ok : List Nat → Nat → Bool} {k : Nat} (hk : k ≤ 6) : ∃ l, Ch ok 8 k [] l ∧ l.length < 600000 := by
  obtain ⟨l, h1, h2, -⟩ := Ch_all ok 8 k
  refine ⟨l, h1, ?_⟩
  have h3 : (8 + 1) ^ k ≤ 9 ^ 6 := Nat.pow_le_pow_right (by decide) hk
  have h4 : (9 : Nat) ^ 6 = 531441 := by decide
  omega
theorem okR_nil (H k : Nat) : okR H k [] := ⟨Nat.zero_le _, fun _ h => nomatch h⟩
