/-! the loops over all routes -/
theorem nx_form {ok : List Nat → Nat → Bool} {B : Nat} : ∀ (p : List Nat) (l : Nat) (p' : List Nat), nx ok B p l = some p' → ∃ h q, p' = h :: q ∧ (∃ ds, p = ds ++ q ∧ (B ≤ l → ds ≠ [])) ∧ ok q h = true ∧ h < B := by
  intro p
  induction p with
  | nil =>
    intro l p' e
    cases c : fc (ok []) (B - l) l with
    | none => rw [nx_end c] at e; cases e
    | some h =>
      rw [nx_some c] at e
      obtain ⟨f1, f2, f3, -⟩ := fc_some c
      exact ⟨h, [], (Option.some.inj e).symm, ⟨[], rfl, fun q => by omega⟩, f3, by omega⟩
  | cons x q ih =>
    intro l p' e
    cases c : fc (ok (x :: q)) (B - l) l with
    | none =>
      rw [nx_pop c] at e
      obtain ⟨h, q', e1, ⟨ds, e2, e3⟩, e4, e5⟩ := ih _ _ e
      exact ⟨h, q', e1, ⟨x :: ds, by rw [e2]; rfl, fun _ z => by cases z⟩, e4, e5⟩
    | some h =>
      rw [nx_some c] at e
      obtain ⟨f1, f2, f3, -⟩ := fc_some c
      exact ⟨h, x :: q, (Option.some.inj e).symm, ⟨[], rfl, fun q => by omega⟩, f3, by omega⟩
theorem nx_okH {N : Nat} {S : zS} {H W sh b k : Nat} (V : Vd N S) (eH : S 10 0 = nI H) (eW : S 10 1 = nI W) (hH : H ≤ 8) (hW : W ≤ 12) (hb : b < H) {p : List Nat} (o : okR H k p) {l : Nat} {p' : List Nat} (hl : p.length < k ∨ 8 ≤ l) (e : nx (okL S sh W b) 8 p l = some p') : okR H k p' := by
  obtain ⟨h, q, rfl, ⟨ds, rfl, z⟩, e3, e4⟩ := nx_form p l p' e
  have oq : ∀ x ∈ q, x < H := fun x hx => o.2 x (List.mem_append_right _ hx)
  have hq : pl b q < H := pl_lt hb oq
  refine ⟨?_, fun x hx => ?_⟩
  · have := o.1
    rw [List.length_append] at this hl
    show q.length + 1 ≤ k
    rcases hl with hl | hl
    · omega
    · have : ds.length ≠ 0 := fun q => z hl (List.length_eq_zero_iff.mp q)
      omega
  · rcases List.mem_cons.mp hx with rfl | hx
    · apply Classical.byContradiction
      intro n
      have := okL_in (sh := sh) V eH eW hH hW hq x (by omega) e4
      rw [this] at e3; cases e3
    · exact oq x hx
theorem okR_up {H k : Nat} (hH : H ≤ 8) {p : List Nat} (o : okR H k p) : okR 8 k p := ⟨o.1, fun x hx => Nat.lt_of_lt_of_le (o.2 x hx) hH⟩
/-- the class's loop -/
theorem cAll {α σ : Type} {N : Nat} {S : zS} {H W L sh b k : Nat} {t0 : zT} (dd : Sd N S H W L b t0) (hk : k ≤ 6) (G : Nat → Int32 → Int32 → σ → z_M → Option (α × z_M)) (st : List Nat → σ → σ) (out : σ → α) (Q : Nat → σ → z_M → Prop)
    (hQ : ∀ i s μ μ', FW μ μ' → Q i s μ → Q i s μ') (he : ∀ n i s μ, Q i s μ → G (n + 1) 0 (nI i) s μ = some (out s, μ))
    (hs : ∀ n i p s μ, 200 ≤ n → i < 1000000 → okR H k p → Wk μ S H W L sh b t0 p → Q i s μ → ∃ μ1, Wk μ1 S H W L sh b t0 p ∧ Q (i + 1) (st p s) μ1 ∧ KC μ μ1 ∧ G (n + 1) 1 (nI i) s μ = z_bind (f_X7_becomeNext n (nI k) μ1) (fun r => G n r.1 (nI (i + 1)) (st p s) r.2)) :
    ∀ (l : List (List Nat)) (p : List Nat) (s : σ) (i n : Nat) (μ : z_M), Ch (okL S sh W b) 8 k p l → okR H k p → i + l.length < 1000000 → l.length + 220 ≤ n → Wk μ S H W L sh b t0 p → Q i s μ → ∃ μ', G n 1 (nI i) s μ = some (out (List.foldl (fun s p => st p s) s (p :: l)), μ') ∧ KC μ μ' ∧ (∃ i', i' ≤ 1000000 ∧ Q i' (List.foldl (fun s p => st p s) s (p :: l)) μ') ∧ StC 1 μ' S := by
  intro l
  induction l with
  | nil =>
    intro p s i n μ hc o hi hn w q
    obtain ⟨m, rfl⟩ : ∃ m, n = m + 2 := ⟨n - 2, by omega⟩
    simp only [List.length_nil] at hi hn
    obtain ⟨μ1, a1, a2, a3, a4⟩ := hs (m + 1) i p s μ (by omega) (by omega) o w q
    obtain ⟨-, b2⟩ := cBN dd a1 hk o.1 (m + 1) (by omega)
    obtain ⟨μ2, c1, c2, c3⟩ := b2 hc
    refine ⟨μ2, ?_, a3.tr c3.KC, ⟨i + 1, by omega, hQ _ _ _ _ c3 a2⟩, c2⟩
    rw [a4, c1, z_bindS]
    exact he m _ _ _ (hQ _ _ _ _ c3 a2)
  | cons p' l ih =>
    intro p s i n μ hc o hi hn w q
    obtain ⟨m, rfl⟩ : ∃ m, n = m + 1 := ⟨n - 1, by omega⟩
    simp only [List.length_cons] at hi hn
    obtain ⟨μ1, a1, a2, a3, a4⟩ := hs m i p s μ (by omega) (by omega) o w q
    obtain ⟨b1, -⟩ := cBN dd a1 hk o.1 m (by omega)
    obtain ⟨hc1, hc2⟩ := hc
    obtain ⟨μ2, c1, c2, c3⟩ := b1 p' hc1
    obtain ⟨V, eH, eW, hH, hW, eb, hb, -⟩ := dd
    have o' := nx_okH V eH eW hH hW hb o (lst_ok 8 k p) hc1
    obtain ⟨μ3, d1, d2, d3, d4⟩ := ih p' (st p s) (i + 1) m μ2 hc2 o' (by omega) (by omega) c2 (hQ _ _ _ _ c3 a2)
    refine ⟨μ3, ?_, (a3.tr c3.KC).tr d2, d3, d4⟩
    rw [a4, c1, z_bindS]
    exact d1
theorem fold_id {σ : Type} {st : List Nat → σ → σ} {s : σ} : ∀ (l : List (List Nat)), (∀ r ∈ l, st r s = s) → List.foldl (fun s p => st p s) s l = s := by
  intro l
  induction l with
  | nil => intro _; rfl
  | cons r l ih =>
    intro h
    rw [List.foldl_cons, h r (List.mem_cons_self ..)]
    exact ih (fun x hx => h x (List.mem_cons_of_mem _ hx))
/-- the reference's loop -/
theorem mAll {α σ : Type} {N : Nat} {S : zS} {H W g sh k b : Nat} {t0 : zT} (D : Md N S H W g sh b t0) (hk : k ≤ 6) (G B : Nat → σ → z_M → Option (α × z_M)) (fin : Nat → σ → z_M → Option (α × z_M)) (st : List Nat → σ → σ) (Q : σ → z_M → Prop) (I : List Nat → Prop) (cut : List Nat → σ → Prop)
    (hQ : ∀ s ν ν', FM ν ν' → Q s ν → Q s ν') (hG : ∀ n s ν, G (n + 1) s ν = z_bind (f_X9_hasNext n ν) (fun r => if r.1 = 0 then fin n s r.2 else B n s r.2))
    (hB : ∀ n p s ν, 100 ≤ n → okR H k p → I p → Hs ν S H W g sh k b t0 p → ν.1 0 29 = 0 → Q s ν → ∃ ν1, Hs ν1 S H W g sh k b t0 p ∧ Q (st p s) ν1 ∧ ν1.1 18 p.length = ν.1 18 p.length ∧ ν1.1 0 28 = ν.1 0 28 ∧ (cut p (st p s) → ¬ ν1.1 0 29 = 0) ∧ (¬ cut p (st p s) → ν1.1 0 29 = 0) ∧ KM ν ν1 ∧ B n s ν = G n (st p s) ν1)
    (hI : ∀ p s h q ds, I p → p = ds ++ q → (cut p s → ds ≠ []) → I (h :: q))
    (hcut : ∀ p s h es, cut p (st p s) → st (h :: es ++ p) (st p s) = st p s) :
    ∀ (m : Nat) (l : List (List Nat)) (p : List Nat) (s : σ) (n : Nat) (ν : z_M), l.length ≤ m → Ch (okL S sh W b) 8 k p l → okR H k p → I p → m + 120 ≤ n → Hs ν S H W g sh k b t0 p → ν.1 18 p.length = nI 0 → ν.1 0 28 = 1 → ν.1 0 29 = 0 → Q s ν → ∃ n' ν', B n s ν = fin n' (List.foldl (fun s p => st p s) s (p :: l)) ν' ∧ n ≤ n' + m + 1 ∧ KM ν ν' ∧ Q (List.foldl (fun s p => st p s) s (p :: l)) ν' := by
  intro m
  induction m with
  | zero =>
    intro l p s n ν hl hc o i hn w c18 c28 c29 q
    have : l = [] := List.length_eq_zero_iff.mp (by omega)
    subst this
    obtain ⟨n, rfl⟩ : ∃ m, n = m + 1 := ⟨n - 1, by omega⟩
    obtain ⟨ν1, a1, a2, a3, a4, a5, a6, a7, a8⟩ := hB (n + 1) p s ν (by omega) o i w c29 q
    obtain ⟨-, b2⟩ := mHN D hk o a1 (a4.trans c28) (a3.trans c18) (cut p (st p s)) ⟨a5, a6⟩ n (by omega)
    have e : nx (okL S sh W b) 8 p (@ite _ (p.length = k ∨ cut p (st p s)) (Classical.propDecidable _) 8 0) = none := by
      by_cases z : cut p (st p s)
      · rw [if_pos (Or.inr z)]
        obtain ⟨l1, l2, h1, h2, h3⟩ := Ch_skip (ok := okL S sh W b) (B := 8) (k := k) (p := p) [] [] (okR_up D.2.2.2.1 o) hc
        have : l2 = [] := by
          cases l2 with
          | nil => rfl
          | cons x y => exact absurd (congrArg List.length h1) (by simp)
        subst this
        exact h3
      · have hc' : nx (okL S sh W b) 8 p (lst 8 k p) = none := hc
        unfold lst at hc'
        by_cases z2 : p.length = k
        · rw [if_pos (Or.inl z2)]; rw [if_neg (by omega)] at hc'; exact hc'
        · rw [if_neg (fun x => x.elim z2 z)]; rw [if_pos (by have := o.1; omega)] at hc'; exact hc'
    obtain ⟨ν', c1, c2⟩ := b2 e
    refine ⟨n, ν', ?_, by omega, a7.tr c2.KM, hQ _ _ _ c2 a2⟩
    rw [a8, hG, c1, z_bindS, if_pos rfl]
    rfl
  | succ m ih =>
    intro l p s n ν hl hc o i hn w c18 c28 c29 q
    obtain ⟨n, rfl⟩ : ∃ m, n = m + 1 := ⟨n - 1, by omega⟩
    obtain ⟨ν1, a1, a2, a3, a4, a5, a6, a7, a8⟩ := hB (n + 1) p s ν (by omega) o i w c29 q
    obtain ⟨b1, b2⟩ := mHN D hk o a1 (a4.trans c28) (a3.trans c18) (cut p (st p s)) ⟨a5, a6⟩ n (by omega)
    have D' := D
    obtain ⟨V, eH, eW, hH, hW, hb, hg1, hg3, hs, h4⟩ := D
    -- the rest of the list
    obtain ⟨l2, f1, f2, f3⟩ : ∃ l2, l2.length ≤ l.length ∧ List.foldl (fun s p => st p s) (st p s) l = List.foldl (fun s p => st p s) (st p s) l2 ∧ (match l2 with | [] => nx (okL S sh W b) 8 p (@ite _ (p.length = k ∨ cut p (st p s)) (Classical.propDecidable _) 8 0) = none | p' :: l3 => nx (okL S sh W b) 8 p (@ite _ (p.length = k ∨ cut p (st p s)) (Classical.propDecidable _) 8 0) = some p' ∧ Ch (okL S sh W b) 8 k p' l3) := by
      by_cases z : cut p (st p s)
      · obtain ⟨l1, l2, h1, h2, h3⟩ := Ch_skip (ok := okL S sh W b) (B := 8) (k := k) (p := p) l [] (okR_up hH o) hc
        refine ⟨l2, by rw [h1, List.length_append]; omega, ?_, ?_⟩
        · rw [h1, List.foldl_append, fold_id l1 (fun r hr => ?_)]
          obtain ⟨h, es, rfl⟩ := h2 r hr
          exact hcut p s h es z
        · rw [if_pos (Or.inr z)]; exact h3
      · refine ⟨l, Nat.le_refl _, rfl, ?_⟩
        have ee : (@ite _ (p.length = k ∨ cut p (st p s)) (Classical.propDecidable _) 8 0) = lst 8 k p := by
          unfold lst
          have := o.1
          by_cases z2 : p.length = k
          · rw [if_pos (Or.inl z2), if_neg (by omega)]
          · rw [if_neg (fun x => x.elim z2 z), if_pos (by omega)]
        rw [ee]
        cases l with
        | nil => exact hc
        | cons p' l3 => exact hc
    rw [show List.foldl (fun s p => st p s) s (p :: l) = List.foldl (fun s p => st p s) (st p s) l from rfl, f2]
    cases l2 with
    | nil =>
      obtain ⟨ν', c1, c2⟩ := b2 f3
      refine ⟨n, ν', ?_, by omega, a7.tr c2.KM, hQ _ _ _ c2 a2⟩
      rw [a8, hG, c1, z_bindS, if_pos rfl]
      rfl
    | cons p' l3 =>
      obtain ⟨f3, f4⟩ := f3
      obtain ⟨ν', c1, c2, c3, c4, c5, c6⟩ := b1 p' f3
      have hl' : p.length < k ∨ 8 ≤ (@ite _ (p.length = k ∨ cut p (st p s)) (Classical.propDecidable _) 8 0) := by
        have := o.1
        by_cases z2 : p.length = k ∨ cut p (st p s)
        · rw [if_pos z2]; exact Or.inr (Nat.le_refl _)
        · exact Or.inl (by have : ¬ p.length = k := fun e => z2 (Or.inl e); omega)
      have o' := nx_okH V eH eW hH hW hb o hl' f3
      have i' : I p' := by
        obtain ⟨h, q, e1, ⟨ds, e2, e3⟩, -⟩ := nx_form p _ p' f3
        rw [e1]
        exact hI p (st p s) h q ds i e2 (fun z => e3 (by rw [if_pos (Or.inr z)]; exact Nat.le_refl _))
      simp only [List.length_cons] at f1
      obtain ⟨n', ν2, d1, d2, d3, d4⟩ := ih l3 p' (st p s) n ν' (by omega) f4 o' i' (by omega) c2 c3 c4 c5 (hQ _ _ _ c6 a2)
      refine ⟨n', ν2, ?_, by omega, (a7.tr c6.KM).tr d3, d4⟩
      rw [a8, hG, c1, z_bindS, if_neg (show ¬ (1 : Int32) = 0 by decide)]
      exact d1
