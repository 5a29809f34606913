/-! a street read from a text -/
theorem It.wc {N : Nat} {x : Nat → Int32} {m s q : Nat} {μ ν : z_M} {F : Option (Unit × z_M)} {G : Option (Int32 × z_M)} (h : It N x m s q μ ν F G) : It N x m s q μ ν (z_bind F (fun p => some ((), p.2))) G := by
  rcases h with ⟨μ', ν', S', q', h1, h⟩ | ⟨μ', ν', h1, h⟩
  · exact Or.inl ⟨μ', ν', S', q', by rw [h1, z_bindS], h⟩
  · exact Or.inr ⟨μ', ν', by rw [h1, z_bindS], h⟩
theorem It.wm {N : Nat} {x : Nat → Int32} {m s q : Nat} {μ ν : z_M} {F : Option (Unit × z_M)} {G : Option (Int32 × z_M)} (h : It N x m s q μ ν F G) : It N x m s q μ ν F (z_bind G (fun p => z_bool p.1 (some (p.1, p.2)))) := by
  rcases h with ⟨μ', ν', S', q', h1, h2, h⟩ | ⟨μ', ν', h1, h2, h⟩
  · exact Or.inl ⟨μ', ν', S', q', h1, by rw [h2, z_bindS, z_boolE (Or.inr rfl)], h⟩
  · exact Or.inr ⟨μ', ν', h1, by rw [h2, z_bindS, z_boolE (Or.inl rfl)], h⟩
theorem rdItem {N : Nat} {x : Nat → Int32} {m s q : Nat} {μ ν : z_M} {S : zS} (hN : 0 < N) (r : Rn N x m s μ ν S q) (n : Nat) (hn : 20 ≤ n) : It N x m s q μ ν (f_X3_readItem n μ) (f_X9_takesItem n ν) := by
  have a := cLetter r
  have b := mLetter r
  have e4 := r.2.2.2.2.2.2.1
  have e3 := r.2.2.2.2.2.2.2.1
  have e38 := r.2.2.2.2.2.2.2.2.1
  have hq : q < 2 ^ 31 := by have := r.2.2.2.2.2.2.2.2.2; have := r.1.1; omega
  have tr : ∀ c : Int32, c ≠ 0 → c ≠ -1 → ((if q < m then x q else 0) = c ↔ (if q < m then x q else -1) = c) := by
    intro c h0 h1
    by_cases z : q < m
    · rw [if_pos z, if_pos z]
    · rw [if_neg z, if_neg z]
      exact ⟨fun h => absurd h.symm h0, fun h => absurd h.symm h1⟩
  generalize (if q < m then x q else -1) = lm at b tr
  generalize (if q < m then x q else 0) = lc at a tr
  unfold f_X3_readItem f_X9_takesItem
  rw [e4, if_pos rfl, a, b, z_bindS]
  dsimp only
  by_cases c1 : lm = 98
  · rw [if_pos ((tr 98 (by decide) (by decide)).2 c1), if_pos c1]
    exact (rdBird r n hn).wc
  rw [if_neg (fun h => c1 ((tr 98 (by decide) (by decide)).1 h)), if_neg c1]
  by_cases c2 : lm = 104
  · rw [if_pos ((tr 104 (by decide) (by decide)).2 c2), if_pos c2]
    exact (rdHouse hN r n hn).wc.wm
  rw [if_neg (fun h => c2 ((tr 104 (by decide) (by decide)).1 h)), if_neg c2]
  by_cases c3 : lm = 108
  · rw [if_pos ((tr 108 (by decide) (by decide)).2 c3), if_pos c3]
    exact (rdLag r n hn).wc
  rw [if_neg (fun h => c3 ((tr 108 (by decide) (by decide)).1 h)), if_neg c3]
  by_cases c4 : lm = 115
  · rw [if_pos ((tr 115 (by decide) (by decide)).2 c4), if_pos c4]
    exact (rdShut r n hn).wc
  rw [if_neg (fun h => c4 ((tr 115 (by decide) (by decide)).1 h)), if_neg c4]
  by_cases c5 : lm = 119
  · rw [if_pos ((tr 119 (by decide) (by decide)).2 c5), if_pos c5]
    exact (rdWay r n hn).wc.wm
  rw [if_neg (fun h => c5 ((tr 119 (by decide) (by decide)).1 h)), if_neg c5]
  refine Or.inr ⟨z_sI μ 45 4 (nI q), ν, ?_, rfl, ⟨q, hq, ?_, e38⟩, (FS.rf μ).sI (by omega), FT.rf ν⟩
  · rw [e3, dofail e4, z_letE]
  · rw [sI1, if_pos ⟨rfl, rfl⟩]
/-- the items after the first -/
theorem rdLoop {N : Nat} {x : Nat → Int32} {m s : Nat} (hN : 0 < N) : ∀ (d i q n : Nat) (μ ν : z_M) (S : zS), m ≤ q + d → i + 1 ≤ q → 102 + d ≤ n → Rn N x m s μ ν S q →
    (∃ t μ' ν' S' n2, f_X3_readItems_h60 n (nI m) (nI (i + 1)) (nI i) μ = some (nI t, μ') ∧ 100 ≤ n2 ∧ f_X9_street_h53 n (nI s) (nI (i + 1)) 1 ν = f_X9_street_b110 n2 (nI t) 1 ν' ∧ Rn N x m s μ' ν' S' m ∧ FS μ μ' ∧ FT ν ν') ∨
    ∃ t t' μ' ν' n2, f_X3_readItems_h60 n (nI m) (nI (i + 1)) (nI i) μ = some (t, μ') ∧ 100 ≤ n2 ∧ f_X9_street_h53 n (nI s) (nI (i + 1)) 1 ν = f_X9_street_b110 n2 t' 0 ν' ∧ Bd μ' ν' ∧ FS μ μ' ∧ FT ν ν' := by
  intro d
  induction d with
  | zero =>
    intro i q n μ ν S hd hi hn r
    obtain ⟨k, rfl⟩ : ∃ k, n = k + 1 := ⟨n - 1, by omega⟩
    have e4 := r.2.2.2.2.2.2.1
    have e3 := r.2.2.2.2.2.2.2.1
    have e38 := r.2.2.2.2.2.2.2.2.1
    have hq := r.2.2.2.2.2.2.2.2.2
    have hm := r.1.1
    obtain rfl : q = m := by omega
    refine Or.inl ⟨i + 1, μ, ν, S, k, ?_, by omega, ?_, r, FS.rf μ, FT.rf ν⟩
    · rw [f_X3_readItems_h60, if_pos (nI_lt (by omega) (by omega)), e4, if_pos rfl, e3, if_neg (nI_nlt (by omega) (by omega))]
    · rw [f_X9_street_h53, if_neg (show ¬ (1 : Int32) = 0 by decide), z_chkN r.1.2.1 (by decide), z_ixN (by have := r.1.2.1; omega), e38, r.1.2.2.2.2.1, if_neg (nI_nlt (by omega) (by omega))]
  | succ d ih =>
    intro i q n μ ν S hd hi hn r
    obtain ⟨k, rfl⟩ : ∃ k, n = k + 1 := ⟨n - 1, by omega⟩
    have e4 := r.2.2.2.2.2.2.1
    have e3 := r.2.2.2.2.2.2.2.1
    have e38 := r.2.2.2.2.2.2.2.2.1
    have hq := r.2.2.2.2.2.2.2.2.2
    have hm := r.1.1
    by_cases c : q < m
    · have C : f_X3_readItems_h60 (k + 1) (nI m) (nI (i + 1)) (nI i) μ = z_bind (f_X3_readItem k (f_X3_readLetter 59 μ)) (fun p8 => f_X3_readItems_h60 k (nI m) (nI (i + 1 + 1)) (nI (i + 1)) p8.2) := by
        rw [f_X3_readItems_h60, if_pos (nI_lt (by omega) (by omega)), e4, if_pos rfl, e3, if_pos (nI_lt c (by omega)), z_letE, i_succ, i_succ]
      have M : f_X9_street_h53 (k + 1) (nI s) (nI (i + 1)) 1 ν = z_bind (f_X9_takes 59 ν) (fun p10 => if p10.1 = 0 then (f_X9_street_b91 (f_X9_street_h53 k) k (nI s) (nI (i + 1)) p10.2) else (z_bind (f_X9_takesItem k p10.2) (fun p12 => if p12.1 = 0 then (f_X9_street_b91 (f_X9_street_h53 k) k (nI s) (nI (i + 1)) p12.2) else (f_X9_street_b92 (f_X9_street_h53 k) k (nI s) (nI (i + 1)) 1 p12.2)))) := by
        rw [f_X9_street_h53, if_neg (show ¬ (1 : Int32) = 0 by decide), z_chkN r.1.2.1 (by decide), z_ixN (by have := r.1.2.1; omega), e38, r.1.2.2.2.2.1, if_pos (nI_lt c (by omega))]
      obtain ⟨k', rfl⟩ : ∃ k', k = k' + 1 := ⟨k - 1, by omega⟩
      have bad : ∀ ν', f_X9_street_b91 (f_X9_street_h53 (k' + 1)) (k' + 1) (nI s) (nI (i + 1)) ν' = f_X9_street_b110 k' (nI (i + 1) + 0) 0 ν' := by
        intro ν'
        unfold f_X9_street_b91 f_X9_street_b92 f_X9_street_b105
        rw [if_pos rfl, z_letE, f_X9_street_h53, if_pos rfl]
      have stop : ∀ μ' f, f < 2 ^ 31 → μ'.1 45 4 = nI f → f_X3_readItems_h60 (k' + 1) (nI m) (nI (i + 1 + 1)) (nI (i + 1)) μ' = some (nI (i + 1 + 1), μ') := by
        intro μ' f hf h
        rw [f_X3_readItems_h60, h, if_neg (notm1 hf)]
        split <;> rfl
      rcases rdL r (c := 59) (by decide) (by decide) with ⟨a1, a2, a3, a4⟩ | ⟨a3, a4⟩
      · obtain ⟨r', f, t⟩ := r.step c
        rw [C, M, a3, a4, z_bindS]
        dsimp only
        rw [if_neg (show ¬ (1 : Int32) = 0 by decide)]
        rcases rdItem hN r' (k' + 1) (by omega) with ⟨μ2, ν2, S2, q2, g1, g2, r2, hq2, f2, t2⟩ | ⟨μ2, ν2, g1, g2, ⟨fl, hfl, b4, b38⟩, f2, t2⟩
        · rw [g1, g2, z_bindS, z_bindS]
          dsimp only
          have st : f_X9_street_b92 (f_X9_street_h53 (k' + 1)) (k' + 1) (nI s) (nI (i + 1)) 1 ν2 = f_X9_street_h53 (k' + 1) (nI s) (nI (i + 1 + 1)) 1 ν2 := by
            unfold f_X9_street_b92 f_X9_street_b105
            rw [if_neg (show ¬ (1 : Int32) = 0 by decide), z_letE, i_succ]
          rw [if_neg (show ¬ (1 : Int32) = 0 by decide), st]
          rcases ih (i + 1) q2 (k' + 1) μ2 ν2 S2 (by omega) (by omega) (by omega) r2 with ⟨t', μ', ν', S', n2, h1, h2, h3, h4, h5, h6⟩ | ⟨t', t'', μ', ν', n2, h1, h2, h3, h4, h5, h6⟩
          · exact Or.inl ⟨t', μ', ν', S', n2, h1, h2, h3, h4, f.tr (f2.tr h5), t.tr (t2.tr h6)⟩
          · exact Or.inr ⟨t', t'', μ', ν', n2, h1, h2, h3, h4, f.tr (f2.tr h5), t.tr (t2.tr h6)⟩
        · rw [g1, g2, z_bindS, z_bindS]
          dsimp only
          rw [if_pos rfl, bad, stop μ2 fl hfl b4]
          exact Or.inr ⟨_, _, μ2, ν2, k', rfl, by omega, rfl, ⟨fl, hfl, b4, b38⟩, f.tr f2, t.tr t2⟩
      · have hq31 : q < 2 ^ 31 := by omega
        have b4 : (z_sI μ 45 4 (nI q)).1 45 4 = nI q := by rw [sI1, if_pos ⟨rfl, rfl⟩]
        have g1 : f_X3_readItem (k' + 1) (z_sI μ 45 4 (nI q)) = some ((), z_sI μ 45 4 (nI q)) := by
          unfold f_X3_readItem
          rw [b4, if_neg (notm1 hq31)]
        rw [C, M, a3, a4, z_bindS, g1, z_bindS]
        dsimp only
        rw [if_pos rfl, bad, stop _ q hq31 b4]
        exact Or.inr ⟨_, _, z_sI μ 45 4 (nI q), ν, k', rfl, by omega, rfl, ⟨q, hq31, b4, e38⟩, (FS.rf μ).sI (by omega), FT.rf ν⟩
    · obtain rfl : q = m := by omega
      refine Or.inl ⟨i + 1, μ, ν, S, k, ?_, by omega, ?_, r, FS.rf μ, FT.rf ν⟩
      · rw [f_X3_readItems_h60, if_pos (nI_lt (by omega) (by omega)), e4, if_pos rfl, e3, if_neg (nI_nlt (by omega) (by omega))]
      · rw [f_X9_street_h53, if_neg (show ¬ (1 : Int32) = 0 by decide), z_chkN r.1.2.1 (by decide), z_ixN (by have := r.1.2.1; omega), e38, r.1.2.2.2.2.1, if_neg (nI_nlt (by omega) (by omega))]
/-! more turns do no harm -/
theorem ckMono {α : Type} {i : Int32} {n : Nat} {X Y : Option α} {r : α} (f : X = some r → Y = some r) (h : z_chk i n X = some r) : z_chk i n Y = some r := by
  unfold z_chk at h ⊢
  by_cases c : 0 ≤ i.toInt ∧ i.toInt < n
  · rw [if_pos c] at h ⊢; exact f h
  · rw [if_neg c] at h; cases h
theorem bdMono {α β : Type} {F F' : Option α} {f f' : α → Option β} {w : β} (h1 : ∀ v, F = some v → F' = some v) (h2 : ∀ v, f v = some w → f' v = some w) (h : z_bind F f = some w) : z_bind F' f' = some w := by
  obtain ⟨v, e1, e2⟩ := z_bind_some h
  rw [h1 v e1, z_bindS, h2 v e2]
theorem psMonoH {a k : Nat} : ∀ (n n' : Nat), n ≤ n' → ∀ v i μ r, f_X9_passes_h2 a k n v i μ = some r → f_X9_passes_h2 a k n' v i μ = some r := by
  intro n
  induction n with
  | zero => intro n' hn v i μ r h; exact absurd h (by rw [f_X9_passes_h2]; exact fun e => by cases e)
  | succ n ih =>
    intro n' hn v i μ r h
    obtain ⟨m', rfl⟩ : ∃ m', n' = m' + 1 := ⟨n' - 1, by omega⟩
    rw [f_X9_passes_h2] at h ⊢
    unfold f_X9_passes_b41 at h ⊢
    simp only [z_letE] at h ⊢
    by_cases c : i < v
    · rw [if_pos c] at h ⊢
      by_cases d : μ.1 0 43 = 0
      · rw [if_pos d] at h ⊢
        exact ckMono (ckMono (ih m' (by omega) _ _ _ _)) h
      · rw [if_neg d] at h ⊢
        exact ckMono (ckMono (ih m' (by omega) _ _ _ _)) h
    · rw [if_neg c] at h ⊢
      exact h
theorem psMono {a k n n' : Nat} (hn : n ≤ n') {v : Int32} {μ : z_M} (r : Unit × z_M) (h : f_X9_passes a k n v μ = some r) : f_X9_passes a k n' v μ = some r := psMonoH n n' hn _ _ _ _ h
theorem passMono {a b : Int32} (hb : b = 0 ∨ b = 1) {n n' : Nat} (hn : n ≤ n') {μ : z_M} {r : Unit × z_M} (h : f_X9_passesAll n a b μ = some r) : f_X9_passesAll n' a b μ = some r := by
  unfold f_X9_passesAll at h ⊢
  rw [z_letE, z_boolE hb, z_letE] at h ⊢
  refine bdMono (psMono hn) (fun v h => ?_) h
  refine bdMono (psMono hn) (fun v h => ?_) h
  refine bdMono (psMono hn) (fun v h => ?_) h
  refine bdMono (psMono hn) (fun v h => ?_) h
  refine bdMono (psMono hn) (fun v h => ?_) h
  refine bdMono (psMono hn) (fun v h => ?_) h
  refine bdMono (psMono hn) (fun v h => ?_) h
  refine bdMono (psMono hn) (fun v h => ?_) h
  refine bdMono (psMono hn) (fun v h => ?_) h
  refine bdMono (psMono hn) (fun v h => ?_) h
  refine bdMono (psMono hn) (fun v h => ?_) h
  refine bdMono (psMono hn) (fun v h => ?_) h
  exact h
/-! the whole call -/
theorem Rr.fault {N : Nat} {μ ν : z_M} (h : Rr N μ ν) (v : Int32) : Rr N (z_sI μ 0 9 v) (z_sI ν 0 36 v) := by
  obtain ⟨⟨S, a1, a2, a3, a4, a5⟩, hI, hH, hF, hL, ⟨⟨r, b1, b2, b3⟩, b4⟩, hz⟩ := h
  refine ⟨⟨S, a1.same (fun j => rfl) (fun j => rfl) (fun j => rfl) (fun j => rfl), a2.mv (by omega), a3, by rw [sI1, if_neg (by omega)]; exact a4, by rw [sI1, if_neg (by omega)]; exact a5⟩, hI.same (fun j => ⟨rfl, rfl, rfl, rfl⟩) (by rw [sI1, if_neg (by omega)]) (fun j hj => rfl) (by rw [sI1, if_neg (by omega)]), hH.same (fun j => ⟨rfl, rfl⟩) rfl (fun j => ⟨rfl, rfl, rfl⟩) rfl, fun i hi => hF i hi, ?_, ⟨⟨r, b1, b2, by rw [sI1, if_neg (by omega)]; exact b3⟩, fun i hi => b4 i hi⟩, hz⟩
  rw [sI1, if_pos ⟨rfl, rfl⟩, sI1, if_pos ⟨rfl, rfl⟩]
theorem Rr.back2 {N : Nat} {μ ν μ' ν1 : z_M} {S : zS} (R : Rr N μ ν) (hc : StC 1 μ' S) (hk : StK ν1 200 S) (V : Vd N S) (c : KX μ μ') (d : KY ν ν1) (m24 : ν1.1 0 24 = 0) : ∃ ν', f_X9_passesAll 100 1 0 ν1 = some ((), ν') ∧ Rr N μ' ν' := by
  obtain ⟨ν', u, z, fr, h2, h3, h4, h5, h6, h7, h8, h9, h10, h11, h13, h14, f0, f1, f2, f3, f4, f5, f6⟩ := mPassB (o := 200) (w := 1) rfl (by omega) ν1
  have fr' : ∀ k j, k ≠ 2 → k ≠ 3 → k ≠ 4 → k ≠ 5 → k ≠ 6 → k ≠ 7 → k ≠ 8 → k ≠ 9 → k ≠ 10 → k ≠ 11 → k ≠ 13 → k ≠ 14 → (k ≠ 0 ∨ (j < 8 ∨ (13 < j ∧ j ≠ 23 ∧ j ≠ 43 ∧ j ≠ 44))) → ν'.1 k j = ν1.1 k j := fun k j a1 a2 a3 a4 a5 a6 a7 a8 a9 a10 a11 a12 q => fr k j (Or.inl a1) (Or.inl a2) (Or.inl a3) (Or.inl a4) (Or.inl a5) (Or.inl a6) (Or.inl a7) (Or.inl a8) (Or.inl a9) (Or.inl a10) (Or.inl a11) (Or.inl a12) q
  have t2 := StM.of hk h2 h3 h4 h5 h6 h7 h8 h9 h10 h11 h13 h14 f0 f1 f2 f3 f4 f5
  have ky : KY ν1 ν' := by
    refine ⟨fun k j q => ?_, by rw [z]⟩
    unfold LY at q
    rcases q with ⟨q0, q | q | q⟩ | q0 | q0 | q0 | q0 | ⟨q0, q⟩ | q0 <;> exact fr' k j (by omega) (by omega) (by omega) (by omega) (by omega) (by omega) (by omega) (by omega) (by omega) (by omega) (by omega) (by omega) (by omega)
  refine ⟨ν', u, R.street (Nat.le_refl N) ⟨S, hc, t2, V, ?_, ?_⟩ c (d.tr ky)⟩
  · rw [f6]; exact hk.2.2.2.2.2.1
  · rw [fr' 0 24 (by decide) (by decide) (by decide) (by decide) (by decide) (by decide) (by decide) (by decide) (by decide) (by decide) (by decide) (by decide) (by omega)]; exact m24
theorem rdFill {ν : z_M} {s t m : Nat} (hs : s < 8) (hm : m ≤ 160) (n : Nat) {μ : z_M} (D : RowD μ ν s t m) : ∀ (d j : Nat) (μ' : z_M), j + d = 160 → (∀ k, k ≠ 47 → μ'.1 k = μ.1 k) → μ'.2 = μ.2 → (∀ i, i < j → μ'.1 47 i = if i < m then Int64.toInt32 (ν.2 22 (160 * s + i)) else 0) → ∃ μ'', f_X3_readItems_h11 (n + 1 + d) (nI s) (nI m) (nI j) μ' = f_X3_readItems_h11 (n + 1) (nI s) (nI m) (nI 160) μ'' ∧ (∀ k, k ≠ 47 → μ''.1 k = μ.1 k) ∧ μ''.2 = μ.2 ∧ ∀ i, i < 160 → μ''.1 47 i = if i < m then Int64.toInt32 (ν.2 22 (160 * s + i)) else 0 := by
  intro d
  induction d with
  | zero =>
    intro j μ' hj h1 h2 h3
    obtain rfl : j = 160 := by omega
    exact ⟨μ', rfl, h1, h2, h3⟩
  | succ d ih =>
    intro j μ' hj h1 h2 h3
    have D' : RowD μ' ν s t m := ⟨D.1, by rw [h1 25 (by decide)]; exact D.2.1, D.2.2.1, by rw [h1 27 (by decide)]; exact D.2.2.2.1, by rw [h2]; exact D.2.2.2.2⟩
    have g : f_X5_intAt (nI s) (nI j) μ' = some ((if j < m then Int64.toInt32 (ν.2 22 (160 * s + j)) else 0), μ') := by
      by_cases c : j < m
      · rw [if_pos c]; exact cInt hs hm D' c
      · rw [if_neg c]
        unfold f_X5_intAt
        rw [cElN (by unfold f_X5_hasElement; rw [g_getN hs (by decide), D'.2.2.2.1, if_neg (nI_pos (by omega)), if_neg (nI_nlt (by omega) (by omega))]), z_bindS]
        rfl
    have e : f_X3_readItems_h11 (n + 1 + d + 1) (nI s) (nI m) (nI j) μ' = f_X3_readItems_h11 (n + 1 + d) (nI s) (nI m) (nI (j + 1)) (z_sI μ' 47 j (if j < m then Int64.toInt32 (ν.2 22 (160 * s + j)) else 0)) := by
      rw [f_X3_readItems_h11, if_pos (show nI j < (160 : Int32) from nI_lt (b := 160) (by omega) (by omega)), g, z_bindS]
      dsimp only
      rw [g_putN (by omega) (by decide), z_letE, i_succ]
    rw [show n + 1 + (d + 1) = n + 1 + d + 1 by omega, e]
    refine ih (j + 1) _ (by omega) (fun k hk => ?_) h2 (fun i hi => ?_)
    · rw [sI1f hk]; exact h1 k hk
    · rw [sI1]
      by_cases c : i = j
      · rw [if_pos ⟨rfl, c⟩, c]
      · rw [if_neg (fun h => c h.2)]; exact h3 i (by omega)
theorem ag_street {N : Nat} {μ ν : z_M} (R : Rr N μ ν) (hN : 0 < N) (a : Int32) : Ag N (fun n => f_X8_street n a μ) (fun n => f_X9_street n a ν) := by
  obtain ⟨S, H, W, g, O⟩ := R.1.op
  obtain ⟨⟨s1, s2, V⟩, ⟨hH, hW, hg1, hg3⟩, ⟨eH, eW, eg⟩, ⟨c3, c4, c5, c6⟩, ⟨m8, m9, m10, mb, m23, m24⟩, hb⟩ := O
  rcases dRow R.2.2.1 a with ⟨t, h1, h3, e1, e2⟩ | ⟨s, t, m, hs, ht, hm, rfl, e1, e2, D⟩
  · unfold f_X8_street f_X9_street
    rw [e1, e2]
    simp only [z_letE, z_bindS, if_neg (refNe t h1 (show t ≤ 7 by omega)), refC t h1 (show t ≤ 7 by omega), refM t h1 (show t ≤ 7 by omega)]
    exact ⟨_, _, _, ⟨0, rfl⟩, ⟨0, rfl⟩, R.refuse t⟩
  · obtain ⟨b1, b2, b3⟩ := cBecome (q := 15) s1 (by omega)
    obtain ⟨m0, em0⟩ : ∃ m0, m0 = f_X6_becomeAs 15 1 μ := ⟨_, rfl⟩
    rw [← em0] at b1 b2 b3
    have D0 : RowD m0 ν s t m := ⟨D.1, by rw [b2 25 (by decide) (by decide) (by decide) (by decide)]; exact D.2.1, D.2.2.1, by rw [b2 27 (by decide) (by decide) (by decide) (by decide)]; exact D.2.2.2.1, by rw [b3]; exact D.2.2.2.2⟩
    obtain ⟨m1, g1, g2, g3, g4⟩ := rdFill hs hm 299 D0 160 0 m0 rfl (fun _ _ => rfl) rfl (fun i hi => absurd hi (by omega))
    obtain ⟨m2, em2⟩ : ∃ m2, m2 = z_sI (z_sI m1 45 3 0) 45 4 (-1) := ⟨_, rfl⟩
    have C0 : f_X3_readItems 460 (nI s) m0 = z_bind (f_X3_readItem 299 m2) (fun p6 => f_X3_readItems_h60 299 (nI m) (nI 1) (nI 0) p6.2) := by
      have g1' : f_X3_readItems_h11 460 (nI s) (nI m) 0 m0 = f_X3_readItems_h11 (299 + 1) (nI s) (nI m) (nI 160) m1 := g1
      unfold f_X3_readItems
      rw [show f_X5_size (nI s) m0 = nI m from by unfold f_X5_size; rw [g_getN hs (by decide)]; exact D0.2.2.2.1, z_letE, g1', f_X3_readItems_h11, if_neg (show ¬ nI 160 < (160 : Int32) by decide), z_letE, z_letE, em2]
      rfl
    have kx : KX μ m2 := by
      refine ⟨fun k j q => ?_, by rw [em2]; exact g3.trans b3⟩
      unfold LX at q
      rw [em2, sI1, if_neg (by omega), sI1, if_neg (by omega), g2 k (by omega), b2 k (by omega) (by omega) (by omega) (by omega)]
    have k1 : ∀ k j, k = 1 ∨ k = 3 ∨ k = 5 ∨ k = 7 → m2.1 k j = μ.1 k j := by
      intro k j q
      rw [em2, sI1, if_neg (by omega), sI1, if_neg (by omega), g2 k (by omega), b2 k (by omega) (by omega) (by omega) (by omega)]
    have k15 : ∀ k j, k = 15 ∨ k = 17 ∨ k = 19 ∨ k = 21 → m2.1 k j = m0.1 k j := by
      intro k j q
      rw [em2, sI1, if_neg (by omega), sI1, if_neg (by omega), g2 k (by omega)]
    obtain ⟨n1, en1⟩ : ∃ n1, n1 = z_sI (z_sI ν 0 37 (nI s)) 0 38 0 := ⟨_, rfl⟩
    have s2' : StM n1 S := by rw [en1]; exact (s2.mv (by omega)).mv (by omega)
    obtain ⟨n2, u, z, fr, kf, h2, h3, h4, h5, h6, h7, h8, h9, h10, h11, h13, h14, f0, f1, f2, f3, f4, f5, f6⟩ := mPassK (o := 200) (w := 1) rfl (by omega) n1
    have hk : StK n2 200 S := StK.of s2' h2 h3 h4 h5 h6 h7 h8 h9 h10 h11 h13 h14 f0 f1 f2 f3 f4 f5
    have n10 : n1.1 0 10 = nI g := by rw [en1, sI1, if_neg (by omega), sI1, if_neg (by omega)]; exact m10
    have n23 : n1.1 0 23 = nI g := by rw [en1, sI1, if_neg (by omega), sI1, if_neg (by omega)]; exact m23
    have n24 : n1.1 0 24 = 0 := by rw [en1, sI1, if_neg (by omega), sI1, if_neg (by omega)]; exact m24
    have n37 : n1.1 0 37 = nI s := by rw [en1, sI1, if_neg (by omega), sI1, if_pos ⟨rfl, rfl⟩]
    have n38 : n1.1 0 38 = nI 0 := by rw [en1, sI1, if_pos ⟨rfl, rfl⟩]; rfl
    have km : KM n1 n2 := by
      refine ⟨fun k j q => ?_, by rw [z]⟩
      by_cases w : k = 24
      · subst w
        exact kf j (Or.inl (by unfold LM at q; omega))
      · by_cases y : k = 0 ∧ j = 23
        · rw [y.1, y.2, f6, n10, n23]
        · exact fr k j w (by unfold LM at q; omega)
    have ky : KY ν n2 := by
      refine ⟨fun k j q => ?_, by rw [z, en1]; rfl⟩
      have e : n1.1 k j = ν.1 k j := by rw [en1, sI1, if_neg (by unfold LY at q; omega), sI1, if_neg (by unfold LY at q; omega)]
      rw [← e]
      by_cases w : k = 24
      · subst w
        exact kf j (Or.inl (by unfold LY at q; omega))
      · exact fr k j w (by unfold LY at q; omega)
    have r : Rn N (fun i => Int64.toInt32 (ν.2 22 (160 * s + i))) m s m2 n2 S 0 := by
      refine ⟨⟨hm, hs, fun j hj => ?_, ?_, ?_, fun j hj => ?_⟩, b1.same (fun j => k15 _ j (by omega)) (fun j => k15 _ j (by omega)) (fun j => k15 _ j (by omega)) (fun j => k15 _ j (by omega)), s2'.same km, V, ?_, ?_, ?_, ?_, ?_, Nat.zero_le _⟩
      · rw [em2, sI1, if_neg (by omega), sI1, if_neg (by omega)]; exact g4 j hj
      · rw [fr 0 37 (by decide) (by omega)]; exact n37
      · rw [ky.1 20 s (by unfold LY; omega)]; exact D.2.2.1
      · rw [ky.2]
      · rw [f6, n10]; exact eg.symm
      · rw [fr 0 24 (by decide) (by omega)]; exact n24
      · rw [em2, sI1, if_pos ⟨rfl, rfl⟩]
      · rw [em2, sI1, if_neg (by omega), sI1, if_pos ⟨rfl, rfl⟩]; rfl
      · rw [fr 0 38 (by decide) (by omega)]; exact n38
    have hx : ∀ v μe, FS m2 μe → KX (z_sI μ 0 9 v) (z_sI μe 0 9 v) := by
      intro v μe f
      refine ⟨fun k j q => ?_, f.2.trans kx.2⟩
      rw [sI1, sI1]
      by_cases c : k = 0 ∧ j = 9
      · rw [if_pos c, if_pos c]
      · rw [if_neg c, if_neg c, f.1 k (by unfold LX at q; omega) (by unfold LX at q; omega) (by unfold LX at q; omega) (by unfold LX at q; omega) (by unfold LX at q; omega)]
        exact kx.1 k j q
    have hy : ∀ v νe, FT n2 νe → KY (z_sI ν 0 36 v) (z_sI νe 0 36 v) := by
      intro v νe f
      have f' := f.KY
      refine ⟨fun k j q => ?_, f'.2.trans ky.2⟩
      rw [sI1, sI1]
      by_cases c : k = 0 ∧ j = 36
      · rw [if_pos c, if_pos c]
      · rw [if_neg c, if_neg c, f'.1 k j q]
        exact ky.1 k j q
    have u' : f_X9_passesAll 299 1 1 n1 = some ((), n2) := passMono (Or.inr rfl) (by omega) u
    have M0 : f_X9_street 299 (nI s) ν = z_bind (f_X9_takesItem 299 n2) (fun p5 => if p5.1 = 0 then (f_X9_street_b51 299 (nI s) p5.1 0 0 p5.2) else (f_X9_street_b51 299 (nI s) p5.1 1 0 p5.2)) := by
      unfold f_X9_street
      rw [e2, z_bindS]
      dsimp only
      rw [if_pos rfl, z_letE, z_letE, ← en1, u', z_bindS]
    have good : ∀ t k μe νe S', f_X3_readItems 460 (nI s) m0 = some (nI t, μe) → f_X9_street 299 (nI s) ν = f_X9_street_b110 k (nI t) 1 νe → Rn N (fun i => Int64.toInt32 (ν.2 22 (160 * s + i))) m s μe νe S' m → FS m2 μe → FT n2 νe → Ag N (fun n => f_X8_street n (nI s) μ) (fun n => f_X9_street n (nI s) ν) := by
      intro t k μe νe S' hC hM r' f f'
      obtain ⟨T, s15, sM, V', e23, e24, e4, -⟩ := r'
      obtain ⟨d1, d2, d3⟩ := cBecome (q := 1) (q2 := 15) (μ := z_sI μe 0 9 (-1)) (s15.same (fun j => rfl) (fun j => rfl) (fun j => rfl) (fun j => rfl)) (by omega)
      refine ⟨nI t, f_X6_becomeAs 1 15 (z_sI μe 0 9 (-1)), z_sI νe 0 36 (-1), ⟨460, ?_⟩, ⟨299, ?_⟩, (R.fault (-1)).street (Nat.le_refl N) ⟨S', d1, sM.mv (by omega), V', by rw [sI1, if_neg (by omega)]; exact e23, by rw [sI1, if_neg (by omega)]; exact e24⟩ ((hx (-1) μe f).tr ⟨fun k j q => by rw [d2 k (by unfold LX at q; omega) (by unfold LX at q; omega) (by unfold LX at q; omega) (by unfold LX at q; omega)], d3⟩) (hy (-1) νe f')⟩
      · dsimp only
        unfold f_X8_street
        rw [e1, z_letE, if_pos rfl, z_letE, ← em0, hC, z_bindS]
        dsimp only
        rw [show f_X3_faultFound μe = -1 from e4, z_letE, if_pos (by rw [sI1, if_pos ⟨rfl, rfl⟩]), z_letE]
      · dsimp only
        rw [hM]
        unfold f_X9_street_b110 f_X9_street_b124
        rw [if_neg (show ¬ (1 : Int32) = 0 by decide), z_letE, if_neg (show ¬ (1 : Int32) = 0 by decide)]
    have bad : ∀ t t' k μe νe, f_X3_readItems 460 (nI s) m0 = some (t, μe) → 100 ≤ k → f_X9_street 299 (nI s) ν = f_X9_street_b110 k t' 0 νe → Bd μe νe → FS m2 μe → FT n2 νe → Ag N (fun n => f_X8_street n (nI s) μ) (fun n => f_X9_street n (nI s) ν) := by
      intro t t' k μe νe hC hk100 hM ⟨fl, hfl, e4, e38⟩ f f'
      have sc : StC 1 (z_sI μe 0 9 (nI fl)) S := s1.same (fun j => ?_) (fun j => ?_) (fun j => ?_) (fun j => ?_)
      · obtain ⟨ν', q1, q2⟩ := (R.fault (nI fl)).back2 (ν1 := z_sI νe 0 36 (nI fl)) sc ((hk.same (fun j _ _ => f'.1 24 j (by unfold LT; omega))).same (fun j _ _ => rfl)) V (hx (nI fl) μe f) (hy (nI fl) νe f') (by rw [sI1, if_neg (by omega), f'.1 0 24 (by unfold LT; omega), fr 0 24 (by decide) (by omega)]; exact n24)
        refine ⟨-6, _, _, ⟨460, ?_⟩, ⟨299, ?_⟩, q2.refuse 6⟩
        · dsimp only
          unfold f_X8_street
          rw [e1, z_letE, if_pos rfl, z_letE, ← em0, hC, z_bindS]
          dsimp only
          rw [show f_X3_faultFound μe = nI fl from e4, z_letE, if_neg (by rw [sI1, if_pos ⟨rfl, rfl⟩]; exact notm1 hfl), refC6, z_letE]
        · dsimp only
          rw [hM]
          unfold f_X9_street_b110 f_X9_street_b124
          rw [if_pos rfl, e38, z_letE, if_pos rfl, passMono (Or.inl rfl) hk100 q1, z_bindS]
          dsimp only
          rw [refM6, z_bindS]
      · rw [sI1f (by decide), f.1 (1 + 2) (by decide) (by decide) (by decide) (by decide) (by decide)]; exact k1 _ j (by omega)
      · rw [sI1f (by decide), f.1 (1 + 4) (by decide) (by decide) (by decide) (by decide) (by decide)]; exact k1 _ j (by omega)
      · rw [sI1f (by decide), f.1 (1 + 6) (by decide) (by decide) (by decide) (by decide) (by decide)]; exact k1 _ j (by omega)
      · rw [sI1f (by decide), f.1 1 (by decide) (by decide) (by decide) (by decide) (by decide)]; exact k1 _ j (by omega)
    rcases rdItem hN r 299 (by omega) with ⟨μ', ν', S', q', i1, i2, r', hq', f, t'⟩ | ⟨μ', ν', i1, i2, ⟨fl, hfl, b4, b38⟩, f, t'⟩
    · rw [i1, z_bindS] at C0
      rw [i2, z_bindS] at M0
      dsimp only at C0 M0
      have M1 : f_X9_street 299 (nI s) ν = f_X9_street_h53 299 (nI s) (nI 1) 1 ν' := by
        rw [M0, if_neg (show ¬ (1 : Int32) = 0 by decide)]
        rfl
      rcases rdLoop hN m 0 q' 299 μ' ν' S' (by omega) (by omega) (by omega) r' with ⟨t2, μ2, ν2, S2, k2, j1, j2, j3, j4, j5, j6⟩ | ⟨t2, t3, μ2, ν2, k2, j1, j2, j3, j4, j5, j6⟩
      · exact good t2 k2 μ2 ν2 S2 (C0.trans j1) (M1.trans j3) j4 (f.tr j5) (t'.tr j6)
      · exact bad t2 t3 k2 μ2 ν2 (C0.trans j1) j2 (M1.trans j3) j4 (f.tr j5) (t'.tr j6)
    · rw [i1, z_bindS] at C0
      rw [i2, z_bindS] at M0
      dsimp only at C0 M0
      have C1 : f_X3_readItems_h60 299 (nI m) (nI 1) (nI 0) μ' = some (nI 1, μ') := by
        rw [show 299 = 298 + 1 from rfl, f_X3_readItems_h60, b4, if_neg (notm1 hfl)]
        split <;> rfl
      refine bad (nI 1) (0 + 0) 298 μ' ν' (C0.trans C1) (by omega) ?_ ⟨fl, hfl, b4, b38⟩ f t'
      rw [M0, if_pos rfl]
      unfold f_X9_street_b51
      rw [z_letE, show 299 = 298 + 1 from rfl, f_X9_street_h53, if_pos rfl]
