/-! reading a text -/
def FS (μ μ' : z_M) : Prop := (∀ k, k ≠ 15 → k ≠ 17 → k ≠ 19 → k ≠ 21 → k ≠ 45 → μ'.1 k = μ.1 k) ∧ μ'.2 = μ.2
theorem FS.rf (μ : z_M) : FS μ μ := ⟨fun _ _ _ _ _ _ => rfl, rfl⟩
theorem FS.tr {a b c : z_M} (h : FS a b) (k : FS b c) : FS a c := ⟨fun x h1 h2 h3 h4 h5 => (k.1 x h1 h2 h3 h4 h5).trans (h.1 x h1 h2 h3 h4 h5), k.2.trans h.2⟩
theorem FS.sI {a b : z_M} (h : FS a b) {k j : Nat} {v : Int32} (hk : k = 15 ∨ k = 17 ∨ k = 19 ∨ k = 21 ∨ k = 45) : FS a (z_sI b k j v) := by
  refine ⟨fun x h1 h2 h3 h4 h5 => ?_, h.2⟩
  rw [sI1f (by omega)]; exact h.1 x h1 h2 h3 h4 h5
theorem FS.KC {a b : z_M} (h : FS a b) : KC a b := ⟨fun k j q => by rw [h.1 k (by unfold LC at q; omega) (by unfold LC at q; omega) (by unfold LC at q; omega) (by unfold LC at q; omega) (by unfold LC at q; omega)], h.2⟩
/-- what the reference keeps while it reads -/
def LT (k j : Nat) : Prop := (k = 0 ∧ (j = 24 ∨ j = 36 ∨ j = 37 ∨ j = 42 ∨ j = 51)) ∨ k = 1 ∨ k = 19 ∨ k = 20 ∨ k = 21 ∨ k = 24 ∨ k = 26
def FT (ν ν' : z_M) : Prop := (∀ k j, LT k j → ν'.1 k j = ν.1 k j) ∧ ν'.2 = ν.2
theorem FT.rf (ν : z_M) : FT ν ν := ⟨fun _ _ _ => rfl, rfl⟩
theorem FT.tr {a b c : z_M} (h : FT a b) (k : FT b c) : FT a c := ⟨fun x y q => (k.1 x y q).trans (h.1 x y q), k.2.trans h.2⟩
theorem FT.sI {a b : z_M} (h : FT a b) {k j : Nat} {v : Int32} (hk : ¬ LT k j) : FT a (z_sI b k j v) := by
  refine ⟨fun x y z => ?_, h.2⟩
  rw [sI1, if_neg (fun e => hk (by rw [← e.1, ← e.2]; exact z))]
  exact h.1 x y z
theorem FT.KY {a b : z_M} (h : FT a b) : KY a b := ⟨fun k j q => h.1 k j (by unfold LY at q; unfold LT; omega), by rw [h.2]⟩
/-- the text itself -/
def Tx (x : Nat → Int32) (m s : Nat) (μ ν : z_M) : Prop := m ≤ 160 ∧ s < 8 ∧ (∀ j, j < 160 → μ.1 47 j = if j < m then x j else 0) ∧ ν.1 0 37 = nI s ∧ ν.1 20 s = nI m ∧ ∀ j, j < 160 → Int64.toInt32 (ν.2 22 (160 * s + j)) = x j
theorem Tx.mv {x : Nat → Int32} {m s : Nat} {μ ν μ' ν' : z_M} (h : Tx x m s μ ν) (f : FS μ μ') (t : FT ν ν') : Tx x m s μ' ν' := by
  obtain ⟨h1, h2, h3, h4, h5, h6⟩ := h
  exact ⟨h1, h2, fun j hj => by rw [f.1 47 (by omega) (by omega) (by omega) (by omega) (by omega)]; exact h3 j hj, by rw [t.1 0 37 (by unfold LT; omega)]; exact h4, by rw [t.1 20 s (by unfold LT; omega)]; exact h5, fun j hj => by rw [t.2]; exact h6 j hj⟩
/-- both read on, at place q -/
def Rn (N : Nat) (x : Nat → Int32) (m s : Nat) (μ ν : z_M) (S : zS) (q : Nat) : Prop := Tx x m s μ ν ∧ StC 15 μ S ∧ StM ν S ∧ Vd N S ∧ ν.1 0 23 = S 10 2 ∧ ν.1 0 24 = 0 ∧ μ.1 45 4 = -1 ∧ μ.1 45 3 = nI q ∧ ν.1 0 38 = nI q ∧ q ≤ m
/-- both found the same fault -/
def Bd (μ ν : z_M) : Prop := ∃ f, f < 2 ^ 31 ∧ μ.1 45 4 = nI f ∧ ν.1 0 38 = nI f
theorem cLetter {N : Nat} {x : Nat → Int32} {m s q : Nat} {μ ν : z_M} {S : zS} (r : Rn N x m s μ ν S q) : g_get 47 160 (μ.1 45 3) μ = if q < m then x q else 0 := by
  obtain ⟨⟨h1, h2, h3, h4, h5, h6⟩, -, -, -, -, -, -, e3, -, hq⟩ := r
  rw [e3]
  by_cases c : q < 160
  · rw [g_getN c (by decide), h3 q c]
  · rw [g_getO (by omega) (by omega), if_neg (by omega)]
theorem mLetter {N : Nat} {x : Nat → Int32} {m s q : Nat} {μ ν : z_M} {S : zS} (r : Rn N x m s μ ν S q) : f_X9_letter ν = some ((if q < m then x q else -1), ν) := by
  obtain ⟨⟨h1, h2, h3, h4, h5, h6⟩, -, -, -, -, -, -, -, e38, hq⟩ := r
  unfold f_X9_letter
  rw [h4, e38, z_chkN h2 (by decide), z_ixN (by omega), h5]
  by_cases c : q < m
  · rw [if_pos (nI_lt c (by omega)), if_pos c, mInt h2 (by omega), z_bindS, h6 q (by omega)]
  · rw [if_neg (nI_nlt (by omega) (by omega)), if_neg c]
theorem StM.mv {ν : z_M} {S : zS} {j : Nat} {v : Int32} (s2 : StM ν S) (hj : j = 36 ∨ j = 37 ∨ j = 38 ∨ j = 39 ∨ j = 40 ∨ j = 23) : StM (z_sI ν 0 j v) S := by
  have e : ∀ k i, ¬ (k = 0 ∧ i = j) → (z_sI ν 0 j v).1 k i = ν.1 k i := fun k i h => by rw [sI1, if_neg h]
  obtain ⟨h1, h2, ⟨m, h3, h4, h5⟩, h6, h7, h8, h9, h10, h11, h12⟩ := s2
  refine ⟨fun x hx => ?_, fun w hw => ?_, ⟨m, h3, ?_, fun i hi => ?_⟩, ?_, ?_, ?_, ?_, ?_, ?_, ?_⟩
  · rw [e 2 x (by omega), e 3 x (by omega), e 4 x (by omega), e 10 x (by omega), e 11 x (by omega)]; exact h1 x hx
  · rw [e 5 w (by omega), e 6 w (by omega), e 7 w (by omega), e 8 w (by omega)]; exact h2 w hw
  · rw [e 14 0 (by omega)]; exact h4
  · rw [e 13 i (by omega)]; exact h5 i hi
  · rw [e 0 8 (by omega)]; exact h6
  · rw [e 0 9 (by omega)]; exact h7
  · rw [e 0 10 (by omega)]; exact h8
  · rw [e 9 0 (by omega)]; exact h9
  · rw [e 0 11 (by omega)]; exact h10
  · rw [e 0 12 (by omega)]; exact h11
  · rw [e 0 13 (by omega)]; exact h12
/-- one place on -/
theorem Rn.step {N : Nat} {x : Nat → Int32} {m s q : Nat} {μ ν : z_M} {S : zS} (r : Rn N x m s μ ν S q) (hq : q < m) : Rn N x m s (z_sI μ 45 3 (nI (q + 1))) (z_sI ν 0 38 (nI (q + 1))) S (q + 1) ∧ FS μ (z_sI μ 45 3 (nI (q + 1))) ∧ FT ν (z_sI ν 0 38 (nI (q + 1))) := by
  have f : FS μ (z_sI μ 45 3 (nI (q + 1))) := (FS.rf μ).sI (by omega)
  have t : FT ν (z_sI ν 0 38 (nI (q + 1))) := (FT.rf ν).sI (by unfold LT; omega)
  obtain ⟨h, s1, s2, V, e23, e24, e4, e3, e38, hq'⟩ := r
  refine ⟨⟨h.mv f t, s1.same (fun j => rfl) (fun j => rfl) (fun j => rfl) (fun j => rfl), s2.mv (by omega), V, e23, e24, ?_, ?_, ?_, by omega⟩, f, t⟩
  · rw [sI1, if_neg (by omega)]; exact e4
  · rw [sI1, if_pos ⟨rfl, rfl⟩]
  · rw [sI1, if_pos ⟨rfl, rfl⟩]
/-- a cell of the reference's that is its own -/
theorem Rn.own {N : Nat} {x : Nat → Int32} {m s q : Nat} {μ ν : z_M} {S : zS} (r : Rn N x m s μ ν S q) {j : Nat} {v : Int32} (hj : j = 39 ∨ j = 40) : Rn N x m s μ (z_sI ν 0 j v) S q ∧ FT ν (z_sI ν 0 j v) := by
  have t : FT ν (z_sI ν 0 j v) := (FT.rf ν).sI (by unfold LT; omega)
  obtain ⟨h, s1, s2, V, e23, e24, e4, e3, e38, hq'⟩ := r
  refine ⟨⟨h.mv (FS.rf μ) t, s1, s2.mv (by omega), V, ?_, ?_, e4, e3, ?_, hq'⟩, t⟩
  · rw [sI1, if_neg (by omega)]; exact e23
  · rw [sI1, if_neg (by omega)]; exact e24
  · rw [sI1, if_neg (by omega)]; exact e38
theorem nofail {μ : z_M} {f : Nat} (h : μ.1 45 4 = nI f) (hf : f < 2 ^ 31) (c : Int32) : f_X3_fail c μ = μ := by
  unfold f_X3_fail
  rw [h, if_neg (by rw [nI_em1 hf]; exact id)]
theorem dofail {μ : z_M} (h : μ.1 45 4 = -1) (c : Int32) : f_X3_fail c μ = z_sI μ 45 4 c := by
  unfold f_X3_fail
  rw [h, if_pos rfl, z_letE]
/-- a fault stands: nothing more is read -/
theorem nopL {μ : z_M} {f : Nat} (h : μ.1 45 4 = nI f) (hf : f < 2 ^ 31) (c : Int32) : f_X3_readLetter c μ = μ := by
  unfold f_X3_readLetter f_X3_readLetter_b36
  rw [h, if_neg (by rw [nI_em1 hf]; exact id), nofail h hf, z_letE]
theorem nopN {μ : z_M} {f : Nat} (h : μ.1 45 4 = nI f) (hf : f < 2 ^ 31) (a b c : Int32) (n : Nat) (hn : 2 ≤ n) : f_X3_readNumber n a b c μ = some (0, μ) := by
  obtain ⟨m, rfl⟩ : ∃ m, n = m + 1 := ⟨n - 1, by omega⟩
  unfold f_X3_readNumber
  rw [nopL h hf, z_letE, z_letE, f_X3_readNumber_h18, if_pos (by decide), h, if_neg (by rw [nI_em1 hf]; exact id)]
  unfold f_X3_readNumber_b77 f_X3_readNumber_b104
  rw [if_pos rfl, nofail h hf, z_letE]
theorem slen_len : ∀ si, si < 5 → z_slen si (fun _ _ => 0, fun _ _ => 0) = nI (z_len.getD si 0) ∧ z_len.getD si 0 < 10 := by decide
theorem sch_byte : ∀ si, si < 5 → ∀ j, j < z_len.getD si 0 → z_ch (z_byte si j) = z_byte si j ∧ z_byte si j ≠ 0 ∧ z_byte si j ≠ -1 := by decide
theorem slenE (si : Nat) (h : si < 5) (μ : z_M) : z_slen si μ = nI (z_len.getD si 0) := (slen_len si h).1
theorem schE {si j : Nat} (h : si < 5) (hj : j < z_len.getD si 0) (μ : z_M) : z_sch si (nI j) μ = some (z_byte si j, μ) := by
  have := (slen_len si h).2
  unfold z_sch
  rw [z_chkN hj (by omega), z_ixN (by omega), (sch_byte si h j hj).1]
theorem nopW {μ : z_M} {f si : Nat} (h : μ.1 45 4 = nI f) (hf : f < 2 ^ 31) (hs : si < 5) (n : Nat) (hn : 20 ≤ n) (c : Int32) : f_X3_readWord si n c μ = some ((), μ) := by
  have hl := (slen_len si hs).2
  have key : ∀ (d j n : Nat), j + d = z_len.getD si 0 → d < n → f_X3_readWord_h14 si n (nI j) μ = some ((), μ) := by
    intro d
    induction d with
    | zero =>
      intro j n e hn
      obtain ⟨m, rfl⟩ : ∃ m, n = m + 1 := ⟨n - 1, by omega⟩
      rw [f_X3_readWord_h14, slenE si hs, if_neg (nI_nlt (by omega) (by omega))]
    | succ d ih =>
      intro j n e hn
      obtain ⟨m, rfl⟩ : ∃ m, n = m + 1 := ⟨n - 1, by omega⟩
      rw [f_X3_readWord_h14, slenE si hs, if_pos (nI_lt (by omega) (by omega)), schE hs (by omega), z_bindS, nopL h hf, z_letE, i_succ]
      exact ih (j + 1) m (by omega) (by omega)
  have k : f_X3_readWord_h14 si n 0 μ = some ((), μ) := key (z_len.getD si 0) 0 n (by omega) (by omega)
  unfold f_X3_readWord f_X3_readWord_b12
  rw [nofail h hf, z_letE, k]
  split <;> rfl
theorem rdL {N : Nat} {x : Nat → Int32} {m s q : Nat} {μ ν : z_M} {S : zS} (r : Rn N x m s μ ν S q) {c : Int32} (h0 : c ≠ 0) (h1 : c ≠ -1) : (q < m ∧ x q = c ∧ f_X3_readLetter c μ = z_sI μ 45 3 (nI (q + 1)) ∧ f_X9_takes c ν = some (1, z_sI ν 0 38 (nI (q + 1)))) ∨ (f_X3_readLetter c μ = z_sI μ 45 4 (nI q) ∧ f_X9_takes c ν = some (0, ν)) := by
  have a := cLetter r
  have b := mLetter r
  obtain ⟨h, s1, s2, V, e23, e24, e4, e3, e38, hq⟩ := r
  unfold f_X3_readLetter f_X3_readLetter_b36 f_X9_takes
  rw [e4, if_pos rfl, a, b, z_bindS]
  by_cases z : q < m ∧ x q = c
  · refine Or.inl ⟨z.1, z.2, ?_, ?_⟩
    · rw [if_pos z.1, if_pos z.2, e3, z_letE, i_succ]
    · dsimp only
      rw [if_pos z.1, if_pos z.2, e38, z_letE, i_succ]
  · refine Or.inr ⟨?_, ?_⟩
    · have n : ¬ (if q < m then x q else 0) = c := by
        by_cases y : q < m
        · rw [if_pos y]; exact fun w => z ⟨y, w⟩
        · rw [if_neg y]; exact fun w => h0 w.symm
      rw [if_neg n, e3, dofail e4, z_letE]
    · have n : ¬ (if q < m then x q else -1) = c := by
        by_cases y : q < m
        · rw [if_pos y]; exact fun w => z ⟨y, w⟩
        · rw [if_neg y]; exact fun w => h1 w.symm
      dsimp only
      rw [if_neg n]
theorem rdW {N : Nat} {x : Nat → Int32} {m s : Nat} {S : zS} {si : Nat} (hs : si < 5) (c : Int32) : ∀ (q : Nat) (μ ν : z_M), Rn N x m s μ ν S q → ¬ c = 0 → ∀ n, 20 ≤ n → (∃ μ' ν', f_X3_readWord si n c μ = some ((), μ') ∧ f_X9_takesWord si n ν = some (1, ν') ∧ Rn N x m s μ' ν' S (q + z_len.getD si 0) ∧ FS μ μ' ∧ FT ν ν') ∨ (∃ μ' ν', f_X3_readWord si n c μ = some ((), μ') ∧ f_X9_takesWord si n ν = some (0, ν') ∧ Bd μ' ν' ∧ FS μ μ' ∧ FT ν ν') := by
  have hl := (slen_len si hs).2
  have key : ∀ (d j n n' : Nat) (q : Nat) (μ ν : z_M), j + d = z_len.getD si 0 → d < n → d < n' → Rn N x m s μ ν S q → (∃ μ' ν', f_X3_readWord_h14 si n (nI j) μ = some ((), μ') ∧ f_X9_takesWord_h2 si n' (nI j) ν = some (1, ν') ∧ Rn N x m s μ' ν' S (q + d) ∧ FS μ μ' ∧ FT ν ν') ∨ (∃ μ' ν', f_X3_readWord_h14 si n (nI j) μ = some ((), μ') ∧ f_X9_takesWord_h2 si n' (nI j) ν = some (0, ν') ∧ Bd μ' ν' ∧ FS μ μ' ∧ FT ν ν') := by
    intro d
    induction d with
    | zero =>
      intro j n n' q μ ν e hn hn' r
      obtain ⟨k, rfl⟩ : ∃ k, n = k + 1 := ⟨n - 1, by omega⟩
      obtain ⟨k', rfl⟩ : ∃ k, n' = k + 1 := ⟨n' - 1, by omega⟩
      refine Or.inl ⟨μ, ν, ?_, ?_, r, FS.rf μ, FT.rf ν⟩
      · rw [f_X3_readWord_h14, slenE si hs, if_neg (nI_nlt (by omega) (by omega))]
      · rw [f_X9_takesWord_h2, if_neg (show ¬ nI j < Int32.ofNat (z_len.getD si 0) from nI_nlt (by omega) (by omega))]
    | succ d ih =>
      intro j n n' q μ ν e hn hn' r
      obtain ⟨k, rfl⟩ : ∃ k, n = k + 1 := ⟨n - 1, by omega⟩
      obtain ⟨k', rfl⟩ : ∃ k, n' = k + 1 := ⟨n' - 1, by omega⟩
      have bt := sch_byte si hs j (by omega)
      rw [f_X3_readWord_h14, slenE si hs, if_pos (nI_lt (by omega) (by omega)), schE hs (by omega), z_bindS, z_letE]
      rw [f_X9_takesWord_h2, if_pos (show nI j < Int32.ofNat (z_len.getD si 0) from nI_lt (by omega) (by omega)), z_chkN (by omega) (by omega), z_ixN (by omega)]
      dsimp only
      rcases rdL r bt.2.1 bt.2.2 with ⟨a1, a2, a3, a4⟩ | ⟨a3, a4⟩
      · rw [a3, a4, z_bindS, if_neg (show ¬ (1 : Int32) = 0 by decide), i_succ]
        obtain ⟨r', f, t⟩ := r.step a1
        rcases ih (j + 1) k k' (q + 1) _ _ (by omega) (by omega) (by omega) r' with ⟨μ', ν', b1, b2, b3, b4, b5⟩ | ⟨μ', ν', b1, b2, b3, b4, b5⟩
        · exact Or.inl ⟨μ', ν', b1, b2, by rw [show q + (d + 1) = q + 1 + d by omega]; exact b3, f.tr b4, t.tr b5⟩
        · exact Or.inr ⟨μ', ν', b1, b2, b3, f.tr b4, t.tr b5⟩
      · rw [a3, a4, z_bindS, if_pos rfl]
        have e4 : (z_sI μ 45 4 (nI q)).1 45 4 = nI q := by rw [sI1, if_pos ⟨rfl, rfl⟩]
        have hq : q < 2 ^ 31 := by have := r.2.2.2.2.2.2.2.2.2; have := r.1.1; omega
        have nop : ∀ (d j n : Nat), j + d = z_len.getD si 0 → d < n → f_X3_readWord_h14 si n (nI j) (z_sI μ 45 4 (nI q)) = some ((), z_sI μ 45 4 (nI q)) := by
          intro d
          induction d with
          | zero =>
            intro j n e hn
            obtain ⟨m, rfl⟩ : ∃ m, n = m + 1 := ⟨n - 1, by omega⟩
            rw [f_X3_readWord_h14, slenE si hs, if_neg (nI_nlt (by omega) (by omega))]
          | succ d ih =>
            intro j n e hn
            obtain ⟨m, rfl⟩ : ∃ m, n = m + 1 := ⟨n - 1, by omega⟩
            rw [f_X3_readWord_h14, slenE si hs, if_pos (nI_lt (by omega) (by omega)), schE hs (by omega), z_bindS, nopL e4 hq, z_letE, i_succ]
            exact ih (j + 1) m (by omega) (by omega)
        refine Or.inr ⟨_, ν, ?_, rfl, ⟨q, hq, e4, r.2.2.2.2.2.2.2.2.1⟩, (FS.rf μ).sI (by omega), FT.rf ν⟩
        rw [i_succ]
        exact nop d (j + 1) k (by omega) (by omega)
  intro q μ ν r hc n hn
  unfold f_X3_readWord f_X3_readWord_b12 f_X9_takesWord
  rw [if_neg hc]
  exact key (z_len.getD si 0) 0 n n q μ ν (by omega) (by omega) (by omega) r
