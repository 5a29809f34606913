/-! the relation between the class's memory and the reference's -/
def RS (N : Nat) (μ ν : z_M) : Prop := ∃ S, StC 1 μ S ∧ StM ν S ∧ Vd N S ∧ ν.1 0 23 = S 10 2 ∧ ν.1 0 24 = 0
/-- what the reference keeps of a street, from place o on -/
def StK (ν : z_M) (o : Nat) (S : zS) : Prop := (∀ h, h < 8 → ν.1 24 (o + h) = S 0 h ∧ ν.1 24 (o + 8 + h) = S 1 h ∧ ν.1 24 (o + 16 + h) = S 2 h ∧ ν.1 24 (o + 73 + h) = S 3 h ∧ ν.1 24 (o + 81 + h) = S 4 h) ∧ (∀ w, w < 12 → ν.1 24 (o + 24 + w) = S 5 w ∧ ν.1 24 (o + 36 + w) = S 6 w ∧ ν.1 24 (o + 48 + w) = S 7 w ∧ ν.1 24 (o + 60 + w) = S 8 w) ∧ (∃ m, m ≤ 3 ∧ ν.1 24 (o + 92) = nI m ∧ ∀ i, i < 3 → S 9 i = if i < m then ν.1 24 (o + 89 + i) else 0) ∧ ν.1 24 (o + 93) = S 10 0 ∧ ν.1 24 (o + 94) = S 10 1 ∧ ν.1 24 (o + 95) = S 10 2 ∧ ν.1 24 (o + 72) = S 10 3 ∧ ν.1 24 (o + 96) = S 10 4 ∧ ν.1 24 (o + 97) = S 10 5 ∧ ν.1 24 (o + 98) = S 10 6
def RI (N : Nat) (μ ν : z_M) : Prop := (μ.1 0 10 = 0 ∧ ν.1 0 42 = 0) ∨ (μ.1 0 10 = 1 ∧ ν.1 0 42 = 1 ∧ ∃ S, StC 8 μ S ∧ StK ν 0 S ∧ Vd N S)
def Shf (μ ν : z_M) (s : Nat) : Prop := (ν.1 19 s = -1 ∧ μ.1 25 s = -1 ∧ μ.1 27 s = 0) ∨ (∃ h, h < 8 ∧ ν.1 19 s = 4 ∧ ν.1 21 s = nI h ∧ μ.1 25 s = nI h ∧ μ.1 27 s = 0) ∨ ∃ t m, t < 4 ∧ m ≤ 160 ∧ ν.1 19 s = nI t ∧ μ.1 25 s = nI (100 + t) ∧ ν.1 20 s = nI m ∧ μ.1 27 s = nI m ∧ ∀ i, i < m → μ.2 23 (160 * s + i) = ν.2 22 (160 * s + i)
def RH (μ ν : z_M) : Prop := ∀ s, s < 8 → Shf μ ν s
def RF (μ ν : z_M) : Prop := ∀ i, i < 8 → μ.1 49 i = ν.1 1 i
def RA (μ ν : z_M) : Prop := (∃ r, r ≤ 20 ∧ μ.1 28 1 = nI r ∧ ν.1 0 51 = nI r) ∧ ∀ i, i < 20 → μ.1 30 i = ν.1 26 i
def Rr (N : Nat) (μ ν : z_M) : Prop := RS N μ ν ∧ RI N μ ν ∧ RH μ ν ∧ RF μ ν ∧ μ.1 0 9 = ν.1 0 36 ∧ RA μ ν ∧ μ.1 41 0 = 0
def Ag {α : Type} (N : Nat) (Fc Fm : Nat → Option (α × z_M)) : Prop := ∃ r μ' ν', (∃ n, Fc n = some (r, μ')) ∧ (∃ n, Fm n = some (r, ν')) ∧ Rr N μ' ν'
/-- what a thinking method keeps -/
def LC (k j : Nat) : Prop := (k = 0 ∧ (j = 9 ∨ j = 10)) ∨ k = 1 ∨ k = 3 ∨ k = 5 ∨ k = 7 ∨ k = 8 ∨ k = 10 ∨ k = 12 ∨ k = 14 ∨ k = 25 ∨ k = 27 ∨ (k = 28 ∧ j = 1) ∨ k = 30 ∨ (k = 41 ∧ j = 0) ∨ k = 49
def LM (k j : Nat) : Prop := (k = 0 ∧ ((8 ≤ j ∧ j ≤ 13) ∨ j = 23 ∨ j = 24 ∨ j = 36 ∨ j = 42 ∨ j = 51)) ∨ (1 ≤ k ∧ k ≤ 8) ∨ (k = 9 ∧ j = 0) ∨ (k = 10 ∧ j < 8) ∨ (k = 11 ∧ j < 8) ∨ (k = 13 ∧ j < 3) ∨ (k = 14 ∧ j = 0) ∨ k = 19 ∨ k = 20 ∨ k = 21 ∨ (k = 24 ∧ j < 200) ∨ k = 26
def KC (μ μ' : z_M) : Prop := (∀ k j, LC k j → μ'.1 k j = μ.1 k j) ∧ μ'.2 = μ.2
def KM (ν ν' : z_M) : Prop := (∀ k j, LM k j → ν'.1 k j = ν.1 k j) ∧ ν'.2 22 = ν.2 22
theorem KC.rf (μ : z_M) : KC μ μ := ⟨fun _ _ _ => rfl, rfl⟩
theorem KM.rf (μ : z_M) : KM μ μ := ⟨fun _ _ _ => rfl, rfl⟩
theorem KC.tr {a b c : z_M} (h : KC a b) (k : KC b c) : KC a c := ⟨fun x y z => (k.1 x y z).trans (h.1 x y z), k.2.trans h.2⟩
theorem KM.tr {a b c : z_M} (h : KM a b) (k : KM b c) : KM a c := ⟨fun x y z => (k.1 x y z).trans (h.1 x y z), k.2.trans h.2⟩
theorem KC.sI {a b : z_M} (h : KC a b) {k j : Nat} {v : Int32} (hk : ¬ LC k j) : KC a (z_sI b k j v) := by
  refine ⟨fun x y z => ?_, h.2⟩
  rw [sI1, if_neg (fun e => hk (by rw [← e.1, ← e.2]; exact z))]
  exact h.1 x y z
theorem KM.sI {a b : z_M} (h : KM a b) {k j : Nat} {v : Int32} (hk : ¬ LM k j) : KM a (z_sI b k j v) := by
  refine ⟨fun x y z => ?_, h.2⟩
  rw [sI1, if_neg (fun e => hk (by rw [← e.1, ← e.2]; exact z))]
  exact h.1 x y z
theorem KM.sL {a b : z_M} (h : KM a b) {k j : Nat} {v : Int64} (hk : k ≠ 22) : KM a (z_sL b k j v) := by
  refine ⟨fun x y z => h.1 x y z, ?_⟩
  rw [← h.2]
  funext y
  rw [sL2, if_neg (fun e => hk e.1.symm)]
/-- the class's street reads only its own cells -/
theorem StC.same {q : Nat} {μ μ' : z_M} {S : zS} (h : StC q μ S) (h1 : ∀ j, μ'.1 (q + 2) j = μ.1 (q + 2) j) (h2 : ∀ j, μ'.1 (q + 4) j = μ.1 (q + 4) j) (h3 : ∀ j, μ'.1 (q + 6) j = μ.1 (q + 6) j) (h4 : ∀ j, μ'.1 q j = μ.1 q j) : StC q μ' S :=
  ⟨fun k x a b => (h1 _).trans (h.1 k x a b), fun k x a b => (h2 _).trans (h.2.1 k x a b), fun i a => (h3 _).trans (h.2.2.1 i a), fun i a => (h4 _).trans (h.2.2.2 i a)⟩
theorem StM.same {ν ν' : z_M} {S : zS} (h : StM ν S) (hk : KM ν ν') : StM ν' S := by
  obtain ⟨h1, h2, ⟨m, h3, h4, h5⟩, h6, h7, h8, h9, h10, h11, h12⟩ := h
  have e := hk.1
  refine ⟨fun x hx => ?_, fun w hw => ?_, ⟨m, h3, ?_, fun i hi => ?_⟩, ?_, ?_, ?_, ?_, ?_, ?_, ?_⟩
  · rw [e 2 x (by unfold LM; omega), e 3 x (by unfold LM; omega), e 4 x (by unfold LM; omega), e 10 x (by unfold LM; omega), e 11 x (by unfold LM; omega)]; exact h1 x hx
  · rw [e 5 w (by unfold LM; omega), e 6 w (by unfold LM; omega), e 7 w (by unfold LM; omega), e 8 w (by unfold LM; omega)]; exact h2 w hw
  · rw [e 14 0 (by unfold LM; omega)]; exact h4
  · rw [e 13 i (by unfold LM; omega)]; exact h5 i hi
  · rw [e 0 8 (by unfold LM; omega)]; exact h6
  · rw [e 0 9 (by unfold LM; omega)]; exact h7
  · rw [e 0 10 (by unfold LM; omega)]; exact h8
  · rw [e 9 0 (by unfold LM; omega)]; exact h9
  · rw [e 0 11 (by unfold LM; omega)]; exact h10
  · rw [e 0 12 (by unfold LM; omega)]; exact h11
  · rw [e 0 13 (by unfold LM; omega)]; exact h12
theorem StK.same {ν ν' : z_M} {o : Nat} {S : zS} (h : StK ν o S) (e : ∀ j, o ≤ j → j < o + 99 → ν'.1 24 j = ν.1 24 j) : StK ν' o S := by
  obtain ⟨h1, h2, ⟨m, h3, h4, h5⟩, h6, h7, h8, h9, h10, h11, h12⟩ := h
  refine ⟨fun x hx => ?_, fun w hw => ?_, ⟨m, h3, ?_, fun i hi => ?_⟩, ?_, ?_, ?_, ?_, ?_, ?_, ?_⟩
  · rw [e _ (by omega) (by omega), e _ (by omega) (by omega), e _ (by omega) (by omega), e _ (by omega) (by omega), e _ (by omega) (by omega)]; exact h1 x hx
  · rw [e _ (by omega) (by omega), e _ (by omega) (by omega), e _ (by omega) (by omega), e _ (by omega) (by omega)]; exact h2 w hw
  · rw [e _ (by omega) (by omega)]; exact h4
  · rw [e _ (by omega) (by omega)]; exact h5 i hi
  · rw [e _ (by omega) (by omega)]; exact h6
  · rw [e _ (by omega) (by omega)]; exact h7
  · rw [e _ (by omega) (by omega)]; exact h8
  · rw [e _ (by omega) (by omega)]; exact h9
  · rw [e _ (by omega) (by omega)]; exact h10
  · rw [e _ (by omega) (by omega)]; exact h11
  · rw [e _ (by omega) (by omega)]; exact h12
theorem zB.mono {v : Int32} {n m : Nat} (h : zB v n) (hnm : n ≤ m) : zB v m := by
  obtain ⟨j, h1, h2⟩ := h; exact ⟨j, by omega, h2⟩
theorem Vd.mono {N M : Nat} {S : zS} (h : Vd N S) (hN : N ≤ M) : Vd M S := by
  obtain ⟨h1, h2, h3, h4, h5, h6⟩ := h
  exact ⟨h1, h2, h3, h4, fun x hx => ⟨(h5 x hx).1, (h5 x hx).2.1, (h5 x hx).2.2.1, (h5 x hx).2.2.2.1, (h5 x hx).2.2.2.2.mono hN⟩, h6⟩
theorem RI.mono {N M : Nat} {μ ν : z_M} (h : RI N μ ν) (hN : N ≤ M) : RI M μ ν := by
  rcases h with h | ⟨h1, h2, S, h3, h4, h5⟩
  · exact Or.inl h
  · exact Or.inr ⟨h1, h2, S, h3, h4, h5.mono hN⟩
theorem RS.mono {N M : Nat} {μ ν : z_M} (h : RS N μ ν) (hN : N ≤ M) : RS M μ ν := by
  obtain ⟨S, h1, h2, h3, h4⟩ := h
  exact ⟨S, h1, h2, h3.mono hN, h4⟩
theorem Rr.mono {N M : Nat} {μ ν : z_M} (h : Rr N μ ν) (hN : N ≤ M) : Rr M μ ν := ⟨h.1.mono hN, h.2.1.mono hN, h.2.2⟩
theorem RI.same {N : Nat} {μ ν μ' ν' : z_M} (h : RI N μ ν) (c : ∀ j, μ'.1 8 j = μ.1 8 j ∧ μ'.1 10 j = μ.1 10 j ∧ μ'.1 12 j = μ.1 12 j ∧ μ'.1 14 j = μ.1 14 j) (c2 : μ'.1 0 10 = μ.1 0 10) (m1 : ∀ j, j < 200 → ν'.1 24 j = ν.1 24 j) (m2 : ν'.1 0 42 = ν.1 0 42) : RI N μ' ν' := by
  rcases h with ⟨h1, h2⟩ | ⟨h1, h2, S, h3, h4, h5⟩
  · exact Or.inl ⟨c2.trans h1, m2.trans h2⟩
  · exact Or.inr ⟨c2.trans h1, m2.trans h2, S, h3.same (fun j => (c j).2.1) (fun j => (c j).2.2.1) (fun j => (c j).2.2.2) (fun j => (c j).1), h4.same (fun j _ h => m1 j (by omega)), h5⟩
theorem RH.same {μ ν μ' ν' : z_M} (h : RH μ ν) (c : ∀ j, μ'.1 25 j = μ.1 25 j ∧ μ'.1 27 j = μ.1 27 j) (c2 : μ'.2 23 = μ.2 23) (m1 : ∀ j, ν'.1 19 j = ν.1 19 j ∧ ν'.1 20 j = ν.1 20 j ∧ ν'.1 21 j = ν.1 21 j) (m2 : ν'.2 22 = ν.2 22) : RH μ' ν' := by
  intro s hs
  have h0 := h s hs
  unfold Shf at h0 ⊢
  rw [(c s).1, (c s).2, c2, (m1 s).1, (m1 s).2.1, (m1 s).2.2, m2]
  exact h0
theorem Rr.think {N : Nat} {μ ν μ' ν' : z_M} (h : Rr N μ ν) (c : KC μ μ') (m : KM ν ν') : Rr N μ' ν' := by
  obtain ⟨⟨S, s1, s2, s3, s4, s5⟩, hI, hH, hF, hL, ⟨⟨r, a1, a2, a3⟩, a4⟩, hz⟩ := h
  have e := c.1
  have d := m.1
  refine ⟨⟨S, s1.same (fun j => e 3 j (by unfold LC; omega)) (fun j => e 5 j (by unfold LC; omega)) (fun j => e 7 j (by unfold LC; omega)) (fun j => e 1 j (by unfold LC; omega)), s2.same m, s3, ?_, ?_⟩, hI.same (fun j => ⟨e 8 j (by unfold LC; omega), e 10 j (by unfold LC; omega), e 12 j (by unfold LC; omega), e 14 j (by unfold LC; omega)⟩) (e 0 10 (by unfold LC; omega)) (fun j hj => d 24 j (by unfold LM; omega)) (d 0 42 (by unfold LM; omega)), hH.same (fun j => ⟨e 25 j (by unfold LC; omega), e 27 j (by unfold LC; omega)⟩) (by rw [c.2]) (fun j => ⟨d 19 j (by unfold LM; omega), d 20 j (by unfold LM; omega), d 21 j (by unfold LM; omega)⟩) m.2, fun i hi => ?_, ?_, ⟨⟨r, a1, ?_, ?_⟩, fun i hi => ?_⟩, ?_⟩
  · rw [d 0 23 (by unfold LM; omega)]; exact s4
  · rw [d 0 24 (by unfold LM; omega)]; exact s5
  · rw [e 49 i (by unfold LC; omega), d 1 i (by unfold LM; omega)]; exact hF i hi
  · rw [e 0 9 (by unfold LC; omega), d 0 36 (by unfold LM; omega)]; exact hL
  · rw [e 28 1 (by unfold LC; omega)]; exact a2
  · rw [d 0 51 (by unfold LM; omega)]; exact a3
  · rw [e 30 i (by unfold LC; omega), d 26 i (by unfold LM; omega)]; exact a4 i hi
  · rw [e 41 0 (by unfold LC; omega)]; exact hz
/-- a refusal -/
theorem Rr.refuse {N : Nat} {μ ν : z_M} (h : Rr N μ ν) (t : Nat) : Rr N (z_sI μ 49 t (μ.1 49 t + 1)) (z_sI ν 1 t (ν.1 1 t + 1)) := by
  obtain ⟨⟨S, s1, s2, s3, s4, s5⟩, hI, hH, hF, hL, ⟨⟨r, a1, a2, a3⟩, a4⟩, hz⟩ := h
  refine ⟨⟨S, s1.same (fun j => rfl) (fun j => rfl) (fun j => rfl) (fun j => rfl), ?_, s3, s4, s5⟩, hI.same (fun j => ⟨rfl, rfl, rfl, rfl⟩) rfl (fun j hj => rfl) rfl, hH.same (fun j => ⟨rfl, rfl⟩) rfl (fun j => ⟨rfl, rfl, rfl⟩) rfl, fun i hi => ?_, hL, ⟨⟨r, a1, a2, a3⟩, a4⟩, hz⟩
  · exact s2
  · rw [sI1, sI1]
    by_cases e : i = t
    · subst e
      rw [if_pos ⟨rfl, rfl⟩, if_pos ⟨rfl, rfl⟩, hF i hi]
    · rw [if_neg (fun q => e q.2), if_neg (fun q => e q.2)]; exact hF i hi
