/-! the reference's next route -/
theorem mCopy1 {a c : Nat} (ha : a < 9) (hc : c < 9) (hac : a ≠ c) {Z : Option (Unit × z_M)} : ∀ (d j n : Nat) (ν : z_M), j + d = 8 → d < n → ∃ ν', f_X9_copies_h2 n (nI a) (nI c) (nI j) ν = f_X9_copies_h82 (n - d - 1) (nI a) (nI c) 0 ν' ∧ ν'.2 = ν.2 ∧ ∀ k i, ν'.1 k i = if (k = 10 ∨ k = 11 ∨ k = 12) ∧ 8 * c + j ≤ i ∧ i < 8 * c + 8 then ν.1 k (8 * a + (i - 8 * c)) else ν.1 k i := by
  intro d
  induction d with
  | zero =>
    intro j n ν e hn
    obtain ⟨m, rfl⟩ : ∃ m, n = m + 1 := ⟨n - 1, by omega⟩
    obtain rfl : j = 8 := by omega
    rw [f_X9_copies_h2, if_neg (show ¬ nI 8 < (8 : Int32) by decide)]
    exact ⟨ν, rfl, rfl, fun k i => by rw [if_neg (by omega)]⟩
  | succ d ih =>
    intro j n ν e hn
    obtain ⟨m, rfl⟩ : ∃ m, n = m + 1 := ⟨n - 1, by omega⟩
    have h1 : 8 * a + j < 72 := by omega
    have h2 : 8 * c + j < 72 := by omega
    rw [f_X9_copies_h2, if_pos (show nI j < (8 : Int32) from nI_lt (b := 8) (by omega) (by omega))]
    simp only [i8_h, z_chkN h1 (show 72 < 2 ^ 31 by decide), z_chkN h2 (show 72 < 2 ^ 31 by decide), z_ixN (show 8 * a + j < 2 ^ 31 by omega), z_ixN (show 8 * c + j < 2 ^ 31 by omega), i_succ]
    obtain ⟨m1, e1⟩ : ∃ x, x = z_sI ν 10 (8 * c + j) (ν.1 10 (8 * a + j)) := ⟨_, rfl⟩
    rw [z_letE, ← e1]
    obtain ⟨m2, e2⟩ : ∃ x, x = z_sI m1 11 (8 * c + j) (m1.1 11 (8 * a + j)) := ⟨_, rfl⟩
    rw [z_letE, ← e2]
    obtain ⟨m3, e3⟩ : ∃ x, x = z_sI m2 12 (8 * c + j) (m2.1 12 (8 * a + j)) := ⟨_, rfl⟩
    rw [z_letE, ← e3]
    obtain ⟨ν', q1, q2, q3⟩ := ih (j + 1) m m3 (by omega) (by omega)
    have g : ∀ k i, m3.1 k i = if (k = 10 ∨ k = 11 ∨ k = 12) ∧ i = 8 * c + j then ν.1 k (8 * a + j) else ν.1 k i := by
      intro k i
      rw [e3, sI1, e2, sI1f (show (12 : Nat) ≠ 11 by decide), sI1, e1, sI1f (show (12 : Nat) ≠ 10 by decide), sI1f (show (11 : Nat) ≠ 10 by decide), sI1]
      by_cases z : i = 8 * c + j
      · subst z
        by_cases k1 : k = 12
        · subst k1; simp
        · by_cases k2 : k = 11
          · subst k2; simp
          · by_cases k3 : k = 10
            · subst k3; simp
            · simp [k1, k2, k3]
      · simp [z]
    refine ⟨ν', ?_, ?_, fun k i => ?_⟩
    · rw [q1, show m - d - 1 = m + 1 - (d + 1) - 1 by omega]
    · rw [q2, e3, e2, e1]; rfl
    · rw [q3, g, g]
      by_cases kk : k = 10 ∨ k = 11 ∨ k = 12
      · by_cases z1 : i = 8 * c + j
        · rw [if_neg (by omega), if_pos ⟨kk, z1⟩, if_pos ⟨kk, by omega⟩, show i - 8 * c = j by omega]
        · by_cases z2 : 8 * c + (j + 1) ≤ i ∧ i < 8 * c + 8
          · rw [if_pos ⟨kk, z2⟩, if_neg (by omega), if_pos ⟨kk, by omega⟩]
          · rw [if_neg (fun y => z2 y.2), if_neg (fun y => z1 y.2), if_neg (by omega)]
      · rw [if_neg (fun y => kk y.1), if_neg (fun y => kk y.1), if_neg (fun y => kk y.1)]
theorem mCopy2 {a c : Nat} (ha : a < 9) (hc : c < 9) (hac : a ≠ c) : ∀ (d j n : Nat) (ν : z_M), j + d = 3 → d < n → ∃ ν', f_X9_copies_h82 n (nI a) (nI c) (nI j) ν = some ((), ν') ∧ (∀ i, ν'.2 17 i = if i = c then ν.2 17 a else ν.2 17 i) ∧ (∀ k, k ≠ 17 → ν'.2 k = ν.2 k) ∧ ∀ k i, ν'.1 k i = if k = 13 ∧ 3 * c + j ≤ i ∧ i < 3 * c + 3 then ν.1 13 (3 * a + (i - 3 * c)) else if (k = 14 ∨ k = 9 ∨ k = 15 ∨ k = 16) ∧ i = c then ν.1 k a else ν.1 k i := by
  intro d
  induction d with
  | zero =>
    intro j n ν e hn
    obtain ⟨m, rfl⟩ : ∃ m, n = m + 1 := ⟨n - 1, by omega⟩
    obtain rfl : j = 3 := by omega
    rw [f_X9_copies_h82, if_neg (show ¬ nI 3 < (3 : Int32) by decide)]
    simp only [z_chkN ha (show 9 < 2 ^ 31 by decide), z_chkN hc (show 9 < 2 ^ 31 by decide), z_ixN (show a < 2 ^ 31 by omega), z_ixN (show c < 2 ^ 31 by omega)]
    obtain ⟨m1, e1⟩ : ∃ x, x = z_sI ν 14 c (ν.1 14 a) := ⟨_, rfl⟩
    rw [z_letE, ← e1]
    obtain ⟨m2, e2⟩ : ∃ x, x = z_sI m1 9 c (m1.1 9 a) := ⟨_, rfl⟩
    rw [z_letE, ← e2]
    obtain ⟨m3, e3⟩ : ∃ x, x = z_sI m2 15 c (m2.1 15 a) := ⟨_, rfl⟩
    rw [z_letE, ← e3]
    obtain ⟨m4, e4⟩ : ∃ x, x = z_sI m3 16 c (m3.1 16 a) := ⟨_, rfl⟩
    rw [z_letE, ← e4, z_letE]
    have h2 : m4.2 = ν.2 := by rw [e4, e3, e2, e1]; rfl
    refine ⟨_, rfl, fun i => ?_, fun k hk => ?_, fun k i => ?_⟩
    · rw [sL2, h2]; simp
    · funext y; rw [sL2, if_neg (fun q => hk q.1), h2]
    · rw [sL1, if_neg (by omega), e4, sI1, e3, sI1f (show (16 : Nat) ≠ 15 by decide), sI1, e2, sI1f (show (16 : Nat) ≠ 9 by decide), sI1f (show (15 : Nat) ≠ 9 by decide), sI1, e1, sI1f (show (16 : Nat) ≠ 14 by decide), sI1f (show (15 : Nat) ≠ 14 by decide), sI1f (show (9 : Nat) ≠ 14 by decide), sI1]
      by_cases z : i = c
      · subst z
        by_cases k1 : k = 16
        · subst k1; simp
        · by_cases k2 : k = 15
          · subst k2; simp
          · by_cases k3 : k = 9
            · subst k3; simp
            · by_cases k4 : k = 14
              · subst k4; simp
              · simp [k1, k2, k3, k4]
      · simp [z]
  | succ d ih =>
    intro j n ν e hn
    obtain ⟨m, rfl⟩ : ∃ m, n = m + 1 := ⟨n - 1, by omega⟩
    rw [f_X9_copies_h82, if_pos (show nI j < (3 : Int32) from nI_lt (b := 3) (by omega) (by omega)), i3_h, i3_h, z_chkN (by omega) (by decide), z_chkN (by omega) (by decide), z_ixN (by omega), z_ixN (by omega), z_letE, i_succ]
    obtain ⟨ν', q1, q2, q3, q4⟩ := ih (j + 1) m (z_sI ν 13 (3 * c + j) (ν.1 13 (3 * a + j))) (by omega) (by omega)
    refine ⟨ν', q1, q2, q3, fun k i => ?_⟩
    rw [q4, sI1, sI1, sI1]
    by_cases k1 : k = 13
    · subst k1
      by_cases z1 : i = 3 * c + j
      · subst z1
        rw [if_neg (by omega), if_neg (by omega), if_pos ⟨rfl, rfl⟩, if_pos (by omega), show 3 * c + j - 3 * c = j by omega]
      · by_cases z2 : 3 * c + (j + 1) ≤ i ∧ i < 3 * c + 3
        · rw [if_pos ⟨rfl, z2⟩, if_neg (by omega), if_pos (by omega)]
        · rw [if_neg (fun y => z2 y.2), if_neg (by omega), if_neg (fun y => z1 y.2), if_neg (by omega), if_neg (by omega)]
    · simp only [k1, false_and, if_false]
theorem mCopies {a c : Nat} (ha : a < 9) (hc : c < 9) (hac : a ≠ c) (n : Nat) (hn : 20 ≤ n) (ν : z_M) : ∃ ν', f_X9_copies n (nI a) (nI c) ν = some ((), ν') ∧ (∀ i, ν'.2 17 i = if i = c then ν.2 17 a else ν.2 17 i) ∧ (∀ k, k ≠ 17 → ν'.2 k = ν.2 k) ∧ ∀ k i, ν'.1 k i = if (k = 10 ∨ k = 11 ∨ k = 12) ∧ 8 * c ≤ i ∧ i < 8 * c + 8 then ν.1 k (8 * a + (i - 8 * c)) else if k = 13 ∧ 3 * c ≤ i ∧ i < 3 * c + 3 then ν.1 13 (3 * a + (i - 3 * c)) else if (k = 14 ∨ k = 9 ∨ k = 15 ∨ k = 16) ∧ i = c then ν.1 k a else ν.1 k i := by
  obtain ⟨ν1, q1, q2, q3⟩ := mCopy1 (Z := none) ha hc hac 8 0 n ν (by omega) (by omega)
  obtain ⟨ν2, r1, r2, r3, r4⟩ := mCopy2 ha hc hac 3 0 (n - 8 - 1) ν1 (by omega) (by omega)
  refine ⟨ν2, ?_, fun i => ?_, fun k hk => ?_, fun k i => ?_⟩
  · exact q1.trans r1
  · rw [r2, q2]
  · rw [r3 k hk, q2]
  · rw [r4, q3, q3, q3]
    by_cases k1 : k = 13
    · subst k1
      by_cases z : 3 * c ≤ i ∧ i < 3 * c + 3
      · rw [if_pos ⟨rfl, by omega⟩, if_neg (by omega), if_neg (by omega), if_pos ⟨rfl, z⟩]
      · rw [if_neg (by omega), if_neg (by omega), if_neg (by omega), if_neg (by omega), if_neg (by omega), if_neg (by omega)]
    · rw [if_neg (fun y => k1 y.1)]
      by_cases kk : (k = 14 ∨ k = 9 ∨ k = 15 ∨ k = 16) ∧ i = c
      · rw [if_pos kk, if_neg (by omega), if_neg (by omega), if_neg (by omega), if_pos kk]
      · rw [if_neg kk]
        by_cases z : (k = 10 ∨ k = 11 ∨ k = 12) ∧ 8 * c ≤ i ∧ i < 8 * c + 8
        · rw [if_pos (by omega), if_pos z]
        · rw [if_neg (by omega), if_neg z, if_neg (fun y => k1 y.1), if_neg kk]
/-- a copied row holds the same thought -/
theorem RowM.copy {a c : Nat} {ν ν' : z_M} {t : zT} (T : RowM ν a t) (e : ∀ k i, ν'.1 k i = if (k = 10 ∨ k = 11 ∨ k = 12) ∧ 8 * c ≤ i ∧ i < 8 * c + 8 then ν.1 k (8 * a + (i - 8 * c)) else if k = 13 ∧ 3 * c ≤ i ∧ i < 3 * c + 3 then ν.1 13 (3 * a + (i - 3 * c)) else if (k = 14 ∨ k = 9 ∨ k = 15 ∨ k = 16) ∧ i = c then ν.1 k a else ν.1 k i) : RowM ν' c t := by
  obtain ⟨h1, ⟨m, h2, h3, h4⟩, h5, h6, h7⟩ := T
  refine ⟨fun h hh => ⟨?_, ?_, ?_⟩, ⟨m, h2, ?_, fun i hi => ?_⟩, ?_, ?_, ?_⟩
  · rw [e, if_pos (by omega), show 8 * c + h - 8 * c = h by omega]; exact (h1 h hh).1
  · rw [e, if_pos (by omega), show 8 * c + h - 8 * c = h by omega]; exact (h1 h hh).2.1
  · rw [e, if_pos (by omega), show 8 * c + h - 8 * c = h by omega]; exact (h1 h hh).2.2
  · rw [e, if_neg (by omega), if_neg (by omega), if_pos (by omega)]; exact h3
  · have q : ν'.1 13 (3 * c + i) = ν.1 13 (3 * a + i) := by rw [e, if_neg (by omega), if_pos (by omega), show 3 * c + i - 3 * c = i by omega]
    rw [q]; exact h4 i hi
  · rw [e, if_neg (by omega), if_neg (by omega), if_pos (by omega)]; exact h5
  · rw [e, if_neg (by omega), if_neg (by omega), if_pos (by omega)]; exact h6
  · rw [e, if_neg (by omega), if_neg (by omega), if_pos (by omega)]; exact h7
/-- a row's own places -/
def Rw (r k j : Nat) : Prop := ((k = 10 ∨ k = 11 ∨ k = 12) ∧ 8 * r ≤ j ∧ j < 8 * r + 8) ∨ (k = 13 ∧ 3 * r ≤ j ∧ j < 3 * r + 3) ∨ ((k = 9 ∨ k = 14 ∨ k = 15 ∨ k = 16) ∧ j = r)
theorem RowM.same {r : Nat} {ν ν' : z_M} {t : zT} (T : RowM ν r t) (e : ∀ k j, Rw r k j → ν'.1 k j = ν.1 k j) : RowM ν' r t := by
  obtain ⟨h1, ⟨m, h2, h3, h4⟩, h5, h6, h7⟩ := T
  refine ⟨fun h hh => ⟨?_, ?_, ?_⟩, ⟨m, h2, ?_, fun i hi => ?_⟩, ?_, ?_, ?_⟩
  · rw [e 10 _ (by unfold Rw; omega)]; exact (h1 h hh).1
  · rw [e 12 _ (by unfold Rw; omega)]; exact (h1 h hh).2.1
  · rw [e 11 _ (by unfold Rw; omega)]; exact (h1 h hh).2.2
  · rw [e 14 _ (by unfold Rw; omega)]; exact h3
  · rw [e 13 _ (by unfold Rw; omega)]; exact h4 i hi
  · rw [e 9 _ (by unfold Rw; omega)]; exact h5
  · rw [e 15 _ (by unfold Rw; omega)]; exact h6
  · rw [e 16 _ (by unfold Rw; omega)]; exact h7
theorem RowM.ext {r : Nat} {ν : z_M} {t t' : zT} (T : RowM ν r t) (e : ∀ a i, t' a i = t a i) : RowM ν r t' := by
  have : t' = t := by funext a i; exact e a i
  rw [this]; exact T
/-- all rows of route p, with the choices tried -/
def RK (ν : z_M) (T : List Nat → zT) : List Nat → Prop
  | [] => RowM ν 0 (T [])
  | h :: p => RK ν T p ∧ RowM ν (p.length + 1) (T (h :: p)) ∧ ν.1 18 p.length = nI (h + 1)
theorem RK.same {ν ν' : z_M} {T : List Nat → zT} : ∀ {p : List Nat}, RK ν T p → (∀ r k j, r ≤ p.length → Rw r k j → ν'.1 k j = ν.1 k j) → (∀ j, j < p.length → ν'.1 18 j = ν.1 18 j) → RK ν' T p := by
  intro p
  induction p with
  | nil => intro h h1 h2; exact RowM.same h (fun k j q => h1 0 k j (Nat.le_refl 0) q)
  | cons x p ih =>
    intro h h1 h2
    have l : (x :: p).length = p.length + 1 := rfl
    rw [l] at h1 h2
    exact ⟨ih h.1 (fun r k j a b => h1 r k j (by omega) b) (fun j hj => h2 j (by omega)), h.2.1.same (fun k j q => h1 _ k j (Nat.le_refl _) q), by rw [h2 _ (by omega)]; exact h.2.2⟩
theorem RK.top {ν : z_M} {T : List Nat → zT} {p : List Nat} (h : RK ν T p) : RowM ν p.length (T p) := by
  cases p with
  | nil => exact h
  | cons x p => exact h.2.1
/-- what a search's steps keep in the reference -/
def FMp (k j : Nat) : Prop := (k = 0 ∧ j ≠ 26 ∧ j ≠ 28 ∧ j ≠ 29) ∨ (1 ≤ k ∧ k ≤ 8) ∨ (k = 9 ∧ j = 0) ∨ (k = 10 ∧ j < 8) ∨ (k = 11 ∧ j < 8) ∨ (k = 13 ∧ j < 3) ∨ (k = 14 ∧ j = 0) ∨ 19 ≤ k
def FM (ν ν' : z_M) : Prop := (∀ k j, FMp k j → ν'.1 k j = ν.1 k j) ∧ ∀ k, k ≠ 17 → ν'.2 k = ν.2 k
theorem FM.rf (ν : z_M) : FM ν ν := ⟨fun _ _ _ => rfl, fun _ _ => rfl⟩
theorem FM.tr {a b c : z_M} (h : FM a b) (k : FM b c) : FM a c := ⟨fun x y q => (k.1 x y q).trans (h.1 x y q), fun x q => (k.2 x q).trans (h.2 x q)⟩
theorem FM.KM {a b : z_M} (h : FM a b) : KM a b := by
  refine ⟨fun k j q => h.1 k j ?_, h.2 22 (by decide)⟩
  unfold LM at q
  unfold FMp
  rcases q with ⟨q0, q⟩ | q | q | q | q | q | q | q | q | q | ⟨q, -⟩ | q <;> omega
theorem FM.toF {a b : z_M} (h : FM a b) : ∀ k j, Fm k j → b.1 k j = a.1 k j := by
  intro k j q
  refine h.1 k j ?_
  unfold Fm at q
  unfold FMp
  omega
