/-! numbers and memory -/
theorem nI_mulN (a b : Nat) : nI a * nI b = nI (a * b) := (Int32.ofNat_mul a b).symm
theorem nI_inj {a b : Nat} (ha : a < 2 ^ 31) (hb : b < 2 ^ 31) (h : nI a = nI b) : a = b := (nI_eq ha hb).1 h
theorem nI_ne {a b : Nat} (ha : a < 2 ^ 31) (hb : b < 2 ^ 31) (h : a ≠ b) : nI a ≠ nI b := fun e => h (nI_inj ha hb e)
theorem z_ixN {j : Nat} (h : j < 2 ^ 31) : z_ix (nI j) = j := nI_clamp h
theorem z_chkN {β : Type} {j n : Nat} {A : Option β} (h : j < n) (hn : n < 2 ^ 31) : z_chk (nI j) n A = A := by
  unfold z_chk
  rw [nI_toInt (by omega), if_pos ⟨by omega, by omega⟩]
theorem g_getN {a n j : Nat} {μ : z_M} (h : j < n) (hn : n < 2 ^ 31) : g_get a n (nI j) μ = μ.1 a j := by
  unfold g_get
  rw [if_neg (nI_pos (by omega)), if_pos (show nI j < Int32.ofNat n from nI_lt h hn), z_ixN (by omega)]
theorem g_getO {a n j : Nat} {μ : z_M} (h : n ≤ j) (hn : j < 2 ^ 31) : g_get a n (nI j) μ = 0 := by
  unfold g_get
  rw [if_neg (nI_pos (by omega)), if_neg (show ¬ nI j < Int32.ofNat n from nI_nlt h hn)]
theorem g_getM {a n : Nat} {x : Int32} {μ : z_M} (h : x < 0) : g_get a n x μ = 0 := by
  unfold g_get
  rw [if_pos h]
theorem g_putN {a n j : Nat} {v : Int32} {μ : z_M} (h : j < n) (hn : n < 2 ^ 31) : g_put a n (nI j) v μ = z_sI μ a j v := by
  unfold g_put
  rw [if_neg (nI_pos (by omega)), if_pos (show nI j < Int32.ofNat n from nI_lt h hn), z_ixN (by omega)]
theorem g_putO {a n j : Nat} {v : Int32} {μ : z_M} (h : n ≤ j) (hn : j < 2 ^ 31) : g_put a n (nI j) v μ = μ := by
  unfold g_put
  rw [if_neg (nI_pos (by omega)), if_neg (show ¬ nI j < Int32.ofNat n from nI_nlt h hn)]
theorem nI_lt0 {j : Nat} (h : j < 2 ^ 31) : (nI j < 0) = False := eq_false (nI_pos h)
theorem nI_ltE {a b : Nat} (ha : a < 2 ^ 31) (hb : b < 2 ^ 31) : (nI a < nI b) = (a < b) := propext (nI_ltI ha hb)
theorem nI_eqE {a b : Nat} (ha : a < 2 ^ 31) (hb : b < 2 ^ 31) : (nI a = nI b) = (a = b) := propext (nI_eq ha hb)
/-- an int between 0 and a count is a small number -/
theorem nI_in' {x : Int32} {n : Nat} (hn : n < 2 ^ 31) (h0 : ¬ x < 0) (h1 : x < nI n) : ∃ j : Nat, j < n ∧ x = nI j := by
  obtain ⟨j, hj, rfl⟩ := nI_of h0
  exact ⟨j, (nI_ltI hj hn).1 h1, rfl⟩
theorem nI_in_c {x : Int32} {n : Nat} (hn : n < 2 ^ 31) : (¬ x < 0 ∧ x < nI n) ↔ ∃ j : Nat, j < n ∧ x = nI j := by
  constructor
  · rintro ⟨h0, h1⟩; exact nI_in' hn h0 h1
  · rintro ⟨j, hj, rfl⟩; exact ⟨nI_pos (by omega), nI_lt hj hn⟩
theorem nI_toNat (n : Nat) (h : n < 2 ^ 31) : (nI n).toInt = n := nI_toInt h
/-- literals -/
theorem nL0 : (0 : Int32) = nI 0 := rfl
theorem nL1 : (1 : Int32) = nI 1 := rfl
theorem nL2 : (2 : Int32) = nI 2 := rfl
theorem nL3 : (3 : Int32) = nI 3 := rfl
theorem nL4 : (4 : Int32) = nI 4 := rfl
theorem nL5 : (5 : Int32) = nI 5 := rfl
theorem nL8 : (8 : Int32) = nI 8 := rfl
theorem nL12 : (12 : Int32) = nI 12 := rfl
theorem nI_lt3 {a : Nat} (ha : a < 2 ^ 31) : (nI a < 3) = (a < 3) := nI_ltE ha (by decide)
theorem nI_lt4 {a : Nat} (ha : a < 2 ^ 31) : (nI a < 4) = (a < 4) := nI_ltE ha (by decide)
theorem nI_lt8 {a : Nat} (ha : a < 2 ^ 31) : (nI a < 8) = (a < 8) := nI_ltE ha (by decide)
theorem nI_lt12 {a : Nat} (ha : a < 2 ^ 31) : (nI a < 12) = (a < 12) := nI_ltE ha (by decide)
theorem nI_gt0 {a : Nat} (ha : a < 2 ^ 31) : ((0 : Int32) < nI a) = (0 < a) := nI_ltE (by decide) ha
theorem nI_eq0 {a : Nat} (ha : a < 2 ^ 31) : (nI a = 0) = (a = 0) := nI_eqE ha (by decide)
theorem nI_em1 {a : Nat} (ha : a < 2 ^ 31) : (nI a = -1) = False := by
  apply eq_false
  intro h
  have h2 := congrArg Int32.toInt h
  rw [nI_toInt ha] at h2
  have h3 : (-1 : Int32).toInt = -1 := by decide
  omega
theorem i5_0 (h : Nat) : nI h * 5 + 0 = nI (5 * h) := by rw [nL5, nI_mulN, nL0, nI_add, Nat.mul_comm, Nat.add_zero]
theorem i5_1 (h : Nat) : nI h * 5 + 1 = nI (5 * h + 1) := by rw [nL5, nI_mulN, nL1, nI_add, Nat.mul_comm]
theorem i5_2 (h : Nat) : nI h * 5 + 2 = nI (5 * h + 2) := by rw [nL5, nI_mulN, nL2, nI_add, Nat.mul_comm]
theorem i5_3 (h : Nat) : nI h * 5 + 3 = nI (5 * h + 3) := by rw [nL5, nI_mulN, nL3, nI_add, Nat.mul_comm]
theorem i5_4 (h : Nat) : nI h * 5 + 4 = nI (5 * h + 4) := by rw [nL5, nI_mulN, nL4, nI_add, Nat.mul_comm]
theorem i5_k (h k : Nat) : nI h * 5 + nI k = nI (5 * h + k) := by rw [nL5, nI_mulN, nI_add, Nat.mul_comm]
theorem i4_0 (h : Nat) : nI h * 4 + 0 = nI (4 * h) := by rw [nL4, nI_mulN, nL0, nI_add, Nat.mul_comm, Nat.add_zero]
theorem i4_1 (h : Nat) : nI h * 4 + 1 = nI (4 * h + 1) := by rw [nL4, nI_mulN, nL1, nI_add, Nat.mul_comm]
theorem i4_2 (h : Nat) : nI h * 4 + 2 = nI (4 * h + 2) := by rw [nL4, nI_mulN, nL2, nI_add, Nat.mul_comm]
theorem i4_3 (h : Nat) : nI h * 4 + 3 = nI (4 * h + 3) := by rw [nL4, nI_mulN, nL3, nI_add, Nat.mul_comm]
theorem i4_k (h k : Nat) : nI h * 4 + nI k = nI (4 * h + k) := by rw [nL4, nI_mulN, nI_add, Nat.mul_comm]
theorem i8_h (r h : Nat) : 8 * nI r + nI h = nI (8 * r + h) := by rw [nL8, nI_mulN, nI_add]
theorem i8_r (r h : Nat) : nI r * 8 + nI h = nI (8 * r + h) := by rw [nL8, nI_mulN, nI_add, Nat.mul_comm]
theorem i3_0 (r : Nat) : 3 * nI r = nI (3 * r) := by rw [nL3, nI_mulN]
theorem i3_1 (r : Nat) : 3 * nI r + 1 = nI (3 * r + 1) := by rw [nL3, nI_mulN, nL1, nI_add]
theorem i3_2 (r : Nat) : 3 * nI r + 2 = nI (3 * r + 2) := by rw [nL3, nI_mulN, nL2, nI_add]
theorem i3_h (r h : Nat) : 3 * nI r + nI h = nI (3 * r + h) := by rw [nL3, nI_mulN, nI_add]
theorem i160 (s i : Nat) : nI s * 160 + nI i = nI (160 * s + i) := by rw [show (160 : Int32) = nI 160 from rfl, nI_mulN, nI_add, Nat.mul_comm]
theorem i160' (s i : Nat) : 160 * nI s + nI i = nI (160 * s + i) := by rw [show (160 : Int32) = nI 160 from rfl, nI_mulN, nI_add]
theorem i_succ (a : Nat) : nI a + 1 = nI (a + 1) := nI_1 a
theorem i_add2 (a : Nat) : nI a + 2 = nI (a + 2) := by rw [nL2, nI_add]
theorem i_pred {a : Nat} (h : 0 < a) : nI a - 1 = nI (a - 1) := by
  obtain ⟨b, rfl⟩ : ∃ b, a = b + 1 := ⟨a - 1, by omega⟩
  rw [nI_pred]; rfl
theorem i_pred' {a : Nat} (h : 0 < a) : nI a + (-1) = nI (a - 1) := by
  rw [← i_pred h]; rw [Int32.sub_eq_add_neg]
theorem sI1 (μ : z_M) (k j : Nat) (v : Int32) (k' j' : Nat) : (z_sI μ k j v).1 k' j' = if k' = k ∧ j' = j then v else μ.1 k' j' := rfl
theorem sI2 (μ : z_M) (k j : Nat) (v : Int32) : (z_sI μ k j v).2 = μ.2 := rfl
theorem sL1 (μ : z_M) (k j : Nat) (v : Int64) : (z_sL μ k j v).1 = μ.1 := rfl
theorem sL2 (μ : z_M) (k j : Nat) (v : Int64) (k' j' : Nat) : (z_sL μ k j v).2 k' j' = if k' = k ∧ j' = j then v else μ.2 k' j' := rfl
theorem z_bindS {β γ : Type} (x : β) (f : β → Option γ) : z_bind (some x) f = f x := rfl
theorem z_letE {α β : Type} (x : α) (f : α → β) : z_let x f = f x := rfl
theorem z_boolE {β : Type} {v : Int32} {A : Option β} (h : v = 0 ∨ v = 1) : z_bool v A = A := by unfold z_bool; rw [if_pos h]
/-- the street as it is: a table; rows 0-4 of houses (kind, said, a, known, visits), 5-8 of ways (house, other, minutes, shut), 9 what is behind, 10 counts (houses, ways, lag, bird, gone, visits, seed) -/
abbrev zS : Type := Nat → Nat → Int32
def sU (S : zS) (a i : Nat) (v : Int32) : zS := fun a' i' => if a' = a ∧ i' = i then v else S a' i'
theorem sUE (S : zS) (a i : Nat) (v : Int32) (a' i' : Nat) : sU S a i v a' i' = if a' = a ∧ i' = i then v else S a' i' := rfl
def StC (q : Nat) (μ : z_M) (S : zS) : Prop := (∀ k h, k < 5 → h < 8 → μ.1 (q + 2) (5 * h + k) = S k h) ∧ (∀ k w, k < 4 → w < 12 → μ.1 (q + 4) (4 * w + k) = S (5 + k) w) ∧ (∀ i, i < 3 → μ.1 (q + 6) i = S 9 i) ∧ ∀ i, i < 7 → μ.1 q (3 + i) = S 10 i
/-- the reference's street -/
def StM (ν : z_M) (S : zS) : Prop := (∀ h, h < 8 → ν.1 2 h = S 0 h ∧ ν.1 3 h = S 1 h ∧ ν.1 4 h = S 2 h ∧ ν.1 10 h = S 3 h ∧ ν.1 11 h = S 4 h) ∧ (∀ w, w < 12 → ν.1 5 w = S 5 w ∧ ν.1 6 w = S 6 w ∧ ν.1 7 w = S 7 w ∧ ν.1 8 w = S 8 w) ∧ (∃ m, m ≤ 3 ∧ ν.1 14 0 = nI m ∧ ∀ i, i < 3 → S 9 i = if i < m then ν.1 13 i else 0) ∧ ν.1 0 8 = S 10 0 ∧ ν.1 0 9 = S 10 1 ∧ ν.1 0 10 = S 10 2 ∧ ν.1 9 0 = S 10 3 ∧ ν.1 0 11 = S 10 4 ∧ ν.1 0 12 = S 10 5 ∧ ν.1 0 13 = S 10 6
/-- how many houses, ways; the lag -/
def sH (S : zS) : Nat := (S 10 0).toNatClampNeg
def sW (S : zS) : Nat := (S 10 1).toNatClampNeg
def sG (S : zS) : Nat := (S 10 2).toNatClampNeg
def zB (v : Int32) (n : Nat) : Prop := ∃ j, j < n ∧ v = nI j
/-- what holds of every street; visits stay under N -/
def Vd (N : Nat) (S : zS) : Prop := (∃ H, H ≤ 8 ∧ S 10 0 = nI H) ∧ (∃ W, W ≤ 12 ∧ S 10 1 = nI W) ∧ (∃ g, 1 ≤ g ∧ g ≤ 3 ∧ S 10 2 = nI g) ∧ (S 10 3 = -1 ∨ zB (S 10 3) (sH S)) ∧ (∀ h, h < 8 → zB (S 0 h) 7 ∧ zB (S 1 h) 256 ∧ zB (S 2 h) 256 ∧ zB (S 3 h) 256 ∧ zB (S 4 h) N) ∧ (∀ w, w < sW S → zB (S 5 w) (sH S) ∧ zB (S 6 w) (sH S) ∧ S 5 w ≠ S 6 w ∧ zB (S 7 w) 61) ∧ (∀ w, w < 12 → zB (S 8 w) 2) ∧ ∀ i, i < 3 → zB (S 9 i) 256
/-! stepping -/
theorem z_letX {α τ : Type} {x : α} {f : α → Option (τ × z_M)} {v : τ} {P : z_M → Prop} (h : ∀ m, m = x → ∃ ν', f m = some (v, ν') ∧ P ν') : ∃ ν', z_let x f = some (v, ν') ∧ P ν' := h x rfl
theorem z_bindX {α τ : Type} {F : Option (α × z_M)} {a : α} {Q : z_M → Prop} {f : α × z_M → Option (τ × z_M)} {v : τ} {P : z_M → Prop} (hF : ∃ m, F = some (a, m) ∧ Q m) (h : ∀ m, Q m → ∃ ν', f (a, m) = some (v, ν') ∧ P ν') : ∃ ν', z_bind F f = some (v, ν') ∧ P ν' := by
  obtain ⟨m, h1, h2⟩ := hF
  rw [h1, z_bindS]; exact h m h2
theorem z_ifT {α : Type} {C : Prop} {hC : Decidable C} {A B : Option (α × z_M)} {v : α} {P : z_M → Prop} (c : C) (h : ∃ ν', A = some (v, ν') ∧ P ν') : ∃ ν', (@ite _ C hC A B) = some (v, ν') ∧ P ν' := by rw [if_pos c]; exact h
theorem z_ifF {α : Type} {C : Prop} {hC : Decidable C} {A B : Option (α × z_M)} {v : α} {P : z_M → Prop} (c : ¬ C) (h : ∃ ν', B = some (v, ν') ∧ P ν') : ∃ ν', (@ite _ C hC A B) = some (v, ν') ∧ P ν' := by rw [if_neg c]; exact h
theorem z_ifB {α : Type} {C : Prop} {hC : Decidable C} {A B : Option (α × z_M)} {v : α} {P : z_M → Prop} (h1 : C → ∃ ν', A = some (v, ν') ∧ P ν') (h2 : ¬ C → ∃ ν', B = some (v, ν') ∧ P ν') : ∃ ν', (@ite _ C hC A B) = some (v, ν') ∧ P ν' := by
  by_cases c : C
  · rw [if_pos c]; exact h1 c
  · rw [if_neg c]; exact h2 c
