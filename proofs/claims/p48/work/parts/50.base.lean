/-! the class: numbers, memory, the street as a table (out of the rows of whole) -/
theorem nI_mulN (a b : Nat) : nI a * nI b = nI (a * b) := (Int32.ofNat_mul a b).symm
theorem nI_inj {a b : Nat} (ha : a < 2 ^ 31) (hb : b < 2 ^ 31) (h : nI a = nI b) : a = b := (nI_eq ha hb).1 h
theorem nI_ne {a b : Nat} (ha : a < 2 ^ 31) (hb : b < 2 ^ 31) (h : a ≠ b) : nI a ≠ nI b := fun e => h (nI_inj ha hb e)
theorem z_ixN {j : Nat} (h : j < 2 ^ 31) : z_ix (nI j) = j := nI_clamp h
theorem z_chkN {β : Type} {j n : Nat} {A : Option β} (h : j < n) (hn : n < 2 ^ 31) : z_chk (nI j) n A = A := by
  unfold z_chk
  rw [nI_toInt (by omega), if_pos ⟨by omega, by omega⟩]
theorem g_getN {a n j : Nat} {μ : z_M} (h : j < n) (hn : n < 2 ^ 31) : g_get a n (nI j) μ = μ.1 a j := by
  unfold g_get
  rw [if_neg (nI_pos (by omega)), if_pos (show nI j < Int32.ofNat n from nI_lt h hn), z_ixN (by omega)]
theorem g_getO {a n j : Nat} {μ : z_M} (h : n ≤ j) (hn : j < 2 ^ 31) : g_get a n (nI j) μ = 0 := by
  unfold g_get
  rw [if_neg (nI_pos (by omega)), if_neg (show ¬ nI j < Int32.ofNat n from nI_nlt h hn)]
theorem g_getM {a n : Nat} {x : Int32} {μ : z_M} (h : x < 0) : g_get a n x μ = 0 := by
  unfold g_get
  rw [if_pos h]
theorem g_putN {a n j : Nat} {v : Int32} {μ : z_M} (h : j < n) (hn : n < 2 ^ 31) : g_put a n (nI j) v μ = z_sI μ a j v := by
  unfold g_put
  rw [if_neg (nI_pos (by omega)), if_pos (show nI j < Int32.ofNat n from nI_lt h hn), z_ixN (by omega)]
theorem g_putO {a n j : Nat} {v : Int32} {μ : z_M} (h : n ≤ j) (hn : j < 2 ^ 31) : g_put a n (nI j) v μ = μ := by
  unfold g_put
  rw [if_neg (nI_pos (by omega)), if_neg (show ¬ nI j < Int32.ofNat n from nI_nlt h hn)]
theorem nI_lt0 {j : Nat} (h : j < 2 ^ 31) : (nI j < 0) = False := eq_false (nI_pos h)
theorem nI_ltE {a b : Nat} (ha : a < 2 ^ 31) (hb : b < 2 ^ 31) : (nI a < nI b) = (a < b) := propext (nI_ltI ha hb)
theorem nI_eqE {a b : Nat} (ha : a < 2 ^ 31) (hb : b < 2 ^ 31) : (nI a = nI b) = (a = b) := propext (nI_eq ha hb)
/-- an int between 0 and a count is a small number -/
theorem nI_in' {x : Int32} {n : Nat} (hn : n < 2 ^ 31) (h0 : ¬ x < 0) (h1 : x < nI n) : ∃ j : Nat, j < n ∧ x = nI j := by
  obtain ⟨j, hj, rfl⟩ := nI_of h0
  exact ⟨j, (nI_ltI hj hn).1 h1, rfl⟩
theorem nI_in_c {x : Int32} {n : Nat} (hn : n < 2 ^ 31) : (¬ x < 0 ∧ x < nI n) ↔ ∃ j : Nat, j < n ∧ x = nI j := by
  constructor
  · rintro ⟨h0, h1⟩; exact nI_in' hn h0 h1
  · rintro ⟨j, hj, rfl⟩; exact ⟨nI_pos (by omega), nI_lt hj hn⟩
theorem nI_toNat (n : Nat) (h : n < 2 ^ 31) : (nI n).toInt = n := nI_toInt h
/-- literals -/
theorem nL0 : (0 : Int32) = nI 0 := rfl
theorem nL1 : (1 : Int32) = nI 1 := rfl
theorem nL2 : (2 : Int32) = nI 2 := rfl
theorem nL3 : (3 : Int32) = nI 3 := rfl
theorem nL4 : (4 : Int32) = nI 4 := rfl
theorem nL5 : (5 : Int32) = nI 5 := rfl
theorem nL8 : (8 : Int32) = nI 8 := rfl
theorem nL12 : (12 : Int32) = nI 12 := rfl
theorem nI_lt3 {a : Nat} (ha : a < 2 ^ 31) : (nI a < 3) = (a < 3) := nI_ltE ha (by decide)
theorem nI_lt4 {a : Nat} (ha : a < 2 ^ 31) : (nI a < 4) = (a < 4) := nI_ltE ha (by decide)
theorem nI_lt8 {a : Nat} (ha : a < 2 ^ 31) : (nI a < 8) = (a < 8) := nI_ltE ha (by decide)
theorem nI_lt12 {a : Nat} (ha : a < 2 ^ 31) : (nI a < 12) = (a < 12) := nI_ltE ha (by decide)
theorem nI_gt0 {a : Nat} (ha : a < 2 ^ 31) : ((0 : Int32) < nI a) = (0 < a) := nI_ltE (by decide) ha
theorem nI_eq0 {a : Nat} (ha : a < 2 ^ 31) : (nI a = 0) = (a = 0) := nI_eqE ha (by decide)
theorem nI_em1 {a : Nat} (ha : a < 2 ^ 31) : (nI a = -1) = False := by
  apply eq_false
  intro h
  have h2 := congrArg Int32.toInt h
  rw [nI_toInt ha] at h2
  have h3 : (-1 : Int32).toInt = -1 := by decide
  omega
theorem i5_0 (h : Nat) : nI h * 5 + 0 = nI (5 * h) := by rw [nL5, nI_mulN, nL0, nI_add, Nat.mul_comm, Nat.add_zero]
theorem i5_1 (h : Nat) : nI h * 5 + 1 = nI (5 * h + 1) := by rw [nL5, nI_mulN, nL1, nI_add, Nat.mul_comm]
theorem i5_2 (h : Nat) : nI h * 5 + 2 = nI (5 * h + 2) := by rw [nL5, nI_mulN, nL2, nI_add, Nat.mul_comm]
theorem i5_3 (h : Nat) : nI h * 5 + 3 = nI (5 * h + 3) := by rw [nL5, nI_mulN, nL3, nI_add, Nat.mul_comm]
theorem i5_4 (h : Nat) : nI h * 5 + 4 = nI (5 * h + 4) := by rw [nL5, nI_mulN, nL4, nI_add, Nat.mul_comm]
theorem i5_k (h k : Nat) : nI h * 5 + nI k = nI (5 * h + k) := by rw [nL5, nI_mulN, nI_add, Nat.mul_comm]
theorem i4_0 (h : Nat) : nI h * 4 + 0 = nI (4 * h) := by rw [nL4, nI_mulN, nL0, nI_add, Nat.mul_comm, Nat.add_zero]
theorem i4_1 (h : Nat) : nI h * 4 + 1 = nI (4 * h + 1) := by rw [nL4, nI_mulN, nL1, nI_add, Nat.mul_comm]
theorem i4_2 (h : Nat) : nI h * 4 + 2 = nI (4 * h + 2) := by rw [nL4, nI_mulN, nL2, nI_add, Nat.mul_comm]
theorem i4_3 (h : Nat) : nI h * 4 + 3 = nI (4 * h + 3) := by rw [nL4, nI_mulN, nL3, nI_add, Nat.mul_comm]
theorem i4_k (h k : Nat) : nI h * 4 + nI k = nI (4 * h + k) := by rw [nL4, nI_mulN, nI_add, Nat.mul_comm]
theorem i8_h (r h : Nat) : 8 * nI r + nI h = nI (8 * r + h) := by rw [nL8, nI_mulN, nI_add]
theorem i8_r (r h : Nat) : nI r * 8 + nI h = nI (8 * r + h) := by rw [nL8, nI_mulN, nI_add, Nat.mul_comm]
theorem i3_0 (r : Nat) : 3 * nI r = nI (3 * r) := by rw [nL3, nI_mulN]
theorem i3_1 (r : Nat) : 3 * nI r + 1 = nI (3 * r + 1) := by rw [nL3, nI_mulN, nL1, nI_add]
theorem i3_2 (r : Nat) : 3 * nI r + 2 = nI (3 * r + 2) := by rw [nL3, nI_mulN, nL2, nI_add]
theorem i3_h (r h : Nat) : 3 * nI r + nI h = nI (3 * r + h) := by rw [nL3, nI_mulN, nI_add]
theorem i160 (s i : Nat) : nI s * 160 + nI i = nI (160 * s + i) := by rw [show (160 : Int32) = nI 160 from rfl, nI_mulN, nI_add, Nat.mul_comm]
theorem i160' (s i : Nat) : 160 * nI s + nI i = nI (160 * s + i) := by rw [show (160 : Int32) = nI 160 from rfl, nI_mulN, nI_add]
theorem i_succ (a : Nat) : nI a + 1 = nI (a + 1) := nI_1 a
theorem i_add2 (a : Nat) : nI a + 2 = nI (a + 2) := by rw [nL2, nI_add]
theorem i_pred {a : Nat} (h : 0 < a) : nI a - 1 = nI (a - 1) := by
  obtain ⟨b, rfl⟩ : ∃ b, a = b + 1 := ⟨a - 1, by omega⟩
  rw [nI_pred]; rfl
theorem i_pred' {a : Nat} (h : 0 < a) : nI a + (-1) = nI (a - 1) := by
  rw [← i_pred h]; rw [Int32.sub_eq_add_neg]
theorem sI1 (μ : z_M) (k j : Nat) (v : Int32) (k' j' : Nat) : (z_sI μ k j v).1 k' j' = if k' = k ∧ j' = j then v else μ.1 k' j' := rfl
theorem sI2 (μ : z_M) (k j : Nat) (v : Int32) : (z_sI μ k j v).2 = μ.2 := rfl
theorem sL1 (μ : z_M) (k j : Nat) (v : Int64) : (z_sL μ k j v).1 = μ.1 := rfl
theorem sL2 (μ : z_M) (k j : Nat) (v : Int64) (k' j' : Nat) : (z_sL μ k j v).2 k' j' = if k' = k ∧ j' = j then v else μ.2 k' j' := rfl
theorem z_bindS {β γ : Type} (x : β) (f : β → Option γ) : z_bind (some x) f = f x := rfl
theorem z_letE {α β : Type} (x : α) (f : α → β) : z_let x f = f x := rfl
theorem z_boolE {β : Type} {v : Int32} {A : Option β} (h : v = 0 ∨ v = 1) : z_bool v A = A := by unfold z_bool; rw [if_pos h]
/-- the street as it is: a table; rows 0-4 of houses (kind, said, a, known, visits), 5-8 of ways (house, other, minutes, shut), 9 what is behind, 10 counts (houses, ways, lag, bird, gone, visits, seed) -/
abbrev zS : Type := Nat → Nat → Int32
def sU (S : zS) (a i : Nat) (v : Int32) : zS := fun a' i' => if a' = a ∧ i' = i then v else S a' i'
theorem sUE (S : zS) (a i : Nat) (v : Int32) (a' i' : Nat) : sU S a i v a' i' = if a' = a ∧ i' = i then v else S a' i' := rfl
def StC (q : Nat) (μ : z_M) (S : zS) : Prop := (∀ k h, k < 5 → h < 8 → μ.1 (q + 2) (5 * h + k) = S k h) ∧ (∀ k w, k < 4 → w < 12 → μ.1 (q + 4) (4 * w + k) = S (5 + k) w) ∧ (∀ i, i < 3 → μ.1 (q + 6) i = S 9 i) ∧ ∀ i, i < 7 → μ.1 q (3 + i) = S 10 i
/-- how many houses, ways; the lag -/
def sH (S : zS) : Nat := (S 10 0).toNatClampNeg
def sW (S : zS) : Nat := (S 10 1).toNatClampNeg
def sG (S : zS) : Nat := (S 10 2).toNatClampNeg
def zB (v : Int32) (n : Nat) : Prop := ∃ j, j < n ∧ v = nI j
/-- what holds of every street; visits stay under N -/
def Vd (N : Nat) (S : zS) : Prop := (∃ H, H ≤ 8 ∧ S 10 0 = nI H) ∧ (∃ W, W ≤ 12 ∧ S 10 1 = nI W) ∧ (∃ g, 1 ≤ g ∧ g ≤ 3 ∧ S 10 2 = nI g) ∧ (S 10 3 = -1 ∨ zB (S 10 3) (sH S)) ∧ (∀ h, h < 8 → zB (S 0 h) 7 ∧ zB (S 1 h) 256 ∧ zB (S 2 h) 256 ∧ zB (S 3 h) 256 ∧ zB (S 4 h) N) ∧ (∀ w, w < sW S → zB (S 5 w) (sH S) ∧ zB (S 6 w) (sH S) ∧ S 5 w ≠ S 6 w ∧ zB (S 7 w) 61) ∧ (∀ w, w < 12 → zB (S 8 w) 2) ∧ ∀ i, i < 3 → zB (S 9 i) 256
theorem z_letX {α τ : Type} {x : α} {f : α → Option (τ × z_M)} {v : τ} {P : z_M → Prop} (h : ∀ m, m = x → ∃ ν', f m = some (v, ν') ∧ P ν') : ∃ ν', z_let x f = some (v, ν') ∧ P ν' := h x rfl
theorem z_bindX {α τ : Type} {F : Option (α × z_M)} {a : α} {Q : z_M → Prop} {f : α × z_M → Option (τ × z_M)} {v : τ} {P : z_M → Prop} (hF : ∃ m, F = some (a, m) ∧ Q m) (h : ∀ m, Q m → ∃ ν', f (a, m) = some (v, ν') ∧ P ν') : ∃ ν', z_bind F f = some (v, ν') ∧ P ν' := by
  obtain ⟨m, h1, h2⟩ := hF
  rw [h1, z_bindS]; exact h m h2
theorem z_ifT {α : Type} {C : Prop} {hC : Decidable C} {A B : Option (α × z_M)} {v : α} {P : z_M → Prop} (c : C) (h : ∃ ν', A = some (v, ν') ∧ P ν') : ∃ ν', (@ite _ C hC A B) = some (v, ν') ∧ P ν' := by rw [if_pos c]; exact h
theorem z_ifF {α : Type} {C : Prop} {hC : Decidable C} {A B : Option (α × z_M)} {v : α} {P : z_M → Prop} (c : ¬ C) (h : ∃ ν', B = some (v, ν') ∧ P ν') : ∃ ν', (@ite _ C hC A B) = some (v, ν') ∧ P ν' := by rw [if_neg c]; exact h
theorem z_ifB {α : Type} {C : Prop} {hC : Decidable C} {A B : Option (α × z_M)} {v : α} {P : z_M → Prop} (h1 : C → ∃ ν', A = some (v, ν') ∧ P ν') (h2 : ¬ C → ∃ ν', B = some (v, ν') ∧ P ν') : ∃ ν', (@ite _ C hC A B) = some (v, ν') ∧ P ν' := by
  by_cases c : C
  · rw [if_pos c]; exact h1 c
  · rw [if_neg c]; exact h2 c
/-- what a thinking method keeps -/
def LC (k j : Nat) : Prop := (k = 0 ∧ (j = 9 ∨ j = 10)) ∨ k = 1 ∨ k = 3 ∨ k = 5 ∨ k = 7 ∨ k = 8 ∨ k = 10 ∨ k = 12 ∨ k = 14 ∨ k = 25 ∨ k = 27 ∨ (k = 28 ∧ j = 1) ∨ k = 30 ∨ (k = 41 ∧ j = 0) ∨ k = 49
def KC (μ μ' : z_M) : Prop := (∀ k j, LC k j → μ'.1 k j = μ.1 k j) ∧ μ'.2 = μ.2
theorem KC.rf (μ : z_M) : KC μ μ := ⟨fun _ _ _ => rfl, rfl⟩
theorem KC.tr {a b c : z_M} (h : KC a b) (k : KC b c) : KC a c := ⟨fun x y z => (k.1 x y z).trans (h.1 x y z), k.2.trans h.2⟩
theorem KC.sI {a b : z_M} (h : KC a b) {k j : Nat} {v : Int32} (hk : ¬ LC k j) : KC a (z_sI b k j v) := by
  refine ⟨fun x y z => ?_, h.2⟩
  rw [sI1, if_neg (fun e => hk (by rw [← e.1, ← e.2]; exact z))]
  exact h.1 x y z
/-- the class's street reads only its own cells -/
theorem StC.same {q : Nat} {μ μ' : z_M} {S : zS} (h : StC q μ S) (h1 : ∀ j, μ'.1 (q + 2) j = μ.1 (q + 2) j) (h2 : ∀ j, μ'.1 (q + 4) j = μ.1 (q + 4) j) (h3 : ∀ j, μ'.1 (q + 6) j = μ.1 (q + 6) j) (h4 : ∀ j, μ'.1 q j = μ.1 q j) : StC q μ' S :=
  ⟨fun k x a b => (h1 _).trans (h.1 k x a b), fun k x a b => (h2 _).trans (h.2.1 k x a b), fun i a => (h3 _).trans (h.2.2.1 i a), fun i a => (h4 _).trans (h.2.2.2 i a)⟩
theorem zB.mono {v : Int32} {n m : Nat} (h : zB v n) (hnm : n ≤ m) : zB v m := by
  obtain ⟨j, h1, h2⟩ := h; exact ⟨j, by omega, h2⟩
theorem Vd.mono {N M : Nat} {S : zS} (h : Vd N S) (hN : N ≤ M) : Vd M S := by
  obtain ⟨h1, h2, h3, h4, h5, h6⟩ := h
  exact ⟨h1, h2, h3, h4, fun x hx => ⟨(h5 x hx).1, (h5 x hx).2.1, (h5 x hx).2.2.1, (h5 x hx).2.2.2.1, (h5 x hx).2.2.2.2.mono hN⟩, h6⟩
theorem cO0 {q h : Nat} {μ : z_M} {S : zS} (s1 : StC q μ S) (hh : h < 8) : f_X6_ofHouse q (nI h) 0 μ = S 0 h := by
  unfold f_X6_ofHouse
  rw [i5_0, g_getN (by omega) (by decide)]
  exact s1.1 0 h (by omega) hh
theorem cP0 {q h : Nat} {v : Int32} {μ : z_M} (hh : h < 8) : f_X6_keepOfHouse q (nI h) 0 v μ = z_sI μ (q + 2) (5 * h + 0) v := by
  unfold f_X6_keepOfHouse
  rw [i5_0, g_putN (by omega) (by decide)]
  rfl
theorem cO1 {q h : Nat} {μ : z_M} {S : zS} (s1 : StC q μ S) (hh : h < 8) : f_X6_ofHouse q (nI h) 1 μ = S 1 h := by
  unfold f_X6_ofHouse
  rw [i5_1, g_getN (by omega) (by decide)]
  exact s1.1 1 h (by omega) hh
theorem cP1 {q h : Nat} {v : Int32} {μ : z_M} (hh : h < 8) : f_X6_keepOfHouse q (nI h) 1 v μ = z_sI μ (q + 2) (5 * h + 1) v := by
  unfold f_X6_keepOfHouse
  rw [i5_1, g_putN (by omega) (by decide)]
  rfl
theorem cO2 {q h : Nat} {μ : z_M} {S : zS} (s1 : StC q μ S) (hh : h < 8) : f_X6_ofHouse q (nI h) 2 μ = S 2 h := by
  unfold f_X6_ofHouse
  rw [i5_2, g_getN (by omega) (by decide)]
  exact s1.1 2 h (by omega) hh
theorem cP2 {q h : Nat} {v : Int32} {μ : z_M} (hh : h < 8) : f_X6_keepOfHouse q (nI h) 2 v μ = z_sI μ (q + 2) (5 * h + 2) v := by
  unfold f_X6_keepOfHouse
  rw [i5_2, g_putN (by omega) (by decide)]
  rfl
theorem cO3 {q h : Nat} {μ : z_M} {S : zS} (s1 : StC q μ S) (hh : h < 8) : f_X6_ofHouse q (nI h) 3 μ = S 3 h := by
  unfold f_X6_ofHouse
  rw [i5_3, g_getN (by omega) (by decide)]
  exact s1.1 3 h (by omega) hh
theorem cP3 {q h : Nat} {v : Int32} {μ : z_M} (hh : h < 8) : f_X6_keepOfHouse q (nI h) 3 v μ = z_sI μ (q + 2) (5 * h + 3) v := by
  unfold f_X6_keepOfHouse
  rw [i5_3, g_putN (by omega) (by decide)]
  rfl
theorem cO4 {q h : Nat} {μ : z_M} {S : zS} (s1 : StC q μ S) (hh : h < 8) : f_X6_ofHouse q (nI h) 4 μ = S 4 h := by
  unfold f_X6_ofHouse
  rw [i5_4, g_getN (by omega) (by decide)]
  exact s1.1 4 h (by omega) hh
theorem cP4 {q h : Nat} {v : Int32} {μ : z_M} (hh : h < 8) : f_X6_keepOfHouse q (nI h) 4 v μ = z_sI μ (q + 2) (5 * h + 4) v := by
  unfold f_X6_keepOfHouse
  rw [i5_4, g_putN (by omega) (by decide)]
  rfl
theorem cW0 {q h : Nat} {μ : z_M} {S : zS} (s1 : StC q μ S) (hh : h < 12) : f_X6_ofWay q (nI h) 0 μ = S 5 h := by
  unfold f_X6_ofWay
  rw [i4_0, g_getN (by omega) (by decide)]
  exact s1.2.1 0 h (by omega) hh
theorem cV0 {q h : Nat} {v : Int32} {μ : z_M} (hh : h < 12) : f_X6_keepOfWay q (nI h) 0 v μ = z_sI μ (q + 4) (4 * h + 0) v := by
  unfold f_X6_keepOfWay
  rw [i4_0, g_putN (by omega) (by decide)]
  rfl
theorem cW1 {q h : Nat} {μ : z_M} {S : zS} (s1 : StC q μ S) (hh : h < 12) : f_X6_ofWay q (nI h) 1 μ = S 6 h := by
  unfold f_X6_ofWay
  rw [i4_1, g_getN (by omega) (by decide)]
  exact s1.2.1 1 h (by omega) hh
theorem cV1 {q h : Nat} {v : Int32} {μ : z_M} (hh : h < 12) : f_X6_keepOfWay q (nI h) 1 v μ = z_sI μ (q + 4) (4 * h + 1) v := by
  unfold f_X6_keepOfWay
  rw [i4_1, g_putN (by omega) (by decide)]
  rfl
theorem cW2 {q h : Nat} {μ : z_M} {S : zS} (s1 : StC q μ S) (hh : h < 12) : f_X6_ofWay q (nI h) 2 μ = S 7 h := by
  unfold f_X6_ofWay
  rw [i4_2, g_getN (by omega) (by decide)]
  exact s1.2.1 2 h (by omega) hh
theorem cV2 {q h : Nat} {v : Int32} {μ : z_M} (hh : h < 12) : f_X6_keepOfWay q (nI h) 2 v μ = z_sI μ (q + 4) (4 * h + 2) v := by
  unfold f_X6_keepOfWay
  rw [i4_2, g_putN (by omega) (by decide)]
  rfl
theorem cW3 {q h : Nat} {μ : z_M} {S : zS} (s1 : StC q μ S) (hh : h < 12) : f_X6_ofWay q (nI h) 3 μ = S 8 h := by
  unfold f_X6_ofWay
  rw [i4_3, g_getN (by omega) (by decide)]
  exact s1.2.1 3 h (by omega) hh
theorem cV3 {q h : Nat} {v : Int32} {μ : z_M} (hh : h < 12) : f_X6_keepOfWay q (nI h) 3 v μ = z_sI μ (q + 4) (4 * h + 3) v := by
  unfold f_X6_keepOfWay
  rw [i4_3, g_putN (by omega) (by decide)]
  rfl
theorem StC.setH {q k x : Nat} {v : Int32} {μ : z_M} {S : zS} (s : StC q μ S) (hk : k < 5) (hx : x < 8) : StC q (z_sI μ (q + 2) (5 * x + k) v) (sU S k x v) := by
  refine ⟨fun k' x' a b => ?_, fun k' x' a b => ?_, fun i a => ?_, fun i a => ?_⟩
  · rw [sI1, sUE]
    by_cases e : k' = k ∧ x' = x
    · rw [if_pos e, if_pos ⟨rfl, by omega⟩]
    · rw [if_neg e, if_neg (by omega)]; exact s.1 k' x' a b
  · rw [sI1, sUE, if_neg (by omega), if_neg (by omega)]; exact s.2.1 k' x' a b
  · rw [sI1, sUE, if_neg (by omega), if_neg (by omega)]; exact s.2.2.1 i a
  · rw [sI1, sUE, if_neg (by omega), if_neg (by omega)]; exact s.2.2.2 i a
theorem StC.setW {q k x : Nat} {v : Int32} {μ : z_M} {S : zS} (s : StC q μ S) (hk : k < 4) (hx : x < 12) : StC q (z_sI μ (q + 4) (4 * x + k) v) (sU S (5 + k) x v) := by
  refine ⟨fun k' x' a b => ?_, fun k' x' a b => ?_, fun i a => ?_, fun i a => ?_⟩
  · rw [sI1, sUE, if_neg (by omega), if_neg (by omega)]; exact s.1 k' x' a b
  · rw [sI1, sUE]
    by_cases e : k' = k ∧ x' = x
    · rw [if_pos ⟨rfl, by omega⟩, if_pos (by omega)]
    · rw [if_neg (by omega), if_neg (by omega)]; exact s.2.1 k' x' a b
  · rw [sI1, sUE, if_neg (by omega), if_neg (by omega)]; exact s.2.2.1 i a
  · rw [sI1, sUE, if_neg (by omega), if_neg (by omega)]; exact s.2.2.2 i a
theorem StC.setB {q x : Nat} {v : Int32} {μ : z_M} {S : zS} (s : StC q μ S) (hx : x < 3) : StC q (z_sI μ (q + 6) x v) (sU S 9 x v) := by
  refine ⟨fun k' x' a b => ?_, fun k' x' a b => ?_, fun i a => ?_, fun i a => ?_⟩
  · rw [sI1, sUE, if_neg (by omega), if_neg (by omega)]; exact s.1 k' x' a b
  · rw [sI1, sUE, if_neg (by omega), if_neg (by omega)]; exact s.2.1 k' x' a b
  · rw [sI1, sUE]
    by_cases e : i = x
    · rw [if_pos ⟨rfl, e⟩, if_pos ⟨rfl, e⟩]
    · rw [if_neg (by omega), if_neg (by omega)]; exact s.2.2.1 i a
  · rw [sI1, sUE, if_neg (by omega), if_neg (by omega)]; exact s.2.2.2 i a
theorem StC.setN {q x : Nat} {v : Int32} {μ : z_M} {S : zS} (s : StC q μ S) (hx : x < 7) : StC q (z_sI μ q (3 + x) v) (sU S 10 x v) := by
  refine ⟨fun k' x' a b => ?_, fun k' x' a b => ?_, fun i a => ?_, fun i a => ?_⟩
  · rw [sI1, sUE, if_neg (by omega), if_neg (by omega)]; exact s.1 k' x' a b
  · rw [sI1, sUE, if_neg (by omega), if_neg (by omega)]; exact s.2.1 k' x' a b
  · rw [sI1, sUE, if_neg (by omega), if_neg (by omega)]; exact s.2.2.1 i a
  · rw [sI1, sUE]
    by_cases e : i = x
    · rw [if_pos ⟨rfl, by omega⟩, if_pos ⟨rfl, e⟩]
    · rw [if_neg (by omega), if_neg (by omega)]; exact s.2.2.2 i a
/-- what is behind the bird is forgotten -/
def sB0 (S : zS) : zS := fun a i => if a = 9 then 0 else S a i
theorem StC.clr {q : Nat} {μ : z_M} {S : zS} (s : StC q μ S) : StC q (g_clr (q + 6) 3 μ) (sB0 S) := by
  refine ⟨fun k' x' a b => ?_, fun k' x' a b => ?_, fun i a => ?_, fun i a => ?_⟩
  · show (if q + 2 = q + 6 ∧ _ then _ else _) = if k' = 9 then _ else _
    rw [if_neg (by omega), if_neg (by omega)]; exact s.1 k' x' a b
  · show (if q + 4 = q + 6 ∧ _ then _ else _) = if 5 + k' = 9 then _ else _
    rw [if_neg (by omega), if_neg (by omega)]; exact s.2.1 k' x' a b
  · show (if q + 6 = q + 6 ∧ i < 3 then _ else _) = if 9 = 9 then _ else _
    rw [if_pos ⟨rfl, a⟩, if_pos rfl]
  · show (if q = q + 6 ∧ _ then _ else _) = if 10 = 9 then _ else _
    rw [if_neg (by omega), if_neg (by omega)]; exact s.2.2.2 i a
theorem Vd.eqv {N : Nat} {S S' : zS} (V : Vd N S) (h : ∀ a i, (a ≠ 10 ∨ i < 4) → S' a i = S a i) : Vd N S' := by
  have e1 : sH S' = sH S := by unfold sH; rw [h 10 0 (by omega)]
  have e2 : sW S' = sW S := by unfold sW; rw [h 10 1 (by omega)]
  obtain ⟨h1, h2, h3, h4, h5, h6, h7, h8⟩ := V
  refine ⟨?_, ?_, ?_, ?_, fun x hx => ?_, fun x hx => ?_, fun x hx => ?_, fun x hx => ?_⟩
  · rw [h 10 0 (by omega)]; exact h1
  · rw [h 10 1 (by omega)]; exact h2
  · rw [h 10 2 (by omega)]; exact h3
  · rw [h 10 3 (by omega), e1]; exact h4
  · rw [h 0 x (by omega), h 1 x (by omega), h 2 x (by omega), h 3 x (by omega), h 4 x (by omega)]; exact h5 x hx
  · rw [e2] at hx
    rw [h 5 x (by omega), h 6 x (by omega), h 7 x (by omega), e1]; exact h6 x hx
  · rw [h 8 x (by omega)]; exact h7 x hx
  · rw [h 9 x (by omega)]; exact h8 x hx
theorem Vd.fld6 {N : Nat} {S : zS} {v : Int32} (V : Vd N S) : Vd N (sU S 10 6 v) := V.eqv (fun a i h => by rw [sUE, if_neg (by omega)])
def sD (a i : Nat) : Prop := (a < 5 ∧ i < 8) ∨ (5 ≤ a ∧ a < 9 ∧ i < 12) ∨ (a = 9 ∧ i < 3) ∨ (a = 10 ∧ i < 7)
theorem StC.eqv {q : Nat} {μ : z_M} {S S' : zS} (s : StC q μ S) (h : ∀ a i, sD a i → S a i = S' a i) : StC q μ S' :=
  ⟨fun k x a b => (s.1 k x a b).trans (h _ _ (by unfold sD; omega)), fun k x a b => (s.2.1 k x a b).trans (h _ _ (by unfold sD; omega)), fun i a => (s.2.2.1 i a).trans (h _ _ (by unfold sD; omega)), fun i a => (s.2.2.2 i a).trans (h _ _ (by unfold sD; omega))⟩
/-- the relation's street, opened -/
theorem sH_of {S : zS} {H : Nat} (h : S 10 0 = nI H) (hH : H ≤ 8) : sH S = H := by unfold sH; rw [h]; exact nI_clamp (by omega)
theorem sW_of {S : zS} {H : Nat} (h : S 10 1 = nI H) (hH : H ≤ 12) : sW S = H := by unfold sW; rw [h]; exact nI_clamp (by omega)
/-- an int: between 0 and a count, or below, or beyond -/
theorem n3 (x : Int32) {n : Nat} (hn : n < 2 ^ 31) : (∃ j, j < n ∧ x = nI j) ∨ x < 0 ∨ (∃ j, n ≤ j ∧ j < 2 ^ 31 ∧ x = nI j) := by
  by_cases h0 : x < 0
  · exact Or.inr (Or.inl h0)
  · obtain ⟨j, hj, rfl⟩ := nI_of h0
    rcases Nat.lt_or_ge j n with h | h
    · exact Or.inl ⟨j, h, rfl⟩
    · exact Or.inr (Or.inr ⟨j, h, hj, rfl⟩)
theorem o01 : ((0 : Int32) = 1) = False := by decide
theorem o10 : ((1 : Int32) = 0) = False := by decide
theorem refC1 (μ : z_M) : f_X8_refuse (-1) μ = (-1, z_sI μ 49 1 (μ.1 49 1 + 1)) := rfl
theorem refA1 (μ : z_M) : f_X8_refuseApart (-1) μ = (-1 - 10, z_sI μ 49 1 (μ.1 49 1 + 1)) := rfl
theorem ne0_1 : ((-1 : Int32) = 0) = False := by decide
theorem refC2 (μ : z_M) : f_X8_refuse (-2) μ = (-2, z_sI μ 49 2 (μ.1 49 2 + 1)) := rfl
theorem refA2 (μ : z_M) : f_X8_refuseApart (-2) μ = (-2 - 10, z_sI μ 49 2 (μ.1 49 2 + 1)) := rfl
theorem ne0_2 : ((-2 : Int32) = 0) = False := by decide
theorem refC3 (μ : z_M) : f_X8_refuse (-3) μ = (-3, z_sI μ 49 3 (μ.1 49 3 + 1)) := rfl
theorem refA3 (μ : z_M) : f_X8_refuseApart (-3) μ = (-3 - 10, z_sI μ 49 3 (μ.1 49 3 + 1)) := rfl
theorem ne0_3 : ((-3 : Int32) = 0) = False := by decide
theorem refC4 (μ : z_M) : f_X8_refuse (-4) μ = (-4, z_sI μ 49 4 (μ.1 49 4 + 1)) := rfl
theorem refA4 (μ : z_M) : f_X8_refuseApart (-4) μ = (-4 - 10, z_sI μ 49 4 (μ.1 49 4 + 1)) := rfl
theorem ne0_4 : ((-4 : Int32) = 0) = False := by decide
theorem refC5 (μ : z_M) : f_X8_refuse (-5) μ = (-5, z_sI μ 49 5 (μ.1 49 5 + 1)) := rfl
theorem refA5 (μ : z_M) : f_X8_refuseApart (-5) μ = (-5 - 10, z_sI μ 49 5 (μ.1 49 5 + 1)) := rfl
theorem ne0_5 : ((-5 : Int32) = 0) = False := by decide
theorem refC6 (μ : z_M) : f_X8_refuse (-6) μ = (-6, z_sI μ 49 6 (μ.1 49 6 + 1)) := rfl
theorem refA6 (μ : z_M) : f_X8_refuseApart (-6) μ = (-6 - 10, z_sI μ 49 6 (μ.1 49 6 + 1)) := rfl
theorem ne0_6 : ((-6 : Int32) = 0) = False := by decide
theorem refC7 (μ : z_M) : f_X8_refuse (-7) μ = (-7, z_sI μ 49 7 (μ.1 49 7 + 1)) := rfl
theorem refA7 (μ : z_M) : f_X8_refuseApart (-7) μ = (-7 - 10, z_sI μ 49 7 (μ.1 49 7 + 1)) := rfl
theorem ne0_7 : ((-7 : Int32) = 0) = False := by decide
def s_shy (S : zS) (h : Nat) (sp : Int32) : Int32 := if sp = 0 then S 1 h else S 1 h &&& (S 2 h ^^^ -1)
def s_ans (S : zS) (h : Nat) (sp kn vs : Int32) : Int32 :=
  if S 0 h = 1 then 0 else if S 0 h = 2 then S 1 h ||| kn else if S 0 h = 3 then S 1 h ||| kn ||| sp else if S 0 h = 4 then s_shy S h sp
  else if S 0 h = 5 then ((s_shy S h sp <<< (1 &&& 31)) ||| (s_shy S h sp >>> (7 &&& 31))) &&& 255 else if S 0 h = 6 then (if vs < S 2 h then 0 else S 1 h) else S 1 h
theorem cAns {q h : Nat} {sp kn vs : Int32} {μ : z_M} {S : zS} (s1 : StC q μ S) (hh : h < 8) : f_X6_answerAfter q (nI h) sp kn vs μ = s_ans S h sp (S 3 h ||| kn) (S 4 h + vs) := by
  have e0 : g_get (q + 2) 40 (nI h * 5 + 0) μ = S 0 h := cO0 s1 hh
  have e1 : g_get (q + 2) 40 (nI h * 5 + 1) μ = S 1 h := cO1 s1 hh
  have e2 : g_get (q + 2) 40 (nI h * 5 + 2) μ = S 2 h := cO2 s1 hh
  have e3 : g_get (q + 2) 40 (nI h * 5 + 3) μ = S 3 h := cO3 s1 hh
  have e4 : g_get (q + 2) 40 (nI h * 5 + 4) μ = S 4 h := cO4 s1 hh
  unfold f_X6_answerAfter s_ans s_shy
  simp only [z_letE, f_X6_answerAfter_b62, e0, e1, e2, e3, e4]
  by_cases h0 : sp = 0
  · simp only [if_pos h0]
  · simp only [if_neg h0]
/-- the bird's real visit -/
def sV (S : zS) (g h : Nat) : zS := fun a i => if a = 3 ∧ i = h then S 3 h ||| S 9 (g - 1) else if a = 4 ∧ i = h then S 4 h + 1 else if a = 9 then (if i = 0 then s_ans S h (S 9 (g - 1)) (S 3 h) (S 4 h) else S 9 (i - 1)) else if a = 10 ∧ i = 3 then nI h else if a = 10 ∧ i = 5 then S 10 5 + 1 else S a i
theorem cNext {q g : Nat} {μ : z_M} {S : zS} (s1 : StC q μ S) (hg : S 10 2 = nI g) (h1 : 1 ≤ g) (h3 : g ≤ 3) : f_X6_spokenNext q μ = S 9 (g - 1) := by
  unfold f_X6_spokenNext
  have e : μ.1 q 5 = nI g := (s1.2.2.2 2 (by omega)).trans hg
  rw [e, i_pred (by omega), g_getN (by omega) (by decide)]
  exact s1.2.2.1 _ (by omega)
theorem cAgo {q i : Nat} {μ : z_M} {S : zS} (s1 : StC q μ S) (h3 : i < 3) : f_X6_saidAgo q (nI i) μ = S 9 i := by
  unfold f_X6_saidAgo
  rw [g_getN (by omega) (by decide)]
  exact s1.2.2.1 _ h3
theorem or0 (x : Int32) : x ||| 0 = x := Int32.or_zero
theorem add0 (x : Int32) : x + 0 = x := Int32.add_zero x
theorem sI1f {μ : z_M} {k j : Nat} {v : Int32} {k' : Nat} (h : k' ≠ k) : (z_sI μ k j v).1 k' = μ.1 k' := by
  funext y; rw [sI1, if_neg (fun e => h e.1)]
theorem pB0 (a : Nat) (v : Int32) (μ : z_M) : g_put a 3 0 v μ = z_sI μ a 0 v := rfl
theorem pB1 (a : Nat) (v : Int32) (μ : z_M) : g_put a 3 1 v μ = z_sI μ a 1 v := rfl
theorem pB2 (a : Nat) (v : Int32) (μ : z_M) : g_put a 3 2 v μ = z_sI μ a 2 v := rfl
theorem gB0 (a : Nat) (μ : z_M) : g_get a 3 (1 - 1) μ = μ.1 a 0 := rfl
theorem gB1 (a : Nat) (μ : z_M) : g_get a 3 (2 - 1) μ = μ.1 a 1 := rfl
theorem cVisit {q g h : Nat} {μ : z_M} {S : zS} (s1 : StC q μ S) (hg : S 10 2 = nI g) (h1 : 1 ≤ g) (h3 : g ≤ 3) (hh : h < 8) (n : Nat) : ∃ μ', f_X6_visit q (n + 3) (nI h) μ = some (S 9 (g - 1), μ') ∧ StC q μ' (sV S g h) ∧ (∀ k, k ≠ q → k ≠ q + 2 → k ≠ q + 6 → μ'.1 k = μ.1 k) ∧ μ'.2 = μ.2 := by
  have eA := cAns (sp := S 9 (g - 1)) (kn := 0) (vs := 0) s1 hh
  rw [or0, add0] at eA
  unfold f_X6_visit
  simp only [z_letE, cNext s1 hg h1 h3, eA, cO3 s1 hh, cP3 hh, cP4 hh]
  have t1 := s1.setH (k := 3) (x := h) (v := S 3 h ||| S 9 (g - 1)) (by omega) hh
  have e4 : f_X6_ofHouse q (nI h) 4 (z_sI μ (q + 2) (5 * h + 3) (S 3 h ||| S 9 (g - 1))) = S 4 h := by
    rw [cO4 t1 hh, sUE, if_neg (by omega)]
  rw [e4]
  have t2 := t1.setH (k := 4) (x := h) (v := S 4 h + 1) (by omega) hh
  have f2 : ∀ k, k ≠ q + 2 → (z_sI (z_sI μ (q + 2) (5 * h + 3) (S 3 h ||| S 9 (g - 1))) (q + 2) (5 * h + 4) (S 4 h + 1)).1 k = μ.1 k := fun k hk => by rw [sI1f hk, sI1f hk]
  have f3 : (z_sI (z_sI μ (q + 2) (5 * h + 3) (S 3 h ||| S 9 (g - 1))) (q + 2) (5 * h + 4) (S 4 h + 1)).2 = μ.2 := rfl
  generalize z_sI (z_sI μ (q + 2) (5 * h + 3) (S 3 h ||| S 9 (g - 1))) (q + 2) (5 * h + 4) (S 4 h + 1) = m2 at t2 f2 f3 ⊢
  rw [f_X6_visit_h45, if_pos (by decide), z_letE, f_X6_visit_h45, if_pos (by decide), z_letE, f_X6_visit_h45, if_neg (by decide), z_letE, z_letE, z_letE]
  rw [show (2 : Int32) + -1 = 1 from by decide, gB1, gB0, pB2, pB1, pB0]
  have b1 := t2.2.2.1 0 (by omega)
  have b2 := t2.2.2.1 1 (by omega)
  refine ⟨_, rfl, ?_, fun k h1 h2 h3 => ?_, ?_⟩
  · have t3 := ((((t2.setB (x := 2) (v := m2.1 (q + 6) 1) (by omega)).setB (x := 1) (v := (z_sI m2 (q + 6) 2 (m2.1 (q + 6) 1)).1 (q + 6) 0) (by omega)).setB (x := 0) (v := s_ans S h (S 9 (g - 1)) (S 3 h) (S 4 h)) (by omega)).setN (x := 3) (v := nI h) (by omega))
    have t4 := t3.setN (x := 5) (v := S 10 5 + 1) (by omega)
    have e8 : (z_sI (z_sI (z_sI (z_sI m2 (q + 6) 2 (m2.1 (q + 6) 1)) (q + 6) 1 ((z_sI m2 (q + 6) 2 (m2.1 (q + 6) 1)).1 (q + 6) 0)) (q + 6) 0 (s_ans S h (S 9 (g - 1)) (S 3 h) (S 4 h))) q 6 (nI h)).1 q 8 = S 10 5 := by
      rw [t3.2.2.2 5 (by omega)]
      simp [sUE]
    rw [e8]
    refine t4.eqv (fun a i ha => ?_)
    rw [sI1, if_neg (by omega), b1, b2]
    unfold sD at ha
    by_cases a9 : a = 9
    · subst a9
      rcases (show i = 0 ∨ i = 1 ∨ i = 2 by omega) with rfl | rfl | rfl <;> simp [sUE, sV]
    · by_cases a10 : a = 10
      · subst a10
        rcases (show i = 0 ∨ i = 1 ∨ i = 2 ∨ i = 3 ∨ i = 4 ∨ i = 5 ∨ i = 6 by omega) with rfl | rfl | rfl | rfl | rfl | rfl | rfl <;> simp [sUE, sV]
      · simp only [sUE, sV, a9, a10, false_and, if_false]
        by_cases a3 : a = 3 ∧ i = h
        · rw [if_neg (by omega), if_pos a3, if_pos a3]
        · rw [if_neg a3, if_neg a3]
  · rw [sI1f h1, sI1f h1, sI1f h3, sI1f h3, sI1f h3, f2 k h2]
  · exact f3
/-- the thought of a row: known, heard, visits by houses, what is behind, and where, minutes, what was spoken -/
abbrev zT : Type := Nat → Nat → Int32
def tV (S : zS) (g h : Nat) (t : zT) : zT := fun a i => if a = 0 then (if i = h then t 0 h ||| t 3 (g - 1) else t 0 i) else if a = 1 then (if i = h then t 1 h ||| t 3 (g - 1) else t 1 i) else if a = 2 then (if i = h then t 2 h + 1 else t 2 i) else if a = 3 then (if i = 0 then s_ans S h (t 3 (g - 1)) (t 0 h) (t 2 h) else t 3 (i - 1)) else if i = 0 then nI h else if i = 2 then t 3 (g - 1) else t 4 i
