/-! the cells' methods, total -/
def g_get (a n : Nat) (i : Int32) (μ : z_M) : Int32 := if i < 0 then 0 else if i < Int32.ofNat n then μ.1 a (z_ix i) else 0
def g_put (a n : Nat) (i v : Int32) (μ : z_M) : z_M := if i < 0 then μ else if i < Int32.ofNat n then z_sI μ a (z_ix i) v else μ
def g_clr (a n : Nat) (μ : z_M) : z_M := (fun x j => if x = a ∧ j < n then 0 else μ.1 x j, μ.2)
def g_cpy (a n a' n' : Nat) (μ : z_M) : z_M := (fun x j => if x = a ∧ j < n then g_get a' n' (Int32.ofNat j) μ else μ.1 x j, μ.2)
theorem z_ofNat_toInt {n : Nat} (hn : n ≤ 2000000000) : (Int32.ofNat n).toInt = n := by
  rw [Int32.toInt_ofNat_of_lt (by omega)]
theorem z_ix_ofNat {n : Nat} (hn : n ≤ 2000000000) : z_ix (Int32.ofNat n) = n := by
  show (Int32.ofNat n).toInt.toNat = n
  rw [z_ofNat_toInt hn]; rfl
theorem z_lt_ofNat {i : Int32} {n : Nat} (hn : n ≤ 2000000000) : i < Int32.ofNat n ↔ i.toInt < n := by
  rw [Int32.lt_iff_toInt_lt, z_ofNat_toInt hn]
theorem z_lt0 {i : Int32} : i < 0 ↔ i.toInt < 0 := by
  rw [Int32.lt_iff_toInt_lt]; rfl
theorem z_chkS {β : Type} {i : Int32} {n : Nat} {A : Option β} (h0 : ¬ i < 0) (h1 : i < Int32.ofNat n) (hn : n ≤ 2000000000) : z_chk i n A = A := by
  unfold z_chk
  rw [if_pos]
  exact ⟨by rw [z_lt0] at h0; omega, by rwa [z_lt_ofNat hn] at h1⟩
theorem g_get_eq {a n : Nat} (hn : n ≤ 2000000000) (i : Int32) (μ : z_M) : f_X1_get a n i μ = some (g_get a n i μ, μ) := by
  unfold f_X1_get g_get
  by_cases h0 : i < 0
  · rw [if_pos h0, if_pos h0]
  · rw [if_neg h0, if_neg h0]
    by_cases h1 : i < Int32.ofNat n
    · rw [if_pos h1, if_pos h1, z_chkS h0 h1 hn]
    · rw [if_neg h1, if_neg h1]
theorem g_put_eq {a n : Nat} (hn : n ≤ 2000000000) (i v : Int32) (μ : z_M) : f_X1_keep a n i v μ = some ((), g_put a n i v μ) := by
  unfold f_X1_keep g_put
  by_cases h0 : i < 0
  · rw [if_pos h0, if_pos h0]
  · rw [if_neg h0, if_neg h0]
    by_cases h1 : i < Int32.ofNat n
    · rw [if_pos h1, if_pos h1, z_chkS h0 h1 hn]; rfl
    · rw [if_neg h1, if_neg h1]
theorem z_ofNat_succ (n : Nat) : Int32.ofNat n + 1 = Int32.ofNat (n + 1) := by
  rw [Int32.ofNat_add]; rfl
theorem z_ofNat_nn {n : Nat} (hn : n ≤ 2000000000) : ¬ Int32.ofNat n < 0 := by
  rw [z_lt0, z_ofNat_toInt hn]; omega
theorem z_ofNat_lt {m n : Nat} (hm : m ≤ 2000000000) (hn : n ≤ 2000000000) : Int32.ofNat m < Int32.ofNat n ↔ m < n := by
  rw [z_lt_ofNat hn, z_ofNat_toInt hm]; omega
theorem g_clr_h {a n : Nat} (hn : n ≤ 2000000000) : ∀ (f j : Nat) (μ : z_M), j ≤ n → n < j + f → f_X1_clear_h2 a n f (Int32.ofNat j) μ = some ((), (fun x i => if x = a ∧ j ≤ i ∧ i < n then 0 else μ.1 x i, μ.2)) := by
  intro f
  induction f with
  | zero => intro j μ h1 h2; omega
  | succ f ih =>
    intro j μ h1 h2
    unfold f_X1_clear_h2
    by_cases hj : j < n
    · rw [if_pos ((z_ofNat_lt (by omega) hn).2 hj), z_chkS (z_ofNat_nn (by omega)) ((z_ofNat_lt (by omega) hn).2 hj) hn]
      simp only [z_let]
      rw [z_ofNat_succ, ih (j + 1) _ (by omega) (by omega), z_ix_ofNat (by omega)]
      congr 2
      unfold z_sI
      refine Prod.ext ?_ rfl
      funext x i
      dsimp only
      by_cases hx : x = a
      · by_cases hi : i = j
        · rw [if_neg (by omega), if_pos ⟨hx, hi⟩, if_pos (by omega)]
        · by_cases hi2 : j ≤ i ∧ i < n
          · rw [if_pos (by omega), if_pos (by omega)]
          · rw [if_neg (by omega), if_neg (by omega), if_neg (by omega)]
      · rw [if_neg (fun h => hx h.1), if_neg (fun h => hx h.1), if_neg (fun h => hx h.1)]
    · rw [if_neg (fun h => hj ((z_ofNat_lt (by omega) hn).1 h))]
      congr 2
      refine Prod.ext ?_ rfl
      funext x i
      dsimp only
      rw [if_neg (by omega)]
theorem g_clr_eq {a n : Nat} (hn : n ≤ 2000000000) (μ : z_M) : f_X1_clear a n (n + 1) μ = some ((), g_clr a n μ) := by
  unfold f_X1_clear
  rw [show (0 : Int32) = Int32.ofNat 0 from rfl, g_clr_h hn (n + 1) 0 μ (by omega) (by omega)]
  unfold g_clr
  congr 2
  refine Prod.ext ?_ rfl
  funext x i
  dsimp only
  simp only [Nat.zero_le, true_and]
theorem g_X1_get {D : va_G} {cI cL : ClassId} {b : Nat} {Z : State → Heap → Prop} {k a n0 : Nat} (hk : G_c[k]? = some (.inl (1, [some a]))) (ha : G_c[a]? = some (.inr (false, n0))) (hn : n0 ≤ 2000000000) (a1 : Int32) (μ : z_M) : z_S (zEc D cI cL b Z) 0 yX1_get cX1_get 2 (some .int) z_ei [.ref (b + k), .int a1] μ (z_oP μ (g_get a n0 a1 μ)) := by
  have h := c_X1_get (D := D) (cI := cI) (cL := cL) (b := b) (Z := Z) hk ha a1 μ
  rw [g_get_eq hn] at h; exact h
theorem g_X1_keep {D : va_G} {cI cL : ClassId} {b : Nat} {Z : State → Heap → Prop} {k a n0 : Nat} (hk : G_c[k]? = some (.inl (1, [some a]))) (ha : G_c[a]? = some (.inr (false, n0))) (hn : n0 ≤ 2000000000) (a1 a2 : Int32) (μ : z_M) : z_S (zEc D cI cL b Z) 0 yX1_keep cX1_keep 3 none z_ev [.ref (b + k), .int a1, .int a2] μ (z_oV (g_put a n0 a1 a2 μ)) := by
  have h := c_X1_keep (D := D) (cI := cI) (cL := cL) (b := b) (Z := Z) hk ha a1 a2 μ
  rw [g_put_eq hn] at h; exact h
theorem g_X1_clear {D : va_G} {cI cL : ClassId} {b : Nat} {Z : State → Heap → Prop} {k a n0 : Nat} (hk : G_c[k]? = some (.inl (1, [some a]))) (ha : G_c[a]? = some (.inr (false, n0))) (hn : n0 ≤ 2000000000) (μ : z_M) : z_S (zEc D cI cL b Z) 0 yX1_clear cX1_clear 2 none z_ev [.ref (b + k)] μ (z_oV (g_clr a n0 μ)) := by
  have h := c_X1_clear (D := D) (cI := cI) (cL := cL) (b := b) (Z := Z) hk ha (n0 + 1) μ
  rw [g_clr_eq hn] at h; exact h
