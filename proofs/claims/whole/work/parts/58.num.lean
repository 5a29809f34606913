/-! counts of bits, remainders -/
theorem nI_of_toInt {x : Int32} {n : Nat} (hn : n < 2 ^ 31) (h : x.toInt = n) : x = nI n := by
  apply Int32.toInt_inj.1
  rw [h, nI_toInt hn]
theorem nI_div {a b : Nat} (ha : a < 2 ^ 31) (hb : b < 2 ^ 31) : nI a / nI b = nI (a / b) := by
  apply nI_of_toInt (Nat.lt_of_le_of_lt (Nat.div_le_self _ _) ha)
  rw [Int32.toInt_div, nI_toInt ha, nI_toInt hb, ← Int.ofNat_tdiv]
  have h1 := Nat.div_le_self a b
  generalize a / b = c at h1 ⊢
  rw [Int.bmod_eq_of_le] <;> omega
theorem nI_sub {a b : Nat} (h : b ≤ a) : nI a - nI b = nI (a - b) := by
  have e : nI a = nI (a - b) + nI b := by rw [nI_add, Nat.sub_add_cancel h]
  rw [e, Int32.add_sub_cancel]
theorem z_remN {a b : Nat} (ha : a < 2 ^ 31) (hb : b < 2 ^ 31) : z_rem (nI a) (nI b) = nI (a % b) := by
  unfold z_rem
  rw [nI_div ha hb, nI_mulN, nI_sub (Nat.div_mul_le_self a b)]
  congr 1
  rw [Nat.mod_eq_sub_div_mul]
def pcs (n : Nat) : Nat → Nat
  | 0 => 0
  | k + 1 => pcs n k + n / 2 ^ k % 2
def pc (n : Nat) : Nat := pcs n 31
theorem mBits {v : Nat} (hv : v < 2 ^ 31) (n : Nat) (hn : 32 ≤ n) (ν : z_M) : f_X9_bits n (nI v) ν = some (nI (pc v), ν) := by
  have key : ∀ (d j n : Nat), j + d = 31 → d < n → f_X9_bits_h4 n (nI v) (nI (pcs v j)) (nI j) ν = some (nI (pc v), ν) := by
    intro d
    induction d with
    | zero =>
      intro j n e hn
      obtain ⟨m, rfl⟩ : ∃ m, n = m + 1 := ⟨n - 1, by omega⟩
      obtain rfl : j = 31 := by omega
      unfold f_X9_bits_h4
      rw [if_neg (show ¬ nI 31 < (31 : Int32) from nI_nlt (b := 31) (by omega) (by omega))]; rfl
    | succ d ih =>
      intro j n e hn
      obtain ⟨m, rfl⟩ : ∃ m, n = m + 1 := ⟨n - 1, by omega⟩
      unfold f_X9_bits_h4
      rw [if_pos (show nI j < (31 : Int32) from nI_lt (b := 31) (by omega) (by omega)), z_letE, zbit hv (by omega), nI_add, i_succ]
      exact ih (j + 1) m (by omega) (by omega)
  exact key 31 0 n (by omega) (by omega)
def bcN (n : Nat) : Bool := decide (f_J6_bitCount_0f7a4 (nI n) (fun _ _ => 0, fun _ _ => 0) = nI (pc n))
theorem bc_all : (List.range 4096).all bcN = true := by decide +kernel
theorem cBits {v : Nat} (hv : v < 4096) (μ : z_M) : f_J6_bitCount_0f7a4 (nI v) μ = nI (pc v) := by
  have h := List.all_eq_true.mp bc_all v (List.mem_range.mpr hv)
  exact of_decide_eq_true h
/-- the draw: 16 bits of the seed -/
theorem z_seed16 (x : Int32) : ∃ u, u < 65536 ∧ ((Int32.toUInt32 x) >>> ((Int32.toUInt32 16) &&& Int32.toUInt32 31)).toInt32 = nI u := by
  refine ⟨x.toBitVec.toNat / 2 ^ 16, ?_, ?_⟩
  · have := x.toBitVec.isLt
    omega
  · have h := pk_ushr x 16 16 (by decide)
    have h2 := x.toBitVec.isLt
    apply Int32.toBitVec_inj.1
    apply BitVec.eq_of_toNat_eq
    rw [h, pk_tn (by omega)]
