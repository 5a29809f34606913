/-! how likely: the values -/
def pw : Nat → Int64
  | 0 => 1
  | d + 1 => 27720 * pw d
theorem sLk_nB (S : zS) (x h : Nat) : ∀ n, sLk S 0 x h n ≠ 0 ↔ nB S x h n ≠ 0 := by
  intro n
  induction n with
  | zero => exact Iff.rfl
  | succ n ih =>
    rw [sLk_s, nB_s]
    by_cases c : sO S 0 n ∧ sBt S n x h
    · rw [if_pos c]
      refine ⟨fun _ => by omega, fun _ => ?_⟩
      by_cases z : sLk S 0 x h n = 0 ∨ S 7 n < S 7 (sLk S 0 x h n - 1)
      · rw [if_pos ⟨c.1, c.2, z⟩]; omega
      · rw [if_neg (fun q => z q.2.2)]
        exact fun q => z (Or.inl q)
    · rw [if_neg c, if_neg (fun q => c ⟨q.1, q.2.1⟩)]
      exact ih
noncomputable def nC (S : zS) (x h : Nat) : Nat → Nat
  | 0 => 0
  | n + 1 => nC S x h n + @ite _ (sO S 0 n ∧ sOn S n (nI x) ∧ sOn S n (nI h)) (Classical.propDecidable _) 1 0
theorem nC_s (S : zS) (x h n : Nat) : nC S x h (n + 1) = nC S x h n + @ite _ (sO S 0 n ∧ sOn S n (nI x) ∧ sOn S n (nI h)) (Classical.propDecidable _) 1 0 := rfl
theorem nC_nB {N : Nat} {S : zS} {H W x h : Nat} (V : Vd N S) (eH : S 10 0 = nI H) (eW : S 10 1 = nI W) (hH : H ≤ 8) (hW : W ≤ 12) (hx : x < 8) (hh : h < 8) (ne : x ≠ h) : ∀ n, n ≤ W → nC S x h n = nB S x h n := by
  intro n
  induction n with
  | zero => intro _; rfl
  | succ n ih =>
    intro hn
    rw [nC_s, nB_s, ih (by omega)]
    obtain ⟨a, c, h1, h2, h3, h4, h5⟩ := V.way eH eW hH hW (show n < W by omega)
    have nn : ∀ i j : Nat, i < 8 → j < 8 → (nI i = nI j ↔ i = j) := fun i j hi hj => nI_eq (by omega) (by omega)
    have e : (sOn S n (nI x) ∧ sOn S n (nI h)) ↔ sBt S n x h := by
      unfold sOn sBt
      rw [h3, h4, nn a x (by omega) hx, nn c x (by omega) hx, nn a h (by omega) hh, nn c h (by omega) hh]
      omega
    by_cases z : sO S 0 n ∧ sBt S n x h
    · rw [if_pos z, if_pos ⟨z.1, e.2 z.2⟩]
    · rw [if_neg z, if_neg (fun q => z ⟨q.1, e.1 q.2⟩)]
noncomputable def fac (S : zS) (W x h : Nat) : Int64 := if 0 < sOA S 0 (nI x) W then LI (nC S x h W) * (27720 / LI (sOA S 0 (nI x) W)) else 0
noncomputable def ow (S : zS) (W b : Nat) : List Nat → Int64
  | [] => 1
  | h :: p => ow S W b p * fac S W (pl b p) h
noncomputable def cC (S : zS) (g W b : Nat) (t0 : zT) (i : Nat) (set : Int32) (k : Nat) (p : List Nat) : Int64 := @ite _ ((p.length = k ∨ sOA S 0 (nI (pl b p)) W = 0) ∧ hrA S 0 g W b t0 i set p) (Classical.propDecidable _) (ow S W b p * pw (k - p.length)) 0
theorem cC_e (S : zS) (g W b : Nat) (t0 : zT) (i : Nat) (set : Int32) (k : Nat) (p : List Nat) : cC S g W b t0 i set k p = @ite _ ((p.length = k ∨ sOA S 0 (nI (pl b p)) W = 0) ∧ hrA S 0 g W b t0 i set p) (Classical.propDecidable _) (ow S W b p * pw (k - p.length)) 0 := rfl
def hrW (S : zS) (g b : Nat) (t0 : zT) (i : Nat) (set : Int32) (r : List Nat) : Prop := set &&& (tRW S g b t0 r 1 i ^^^ (-1)) = 0
noncomputable def cM (S : zS) (g W b : Nat) (t0 : zT) (i : Nat) (set : Int32) (k : Nat) (r : List Nat) : Int64 := @ite _ ((r.length = k ∨ sOA S 0 (nI (plW S b r)) W = 0) ∧ hrW S g b t0 i set r) (Classical.propDecidable _) (shr S W b r * pw (k - r.length)) 0
theorem cM_e (S : zS) (g W b : Nat) (t0 : zT) (i : Nat) (set : Int32) (k : Nat) (r : List Nat) : cM S g W b t0 i set k r = @ite _ ((r.length = k ∨ sOA S 0 (nI (plW S b r)) W = 0) ∧ hrW S g b t0 i set r) (Classical.propDecidable _) (shr S W b r * pw (k - r.length)) 0 := rfl
/-- what is to come -/
noncomputable def U (S : zS) (g W b : Nat) (t0 : zT) (i : Nat) (set : Int32) : Nat → List Nat → Int64
  | 0, p => @ite _ (hrA S 0 g W b t0 i set p) (Classical.propDecidable _) 1 0
  | d + 1, p => if sOA S 0 (nI (pl b p)) W = 0 then @ite _ (hrA S 0 g W b t0 i set p) (Classical.propDecidable _) (pw (d + 1)) 0 else sm (fun h => LI (nB S (pl b p) h W) * ((27720 / LI (sOA S 0 (nI (pl b p)) W)) * U S g W b t0 i set d (h :: p))) 8
noncomputable def hsW (S : zS) (b : Nat) : List Nat → List Nat
  | [] => []
  | w :: r => ot S w (plW S b r) :: hsW S b r
theorem hsW_pl (S : zS) (b : Nat) : ∀ r, pl b (hsW S b r) = plW S b r := by
  intro r
  cases r <;> rfl
theorem hsW_t {S : zS} {L b : Nat} {t0 : zT} {lk : Nat → Nat → Nat} : ∀ (r : List Nat) (a i : Nat), a < 4 → tRW S L b t0 r a i = tR S L lk b t0 (hsW S b r) a i := by
  intro r
  induction r with
  | nil => intro a i ha; rfl
  | cons w r ih =>
    intro a i ha
    unfold hsW tRW tR
    rcases (show a = 0 ∨ a = 1 ∨ a = 2 ∨ a = 3 by omega) with rfl | rfl | rfl | rfl
    · rw [tW0, tW0, ih 0 _ (by omega), ih 3 _ (by omega), ih 0 i (by omega)]
    · rw [tW1, tW1, ih 1 _ (by omega), ih 3 _ (by omega), ih 1 i (by omega)]
    · rw [tW2, tW2, ih 2 _ (by omega), ih 2 i (by omega)]
    · cases i with
      | zero => rw [tW30, tW30, ih 3 _ (by omega), ih 0 _ (by omega), ih 2 _ (by omega)]
      | succ i => rw [tW3s, tW3s, ih 3 i (by omega)]
theorem hrW_iff {S : zS} {g W b : Nat} {t0 : zT} {i : Nat} {set : Int32} {r : List Nat} : hrW S g b t0 i set r ↔ hrA S 0 g W b t0 i set (hsW S b r) := by
  unfold hrW hrA
  rw [hsW_t (lk := fun a c => sLk S 0 a c W) r 1 i (by omega)]
theorem totC {N : Nat} {S : zS} {H W g b i k : Nat} {t0 : zT} {set : Int32} (V : Vd N S) (eH : S 10 0 = nI H) (eW : S 10 1 = nI W) (hH : H ≤ 8) (hW : W ≤ 12) : ∀ (d : Nat) (p : List Nat), p.length + d = k → pl b p < H → tot (okL S 0 W b) 8 (cC S g W b t0 i set k) d p = ow S W b p * U S g W b t0 i set d p := by
  intro d
  induction d with
  | zero =>
    intro p hp hb
    show cC S g W b t0 i set k p = ow S W b p * @ite _ (hrA S 0 g W b t0 i set p) (Classical.propDecidable _) 1 0
    unfold cC
    by_cases z : hrA S 0 g W b t0 i set p
    · rw [if_pos z, if_pos ⟨Or.inl (by omega), z⟩, show k - p.length = 0 by omega]; rfl
    · rw [if_neg z, if_neg (fun q => z q.2), Int64.mul_zero]
  | succ d ih =>
    intro p hp hb
    show cC S g W b t0 i set k p + sm (fun h => if okL S 0 W b p h = true then tot (okL S 0 W b) 8 (cC S g W b t0 i set k) d (h :: p) else 0) 8 = _
    unfold U
    rw [cC_e]
    have lk : ∀ h, okL S 0 W b p h = true ↔ nB S (pl b p) h W ≠ 0 := fun h => okL_t.trans (sLk_nB S (pl b p) h W)
    have pos : ∀ h, okL S 0 W b p h = true → 0 < sOA S 0 (nI (pl b p)) W := fun h q => by
      have n := okL_t.1 q
      have le := sLk_le S 0 (pl b p) h W
      obtain ⟨b1, b2⟩ := sLk_bt S 0 (pl b p) h W n
      refine sOA_pos W (sLk S 0 (pl b p) h W - 1) (by omega) ⟨b1, ?_⟩
      rcases b2 with b2 | b2
      · exact Or.inl b2.1
      · exact Or.inr b2.2
    by_cases z : sOA S 0 (nI (pl b p)) W = 0
    · rw [if_pos z, sm_zero 8 (fun h _ => if_neg (fun q => by have := pos h q; omega)), Int64.add_zero]
      by_cases y : hrA S 0 g W b t0 i set p
      · rw [if_pos y, if_pos ⟨Or.inr z, y⟩, show k - p.length = d + 1 by omega]
      · rw [if_neg y, if_neg (fun q => y q.2), Int64.mul_zero]
    · rw [if_neg z, if_neg (fun q => q.1.elim (by omega) z), Int64.zero_add, ← sm_mul]
      refine sm_ext 8 (fun h hh => ?_)
      by_cases y : okL S 0 W b p h = true
      · have hlt : h < H := by
          apply Classical.byContradiction
          intro n
          rw [okL_in V eH eW hH hW hb h (by omega) hh] at y; cases y
        have ne : pl b p ≠ h := fun e => by
          have n := okL_t.1 y
          have le := sLk_le S 0 (pl b p) h W
          obtain ⟨b1, b2⟩ := sLk_bt S 0 (pl b p) h W n
          obtain ⟨a, c, h1, h2, h3, h4, h5⟩ := V.way eH eW hH hW (show sLk S 0 (pl b p) h W - 1 < W by omega)
          unfold sBt at b2
          rw [h3, h4, e] at b2
          rcases b2 with ⟨b2, b3⟩ | ⟨b2, b3⟩
          · exact h5 (nI_inj (by omega) (by omega) (b2.trans b3.symm))
          · exact h5 (nI_inj (by omega) (by omega) (b2.trans b3.symm))
        rw [if_pos y, ih (h :: p) (by rw [List.length_cons]; omega) hlt]
        show ow S W b p * fac S W (pl b p) h * _ = _
        unfold fac
        rw [if_pos (by omega), nC_nB V eH eW hH hW (by omega) hh ne W (Nat.le_refl _), Int64.mul_assoc, Int64.mul_assoc]
      · rw [if_neg y]
        have e : nB S (pl b p) h W = 0 := Classical.byContradiction (fun n => y ((lk h).2 n))
        rw [e, show LI 0 = 0 from rfl, Int64.zero_mul, Int64.mul_zero]
theorem totM {N : Nat} {S : zS} {H W g b i k : Nat} {t0 : zT} {set : Int32} (V : Vd N S) (eH : S 10 0 = nI H) (eW : S 10 1 = nI W) (hH : H ≤ 8) (hW : W ≤ 12) : ∀ (d : Nat) (r : List Nat), r.length + d = k → plW S b r < H → tot (okW S b) W (cM S g W b t0 i set k) d r = shr S W b r * U S g W b t0 i set d (hsW S b r) := by
  intro d
  induction d with
  | zero =>
    intro r hp hb
    show cM S g W b t0 i set k r = shr S W b r * @ite _ (hrA S 0 g W b t0 i set (hsW S b r)) (Classical.propDecidable _) 1 0
    unfold cM
    by_cases z : hrA S 0 g W b t0 i set (hsW S b r)
    · rw [if_pos z, if_pos ⟨Or.inl (by omega), hrW_iff.2 z⟩, show k - r.length = 0 by omega]; rfl
    · rw [if_neg z, if_neg (fun q => z (hrW_iff.1 q.2)), Int64.mul_zero]
  | succ d ih =>
    intro r hp hb
    show cM S g W b t0 i set k r + sm (fun w => if okW S b r w = true then tot (okW S b) W (cM S g W b t0 i set k) d (w :: r) else 0) W = _
    unfold U
    rw [cM_e, hsW_pl]
    by_cases z : sOA S 0 (nI (plW S b r)) W = 0
    · rw [if_pos z, sm_zero W (fun w hw => if_neg (fun q => by have := sOA_pos W w hw (okW_t.1 q); omega)), Int64.add_zero]
      by_cases y : hrA S 0 g W b t0 i set (hsW S b r)
      · rw [if_pos y, if_pos ⟨Or.inr z, hrW_iff.2 y⟩, show k - r.length = d + 1 by omega]
      · rw [if_neg y, if_neg (fun q => y (hrW_iff.1 q.2)), Int64.mul_zero]
    · rw [if_neg z, if_neg (fun q => q.1.elim (by omega) z), Int64.zero_add, ← sm_mul]
      have e1 := sm_ext (f := fun w => if okW S b r w = true then tot (okW S b) W (cM S g W b t0 i set k) d (w :: r) else 0) (g := fun w => if okW S b r w = true then (fun h => shr S W b r * ((27720 / LI (sOA S 0 (nI (plW S b r)) W)) * U S g W b t0 i set d (h :: hsW S b r))) (ot S w (plW S b r)) else 0) W (fun w hw => by
        by_cases y : okW S b r w = true
        · show (if okW S b r w = true then _ else _) = (if okW S b r w = true then _ else _)
          rw [if_pos y, if_pos y, ih (w :: r) (by rw [List.length_cons]; omega) (ot_lt V eH eW hH hW hw)]
          show shr S W b r * (27720 / LI (sOA S 0 (nI (plW S b r)) W)) * _ = _
          rw [Int64.mul_assoc]; rfl
        · show (if okW S b r w = true then _ else _) = (if okW S b r w = true then _ else _)
          rw [if_neg y, if_neg y])
      rw [e1, regroup V eH eW hH hW hb rfl (fun h => shr S W b r * ((27720 / LI (sOA S 0 (nI (plW S b r)) W)) * U S g W b t0 i set d (h :: hsW S b r))) W (Nat.le_refl _)]
      refine sm_ext 8 (fun h hh => ?_)
      show LI _ * (shr S W b r * _) = shr S W b r * (LI _ * _)
      rw [← Int64.mul_assoc, ← Int64.mul_assoc, Int64.mul_comm (LI _), Int64.mul_assoc, Int64.mul_assoc]
theorem tot_eq {N : Nat} {S : zS} {H W g b i k : Nat} {t0 : zT} {set : Int32} (V : Vd N S) (eH : S 10 0 = nI H) (eW : S 10 1 = nI W) (hH : H ≤ 8) (hW : W ≤ 12) (hb : b < H) : tot (okL S 0 W b) 8 (cC S g W b t0 i set k) k [] = tot (okW S b) W (cM S g W b t0 i set k) k [] := by
  rw [totC V eH eW hH hW k [] (by simp) hb, totM V eH eW hH hW k [] (by simp) hb]
  rfl
