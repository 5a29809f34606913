/-! sums over routes -/
def sm (f : Nat → Int64) : Nat → Int64
  | 0 => 0
  | n + 1 => sm f n + f n
theorem sm_s (f : Nat → Int64) (n : Nat) : sm f (n + 1) = sm f n + f n := rfl
theorem sm_ext {f g : Nat → Int64} : ∀ n, (∀ i, i < n → f i = g i) → sm f n = sm g n := by
  intro n
  induction n with
  | zero => intro _; rfl
  | succ n ih => intro h; rw [sm_s, sm_s, ih (fun i hi => h i (by omega)), h n (by omega)]
theorem sm_zero {f : Nat → Int64} : ∀ n, (∀ i, i < n → f i = 0) → sm f n = 0 := by
  intro n
  induction n with
  | zero => intro _; rfl
  | succ n ih => intro h; rw [sm_s, ih (fun i hi => h i (by omega)), h n (by omega), Int64.add_zero]
theorem sm_mul (a : Int64) (f : Nat → Int64) : ∀ n, sm (fun i => a * f i) n = a * sm f n := by
  intro n
  induction n with
  | zero => exact Int64.mul_zero.symm
  | succ n ih => rw [sm_s, sm_s, ih, Int64.mul_add]
theorem sm_pt {f : Nat → Int64} {t : Nat} {x : Int64} : ∀ n, sm (fun h => f h + if h = t then x else 0) n = sm f n + if t < n then x else 0 := by
  intro n
  induction n with
  | zero => show (0 : Int64) = 0 + 0; rfl
  | succ n ih =>
    rw [sm_s, sm_s, ih]
    by_cases c : n = t
    · subst c
      rw [if_pos rfl, if_neg (Nat.lt_irrefl _), if_pos (Nat.lt_succ_self _), Int64.add_zero, Int64.add_assoc]
    · rw [if_neg c, Int64.add_zero]
      by_cases d : t < n
      · rw [if_pos d, if_pos (by omega), Int64.add_assoc, Int64.add_assoc, Int64.add_comm x]
      · rw [if_neg d, if_neg (by omega), Int64.add_zero, Int64.add_zero]
def tot (ok : List Nat → Nat → Bool) (B : Nat) (c : List Nat → Int64) : Nat → List Nat → Int64
  | 0, p => c p
  | d + 1, p => c p + sm (fun h => if ok p h = true then tot ok B c d (h :: p) else 0) B
def Cq (ok : List Nat → Nat → Bool) (B k : Nat) (p : List Nat) (j : Nat) : List (List Nat) → Prop
  | [] => nx ok B p j = none
  | p' :: l => nx ok B p j = some p' ∧ Ch ok B k p' l
theorem nx_skip {ok : List Nat → Nat → Bool} {B j : Nat} {p : List Nat} (hj : j < B) (h : ok p j = false) : nx ok B p j = nx ok B p (j + 1) := by
  have e : fc (ok p) (B - j) j = fc (ok p) (B - (j + 1)) (j + 1) := by
    rw [show B - j = (B - (j + 1)) + 1 by omega, fc, h]
    rfl
  cases p with
  | nil => unfold nx; rw [e]
  | cons x q => unfold nx; rw [e]
theorem nx_take {ok : List Nat → Nat → Bool} {B j : Nat} {p : List Nat} (hj : j < B) (h : ok p j = true) : nx ok B p j = some (j :: p) := by
  have e : fc (ok p) (B - j) j = some j := by
    rw [show B - j = (B - (j + 1)) + 1 by omega, fc, h]
    rfl
  exact nx_some e
theorem ch_sum {ok : List Nat → Nat → Bool} {B k : Nat} {c : List Nat → Int64} : ∀ (d : Nat) (p : List Nat), p.length + d = k → ∀ (l : List (List Nat)) (s : Int64), Ch ok B k p l → ∃ l2, Cq ok B k p B l2 ∧ List.foldl (fun s p => s + c p) (s + c p) l = List.foldl (fun s p => s + c p) (s + tot ok B c d p) l2 := by
  intro d
  induction d with
  | zero =>
    intro p hp l s h
    refine ⟨l, ?_, rfl⟩
    have e : lst B k p = B := by unfold lst; rw [if_neg (by omega)]
    cases l with
    | nil =>
      have h' : nx ok B p (lst B k p) = none := h
      rw [e] at h'; exact h'
    | cons p' l =>
      have h' : nx ok B p (lst B k p) = some p' ∧ Ch ok B k p' l := h
      rw [e] at h'; exact h'
  | succ d ih =>
    intro p hp l s h
    have key : ∀ (e j : Nat), j + e = B → ∀ (l : List (List Nat)) (s : Int64), Cq ok B k p j l → ∃ l2, Cq ok B k p B l2 ∧ List.foldl (fun s p => s + c p) (s + sm (fun h => if ok p h = true then tot ok B c d (h :: p) else 0) j) l = List.foldl (fun s p => s + c p) (s + sm (fun h => if ok p h = true then tot ok B c d (h :: p) else 0) B) l2 := by
      intro e
      induction e with
      | zero =>
        intro j hj l s hl
        obtain rfl : j = B := by omega
        exact ⟨l, hl, rfl⟩
      | succ e ihe =>
        intro j hj l s hl
        cases z : ok p j with
        | false =>
          have hl' : Cq ok B k p (j + 1) l := by
            cases l with
            | nil => have h1 : nx ok B p j = none := hl; rw [nx_skip (by omega) z] at h1; exact h1
            | cons p' l => have h1 : nx ok B p j = some p' ∧ Ch ok B k p' l := hl; rw [nx_skip (by omega) z] at h1; exact h1
          obtain ⟨l2, q1, q2⟩ := ihe (j + 1) (by omega) l s hl'
          refine ⟨l2, q1, ?_⟩
          rw [← q2, sm_s, z]
          simp only [Bool.false_eq_true, if_false, Int64.add_zero]
        | true =>
          cases l with
          | nil =>
            have h1 : nx ok B p j = none := hl
            rw [nx_take (by omega) z] at h1; cases h1
          | cons p' l =>
            obtain ⟨h1, h2⟩ := hl
            rw [nx_take (by omega) z] at h1
            cases h1
            obtain ⟨l3, q1, q2⟩ := ih (j :: p) (by rw [List.length_cons]; omega) l (s + sm (fun h => if ok p h = true then tot ok B c d (h :: p) else 0) j) h2
            have en : nx ok B (j :: p) B = nx ok B p (j + 1) := nx_pop (by rw [Nat.sub_self]; rfl)
            have q1' : Cq ok B k p (j + 1) l3 := by
              cases l3 with
              | nil => have h1 : nx ok B (j :: p) B = none := q1; rw [en] at h1; exact h1
              | cons p' l => have h1 : nx ok B (j :: p) B = some p' ∧ Ch ok B k p' l := q1; rw [en] at h1; exact h1
            obtain ⟨l2, r1, r2⟩ := ihe (j + 1) (by omega) l3 s q1'
            refine ⟨l2, r1, ?_⟩
            rw [← r2, List.foldl_cons, q2, sm_s, z]
            simp only [if_true, Int64.add_assoc]
    have hl : Cq ok B k p 0 l := by
      have e : lst B k p = 0 := by unfold lst; rw [if_pos (by omega)]
      cases l with
      | nil => have h' : nx ok B p (lst B k p) = none := h; rw [e] at h'; exact h'
      | cons p' l => have h' : nx ok B p (lst B k p) = some p' ∧ Ch ok B k p' l := h; rw [e] at h'; exact h'
    obtain ⟨l2, q1, q2⟩ := key B 0 (by omega) l (s + c p) hl
    refine ⟨l2, q1, ?_⟩
    rw [show s + c p = s + c p + sm (fun h => if ok p h = true then tot ok B c d (h :: p) else 0) 0 from (Int64.add_zero _).symm, q2, Int64.add_assoc]
    rfl
theorem ch_total {ok : List Nat → Nat → Bool} {B k : Nat} {c : List Nat → Int64} {l : List (List Nat)} (h : Ch ok B k [] l) : List.foldl (fun s p => s + c p) 0 ([] :: l) = tot ok B c k [] := by
  obtain ⟨l2, h1, h2⟩ := ch_sum (c := c) k [] (by simp) l 0 h
  have e : l2 = [] := by
    cases l2 with
    | nil => rfl
    | cons p' l =>
      have h3 : nx ok B [] B = some p' ∧ Ch ok B k p' l := h1
      rw [nx_end (by rw [Nat.sub_self]; rfl)] at h3
      cases h3.1
  rw [List.foldl_cons, h2, e]
  exact Int64.zero_add _
/-- small counts as longs -/
def LI (n : Nat) : Int64 := Int32.toInt64 (nI n)
theorem LI_s : ∀ n, n < 13 → LI (n + 1) = LI n + 1 := by decide
/-- the open ways between two houses -/
noncomputable def nB (S : zS) (x h : Nat) : Nat → Nat
  | 0 => 0
  | n + 1 => nB S x h n + @ite _ (sO S 0 n ∧ sBt S n x h) (Classical.propDecidable _) 1 0
theorem nB_s (S : zS) (x h n : Nat) : nB S x h (n + 1) = nB S x h n + @ite _ (sO S 0 n ∧ sBt S n x h) (Classical.propDecidable _) 1 0 := rfl
theorem nB_le (S : zS) (x h : Nat) : ∀ n, nB S x h n ≤ n := by
  intro n
  induction n with
  | zero => exact Nat.le_refl _
  | succ n ih =>
    rw [nB_s]
    by_cases c : sO S 0 n ∧ sBt S n x h
    · rw [if_pos c]; omega
    · rw [if_neg c]; omega
theorem bt_ot {N : Nat} {S : zS} {H W w x h : Nat} (V : Vd N S) (eH : S 10 0 = nI H) (eW : S 10 1 = nI W) (hH : H ≤ 8) (hW : W ≤ 12) (hw : w < W) (hx : x < H) (hh : h < 8) (on : sOn S w (nI x)) : sBt S w x h ↔ h = ot S w x := by
  obtain ⟨a, c, h1, h2, h3, h4, h5⟩ := V.way eH eW hH hW hw
  unfold sOn at on
  unfold sBt ot
  have nn : ∀ i j : Nat, i < 8 → j < 8 → (nI i = nI j ↔ i = j) := fun i j hi hj => nI_eq (by omega) (by omega)
  rw [h3, h4] at on ⊢
  rw [nn a x (by omega) (by omega), nn c x (by omega) (by omega)] at on
  rw [nn a x (by omega) (by omega), nn c h (by omega) hh, nn a h (by omega) hh, nn c x (by omega) (by omega)]
  by_cases z : a = x
  · rw [if_pos (by rw [z])]
    show _ ↔ h = (nI c).toNatClampNeg
    rw [nI_clamp (by omega)]
    omega
  · rw [if_neg z]
    show _ ↔ h = (nI a).toNatClampNeg
    rw [nI_clamp (by omega)]
    omega
/-- a sum over ways is one over houses -/
theorem regroup {N : Nat} {S : zS} {H W x b : Nat} {r : List Nat} (V : Vd N S) (eH : S 10 0 = nI H) (eW : S 10 1 = nI W) (hH : H ≤ 8) (hW : W ≤ 12) (hx : x < H) (ex : plW S b r = x) (G : Nat → Int64) : ∀ n, n ≤ W → sm (fun w => if okW S b r w = true then G (ot S w x) else 0) n = sm (fun h => LI (nB S x h n) * G h) 8 := by
  intro n
  induction n with
  | zero =>
    intro _
    refine (sm_zero 8 (fun i _ => ?_)).symm
    show LI 0 * G i = 0
    exact Int64.zero_mul
  | succ n ih =>
    intro hn
    rw [sm_s, ih (by omega)]
    have lo := ot_lt (x := x) V eH eW hH hW (show n < W by omega)
    cases z : okW S b r n with
    | true =>
      obtain ⟨o1, o2⟩ := okW_t.1 z
      rw [ex] at o2
      have e := sm_ext (f := fun h => LI (nB S x h (n + 1)) * G h) (g := fun h => LI (nB S x h n) * G h + if h = ot S n x then G (ot S n x) else 0) 8 (fun h hh => by
        have bt := bt_ot V eH eW hH hW (show n < W by omega) hx hh o2
        show LI (nB S x h (n + 1)) * G h = _
        rw [nB_s]
        by_cases y : h = ot S n x
        · rw [if_pos (⟨o1, bt.2 y⟩ : sO S 0 n ∧ sBt S n x h), if_pos y, LI_s _ (by have := nB_le S x h n; omega), Int64.add_mul, Int64.one_mul, ← y]
        · rw [if_neg (fun q : sO S 0 n ∧ sBt S n x h => y (bt.1 q.2)), if_neg y, Int64.add_zero]; rfl)
      rw [if_pos rfl, e, sm_pt, if_pos (by omega)]
    | false =>
      have o := okW_f.1 z
      rw [ex] at o
      simp only [Bool.false_eq_true, if_false, Int64.add_zero]
      refine sm_ext 8 (fun h hh => ?_)
      rw [nB_s, if_neg (fun q : sO S 0 n ∧ sBt S n x h => o ⟨q.1, by
        rcases q.2 with q | q
        · exact Or.inl q.1
        · exact Or.inr q.2⟩)]
      rfl
