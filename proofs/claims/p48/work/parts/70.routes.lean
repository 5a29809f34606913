/-! routes, their order -/
def fc (ok : Nat → Bool) : Nat → Nat → Option Nat
  | 0, _ => none
  | d + 1, l => if ok l then some l else fc ok d (l + 1)
theorem fc_some {ok : Nat → Bool} : ∀ {d l h : Nat}, fc ok d l = some h → l ≤ h ∧ h < l + d ∧ ok h = true ∧ ∀ x, l ≤ x → x < h → ok x = false := by
  intro d
  induction d with
  | zero => intro l h e; cases e
  | succ d ih =>
    intro l h e
    rw [fc] at e
    by_cases c : ok l = true
    · rw [if_pos c] at e
      cases e
      exact ⟨Nat.le_refl l, by omega, c, fun x h1 h2 => by omega⟩
    · rw [if_neg c] at e
      obtain ⟨h1, h2, h3, h4⟩ := ih e
      refine ⟨by omega, by omega, h3, fun x a b => ?_⟩
      by_cases z : x = l
      · rw [z]; simpa using c
      · exact h4 x (by omega) b
def nx (ok : List Nat → Nat → Bool) (B : Nat) : List Nat → Nat → Option (List Nat)
  | [], l => (fc (ok []) (B - l) l).map (fun h => [h])
  | x :: q, l => match fc (ok (x :: q)) (B - l) l with
    | some h => some (h :: x :: q)
    | none => nx ok B q (x + 1)
theorem nx_nil (ok : List Nat → Nat → Bool) (B l : Nat) : nx ok B [] l = (fc (ok []) (B - l) l).map (fun h => [h]) := rfl
theorem nx_some {ok : List Nat → Nat → Bool} {B : Nat} {p : List Nat} {l h : Nat} (e : fc (ok p) (B - l) l = some h) : nx ok B p l = some (h :: p) := by
  cases p with
  | nil => rw [nx, e]; rfl
  | cons x q => rw [nx, e]
theorem nx_pop {ok : List Nat → Nat → Bool} {B x : Nat} {q : List Nat} {l : Nat} (e : fc (ok (x :: q)) (B - l) l = none) : nx ok B (x :: q) l = nx ok B q (x + 1) := by rw [nx, e]
theorem nx_end {ok : List Nat → Nat → Bool} {B l : Nat} (e : fc (ok []) (B - l) l = none) : nx ok B [] l = none := by rw [nx, e]; rfl
/-- a number below (B+1)^k for each route, growing in the order of telling -/
def rv (b : Nat) : List Nat → Nat
  | [] => 0
  | h :: p => b * rv b p + (h + 1)
def rk (b k : Nat) (p : List Nat) : Nat := rv b p * b ^ (k - p.length)
def okR (B k : Nat) (p : List Nat) : Prop := p.length ≤ k ∧ ∀ h ∈ p, h < B
theorem rv_lt {B : Nat} : ∀ {p : List Nat}, (∀ h ∈ p, h < B) → rv (B + 1) p < (B + 1) ^ p.length := by
  intro p
  induction p with
  | nil => intro _; exact Nat.one_pos
  | cons h p ih =>
    intro a
    have i1 := ih (fun x hx => a x (List.mem_cons_of_mem _ hx))
    have i2 := a h List.mem_cons_self
    show (B + 1) * rv (B + 1) p + (h + 1) < (B + 1) ^ (p.length + 1)
    rw [Nat.pow_succ, Nat.mul_comm ((B + 1) ^ p.length)]
    calc (B + 1) * rv (B + 1) p + (h + 1) < (B + 1) * rv (B + 1) p + (B + 1) := by omega
      _ = (B + 1) * (rv (B + 1) p + 1) := by rw [Nat.mul_succ]
      _ ≤ (B + 1) * (B + 1) ^ p.length := Nat.mul_le_mul_left _ i1
theorem rk_lt {B k : Nat} {p : List Nat} (h : okR B k p) : rk (B + 1) k p < (B + 1) ^ k := by
  unfold rk
  have h1 := rv_lt h.2
  calc rv (B + 1) p * (B + 1) ^ (k - p.length) < (B + 1) ^ p.length * (B + 1) ^ (k - p.length) := Nat.mul_lt_mul_of_pos_right h1 (Nat.pow_pos (by omega))
    _ = (B + 1) ^ k := by rw [← Nat.pow_add, Nat.add_sub_cancel' h.1]
theorem rk_child {B k h : Nat} {p : List Nat} (hp : p.length < k) : rk (B + 1) k (h :: p) = rk (B + 1) k p + (h + 1) * (B + 1) ^ (k - p.length - 1) := by
  unfold rk
  show ((B + 1) * rv (B + 1) p + (h + 1)) * (B + 1) ^ (k - (p.length + 1)) = _
  rw [Nat.add_mul, show k - (p.length + 1) = k - p.length - 1 by omega]
  congr 1
  rw [Nat.mul_comm (B + 1), Nat.mul_assoc, ← Nat.pow_succ', show (k - p.length - 1).succ = k - p.length by omega]
theorem nx_rk {ok : List Nat → Nat → Bool} {B k : Nat} : ∀ {p : List Nat} {l : Nat} {p' : List Nat}, okR B k p → p.length < k → nx ok B p l = some p' → okR B k p' ∧ rk (B + 1) k p + (l + 1) * (B + 1) ^ (k - p.length - 1) ≤ rk (B + 1) k p' ∨ (okR B k p' ∧ rk (B + 1) k p + (B + 1) ^ (k - p.length) ≤ rk (B + 1) k p') := by
  intro p
  induction p with
  | nil =>
    intro l p' o hp e
    cases c : fc (ok []) (B - l) l with
    | none => rw [nx_end c] at e; cases e
    | some h =>
      rw [nx_some c] at e
      cases e
      obtain ⟨h1, h2, -, -⟩ := fc_some c
      left
      refine ⟨⟨by simp at hp ⊢; omega, fun x hx => by simp at hx; omega⟩, ?_⟩
      rw [rk_child hp]
      exact Nat.add_le_add_left (Nat.mul_le_mul_right _ (by omega)) _
  | cons x q ih =>
    intro l p' o hp e
    cases c : fc (ok (x :: q)) (B - l) l with
    | some h =>
      rw [nx_some c] at e
      cases e
      obtain ⟨h1, h2, -, -⟩ := fc_some c
      left
      refine ⟨⟨by simp at hp ⊢; omega, fun y hy => ?_⟩, ?_⟩
      · rcases List.mem_cons.mp hy with rfl | hy
        · omega
        · exact o.2 y hy
      · rw [rk_child hp]
        exact Nat.add_le_add_left (Nat.mul_le_mul_right _ (by omega)) _
    | none =>
      rw [nx_pop c] at e
      have hq : q.length < k := by have := o.1; simp at this; omega
      have oq : okR B k q := ⟨by omega, fun y hy => o.2 y (List.mem_cons_of_mem _ hy)⟩
      have hx : x < B := o.2 x List.mem_cons_self
      have e1 := rk_child (B := B) (h := x) hq
      have e2 : (x + 1 + 1) * (B + 1) ^ (k - q.length - 1) = (x + 1) * (B + 1) ^ (k - q.length - 1) + (B + 1) ^ (k - q.length - 1) := by rw [Nat.succ_mul]
      have e3 : k - (x :: q).length = k - q.length - 1 := by simp; omega
      right
      rcases ih oq hq e with ⟨i1, i2⟩ | ⟨i1, i2⟩
      · refine ⟨i1, ?_⟩
        rw [e1, e3]; rw [e2] at i2; omega
      · refine ⟨i1, ?_⟩
        have e4 : (B + 1) ^ (k - q.length) = (B + 1) * (B + 1) ^ (k - q.length - 1) := by
          rw [← Nat.pow_succ', show (k - q.length - 1).succ = k - q.length by omega]
        have e5 : (x + 1 + 1) * (B + 1) ^ (k - q.length - 1) ≤ (B + 1) * (B + 1) ^ (k - q.length - 1) := Nat.mul_le_mul_right _ (by omega)
        rw [e1, e3]; rw [e2] at e5; rw [e4] at i2; omega
theorem nx_grow {ok : List Nat → Nat → Bool} {B k : Nat} {p : List Nat} {l : Nat} {p' : List Nat} (o : okR B k p) (hl : p.length < k ∨ B ≤ l) (e : nx ok B p l = some p') : okR B k p' ∧ rk (B + 1) k p < rk (B + 1) k p' := by
  by_cases hp : p.length < k
  · rcases nx_rk o hp e with ⟨i1, i2⟩ | ⟨i1, i2⟩
    · refine ⟨i1, ?_⟩
      have : 0 < (l + 1) * (B + 1) ^ (k - p.length - 1) := Nat.mul_pos (by omega) (Nat.pow_pos (by omega))
      omega
    · refine ⟨i1, ?_⟩
      have : 0 < (B + 1) ^ (k - p.length) := Nat.pow_pos (by omega)
      omega
  · have hB : B ≤ l := by omega
    have c : ∀ q, fc (ok q) (B - l) l = none := fun q => by rw [show B - l = 0 by omega]; rfl
    cases p with
    | nil => rw [nx_end (c _)] at e; cases e
    | cons x q =>
      rw [nx_pop (c _)] at e
      have hq : q.length < k := by have := o.1; simp at this; omega
      have oq : okR B k q := ⟨by omega, fun y hy => o.2 y (List.mem_cons_of_mem _ hy)⟩
      have hx : x < B := o.2 x List.mem_cons_self
      have e1 := rk_child (B := B) (h := x) hq
      have e2 : (x + 1 + 1) * (B + 1) ^ (k - q.length - 1) = (x + 1) * (B + 1) ^ (k - q.length - 1) + (B + 1) ^ (k - q.length - 1) := by rw [Nat.succ_mul]
      have e6 : 0 < (B + 1) ^ (k - q.length - 1) := Nat.pow_pos (by omega)
      rcases nx_rk oq hq e with ⟨i1, i2⟩ | ⟨i1, i2⟩
      · refine ⟨i1, ?_⟩
        rw [e1]; rw [e2] at i2; omega
      · refine ⟨i1, ?_⟩
        have e4 : (B + 1) ^ (k - q.length) = (B + 1) * (B + 1) ^ (k - q.length - 1) := by
          rw [← Nat.pow_succ', show (k - q.length - 1).succ = k - q.length by omega]
        have e5 : (x + 1 + 1) * (B + 1) ^ (k - q.length - 1) ≤ (B + 1) * (B + 1) ^ (k - q.length - 1) := Nat.mul_le_mul_right _ (by omega)
        rw [e1]; rw [e2] at e5; rw [e4] at i2; omega
/-- where the search for a further house begins -/
def lst (B k : Nat) (p : List Nat) : Nat := if p.length < k then 0 else B
theorem lst_ok (B k : Nat) (p : List Nat) : p.length < k ∨ B ≤ lst B k p := by
  unfold lst
  by_cases c : p.length < k
  · exact Or.inl c
  · exact Or.inr (by rw [if_neg c]; exact Nat.le_refl B)
/-- all routes behind p, in their order -/
def Ch (ok : List Nat → Nat → Bool) (B k : Nat) : List Nat → List (List Nat) → Prop
  | p, [] => nx ok B p (lst B k p) = none
  | p, p' :: l => nx ok B p (lst B k p) = some p' ∧ Ch ok B k p' l
theorem Ch_ex (ok : List Nat → Nat → Bool) (B k : Nat) : ∀ (m : Nat) (p : List Nat), okR B k p → (B + 1) ^ k ≤ rk (B + 1) k p + m → ∃ l, Ch ok B k p l ∧ l.length + 1 ≤ m ∧ ∀ q ∈ l, okR B k q := by
  intro m
  induction m with
  | zero => intro p o h; have := rk_lt o; omega
  | succ m ih =>
    intro p o h
    cases e : nx ok B p (lst B k p) with
    | none => exact ⟨[], e, by simp, fun q hq => (by cases hq)⟩
    | some p' =>
      obtain ⟨i1, i2⟩ := nx_grow o (lst_ok B k p) e
      obtain ⟨l, h1, h2, h3⟩ := ih p' i1 (by omega)
      refine ⟨p' :: l, ⟨e, h1⟩, by simp; omega, fun q hq => ?_⟩
      rcases List.mem_cons.mp hq with rfl | hq
      · exact i1
      · exact h3 q hq
theorem Ch_all (ok : List Nat → Nat → Bool) (B k : Nat) : ∃ l, Ch ok B k [] l ∧ l.length + 1 ≤ (B + 1) ^ k ∧ ∀ q ∈ l, okR B k q := by
  obtain ⟨l, h1, h2, h3⟩ := Ch_ex ok B k ((B + 1) ^ k) [] ⟨Nat.zero_le _, fun h hh => (by cases hh)⟩ (by omega)
  exact ⟨l, h1, h2, h3⟩
