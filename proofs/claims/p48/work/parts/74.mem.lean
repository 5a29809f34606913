/-! which routes there are -/
def Cq (ok : List Nat → Nat → Bool) (B k : Nat) (p : List Nat) (j : Nat) : List (List Nat) → Prop
  | [] => nx ok B p j = none
  | p' :: l => nx ok B p j = some p' ∧ Ch ok B k p' l
theorem nx_skip {ok : List Nat → Nat → Bool} {B j : Nat} {p : List Nat} (hj : j < B) (h : ok p j = false) : nx ok B p j = nx ok B p (j + 1) := by
  have e : fc (ok p) (B - j) j = fc (ok p) (B - (j + 1)) (j + 1) := by
    rw [show B - j = (B - (j + 1)) + 1 by omega, fc, h]
    rfl
  cases p with
  | nil => unfold nx; rw [e]
  | cons x q => unfold nx; rw [e]
theorem nx_take {ok : List Nat → Nat → Bool} {B j : Nat} {p : List Nat} (hj : j < B) (h : ok p j = true) : nx ok B p j = some (j :: p) := by
  have e : fc (ok p) (B - j) j = some j := by
    rw [show B - j = (B - (j + 1)) + 1 by omega, fc, h]
    rfl
  exact nx_some e
def ups (ok : List Nat → Nat → Bool) (B : Nat) (p : List Nat) : List Nat → Prop
  | [] => True
  | h :: ds => ok (ds ++ p) h = true ∧ h < B ∧ ups ok B p ds
theorem ups_snoc {ok : List Nat → Nat → Bool} {B : Nat} {p : List Nat} {j : Nat} : ∀ ds : List Nat, ups ok B p (ds ++ [j]) ↔ ok p j = true ∧ j < B ∧ ups ok B (j :: p) ds := by
  intro ds
  induction ds with
  | nil => exact Iff.rfl
  | cons h ds ih =>
    show (ok ((ds ++ [j]) ++ p) h = true ∧ h < B ∧ ups ok B p (ds ++ [j])) ↔ _
    rw [ih, List.append_assoc]
    show (ok (ds ++ (j :: p)) h = true ∧ h < B ∧ ok p j = true ∧ j < B ∧ ups ok B (j :: p) ds) ↔ (ok p j = true ∧ j < B ∧ (ok (ds ++ (j :: p)) h = true ∧ h < B ∧ ups ok B (j :: p) ds))
    constructor
    · rintro ⟨a, b, c, d, e⟩; exact ⟨c, d, a, b, e⟩
    · rintro ⟨c, d, a, b, e⟩; exact ⟨a, b, c, d, e⟩
theorem ch_mem {ok : List Nat → Nat → Bool} {B k : Nat} : ∀ (d : Nat) (p : List Nat), p.length + d = k → ∀ (l : List (List Nat)), Ch ok B k p l → ∃ l1 l2, l = l1 ++ l2 ∧ Cq ok B k p B l2 ∧ ∀ q, q ∈ p :: l1 ↔ ∃ ds, q = ds ++ p ∧ ds.length ≤ d ∧ ups ok B p ds := by
  intro d
  induction d with
  | zero =>
    intro p hp l h
    refine ⟨[], l, rfl, ?_, fun q => ⟨fun hq => ?_, ?_⟩⟩
    · have e : lst B k p = B := by unfold lst; rw [if_neg (by omega)]
      cases l with
      | nil =>
        have h' : nx ok B p (lst B k p) = none := h
        rw [e] at h'; exact h'
      | cons p' l =>
        have h' : nx ok B p (lst B k p) = some p' ∧ Ch ok B k p' l := h
        rw [e] at h'; exact h'
    · rw [List.mem_singleton.mp hq]; exact ⟨[], rfl, Nat.le_refl 0, trivial⟩
    · rintro ⟨ds, rfl, h0, -⟩
      obtain rfl : ds = [] := List.length_eq_zero_iff.mp (by omega)
      exact List.mem_singleton.mpr rfl
  | succ d ih =>
    intro p hp l h
    have key : ∀ (e j : Nat), j + e = B → ∀ (l : List (List Nat)), Cq ok B k p j l → ∃ l1 l2, l = l1 ++ l2 ∧ Cq ok B k p B l2 ∧ ∀ q, q ∈ l1 ↔ ∃ h ds, j ≤ h ∧ h < B ∧ ok p h = true ∧ q = ds ++ h :: p ∧ ds.length ≤ d ∧ ups ok B (h :: p) ds := by
      intro e
      induction e with
      | zero =>
        intro j hj l hl
        obtain rfl : j = B := by omega
        refine ⟨[], l, rfl, hl, fun q => ⟨fun hq => absurd hq List.not_mem_nil, ?_⟩⟩
        rintro ⟨h, ds, a, b, -⟩; omega
      | succ e ihe =>
        intro j hj l hl
        cases z : ok p j with
        | false =>
          have hl' : Cq ok B k p (j + 1) l := by
            cases l with
            | nil => have h1 : nx ok B p j = none := hl; rw [nx_skip (by omega) z] at h1; exact h1
            | cons p' l => have h1 : nx ok B p j = some p' ∧ Ch ok B k p' l := hl; rw [nx_skip (by omega) z] at h1; exact h1
          obtain ⟨l1, l2, r1, r2, r3⟩ := ihe (j + 1) (by omega) l hl'
          refine ⟨l1, l2, r1, r2, fun q => (r3 q).trans ⟨?_, ?_⟩⟩
          · rintro ⟨h, ds, a, b⟩; exact ⟨h, ds, by omega, b⟩
          · rintro ⟨h, ds, a, b, c, r⟩
            refine ⟨h, ds, ?_, b, c, r⟩
            by_cases y : h = j
            · rw [y, z] at c; cases c
            · omega
        | true =>
          cases l with
          | nil =>
            have h1 : nx ok B p j = none := hl
            rw [nx_take (by omega) z] at h1; cases h1
          | cons p' l =>
            obtain ⟨h1, h2⟩ := hl
            rw [nx_take (by omega) z] at h1
            cases h1
            obtain ⟨m1, l3, t1, t2, t3⟩ := ih (j :: p) (by rw [List.length_cons]; omega) l h2
            have en : nx ok B (j :: p) B = nx ok B p (j + 1) := nx_pop (by rw [Nat.sub_self]; rfl)
            have q1' : Cq ok B k p (j + 1) l3 := by
              cases l3 with
              | nil => have h1 : nx ok B (j :: p) B = none := t2; rw [en] at h1; exact h1
              | cons p' l => have h1 : nx ok B (j :: p) B = some p' ∧ Ch ok B k p' l := t2; rw [en] at h1; exact h1
            obtain ⟨l1, l2, r1, r2, r3⟩ := ihe (j + 1) (by omega) l3 q1'
            refine ⟨((j :: p) :: m1) ++ l1, l2, ?_, r2, fun q => ?_⟩
            · rw [t1, r1, List.append_assoc, List.cons_append]
            · rw [List.mem_append, t3, r3]
              constructor
              · rintro (⟨ds, a, b, c⟩ | ⟨h, ds, a, b⟩)
                · exact ⟨j, ds, Nat.le_refl j, by omega, z, a, b, c⟩
                · exact ⟨h, ds, by omega, b⟩
              · rintro ⟨h, ds, a, b, c, u1, u2, u3⟩
                by_cases y : h = j
                · subst y; exact Or.inl ⟨ds, u1, u2, u3⟩
                · exact Or.inr ⟨h, ds, by omega, b, c, u1, u2, u3⟩
    have hl : Cq ok B k p 0 l := by
      have e : lst B k p = 0 := by unfold lst; rw [if_pos (by omega)]
      cases l with
      | nil => have h' : nx ok B p (lst B k p) = none := h; rw [e] at h'; exact h'
      | cons p' l => have h' : nx ok B p (lst B k p) = some p' ∧ Ch ok B k p' l := h; rw [e] at h'; exact h'
    obtain ⟨l1, l2, q1, q2, q3⟩ := key B 0 (by omega) l hl
    refine ⟨l1, l2, q1, q2, fun q => ?_⟩
    rw [List.mem_cons, q3]
    constructor
    · rintro (rfl | ⟨h, ds, -, b, c, r1, r2, r3⟩)
      · exact ⟨[], rfl, Nat.zero_le _, trivial⟩
      · exact ⟨ds ++ [h], by rw [r1, List.append_assoc]; rfl, by rw [List.length_append, List.length_singleton]; omega, (ups_snoc ds).2 ⟨c, b, r3⟩⟩
    · rintro ⟨ds, r1, r2, r3⟩
      rcases List.eq_nil_or_concat ds with rfl | ⟨ds', h, e⟩
      · exact Or.inl r1
      · rw [List.concat_eq_append] at e
        subst e
        obtain ⟨c, b, r⟩ := (ups_snoc ds').1 r3
        exact Or.inr ⟨h, ds', Nat.zero_le _, b, c, by rw [r1, List.append_assoc]; rfl, by rw [List.length_append, List.length_singleton] at r2; omega, r⟩
theorem ch_memR {ok : List Nat → Nat → Bool} {B k : Nat} {l : List (List Nat)} (h : Ch ok B k [] l) (q : List Nat) : q ∈ [] :: l ↔ q.length ≤ k ∧ ups ok B [] q := by
  obtain ⟨l1, l2, q1, q2, q3⟩ := ch_mem k [] (by rw [List.length_nil]; omega) l h
  have e : l2 = [] := by
    cases l2 with
    | nil => rfl
    | cons p' l =>
      have h1 : nx ok B [] B = some p' ∧ Ch ok B k p' l := q2
      rw [nx_end (by rw [Nat.sub_self]; rfl)] at h1
      cases h1.1
  subst e
  rw [q1, List.append_nil, q3]
  constructor
  · rintro ⟨ds, rfl, a, c⟩
    rw [List.append_nil]; exact ⟨a, c⟩
  · rintro ⟨a, c⟩
    exact ⟨q, (List.append_nil q).symm, a, c⟩
