/-! System.arraycopy within one array of longs -/
theorem z_acLink : Cond.methodLink RX5 72 arraycopyName ∈ z_tbl := z_tat 405 (by decide +kernel) rfl
theorem z_acStat : Cond.static arraycopyName ∈ z_tbl := z_tat 406 (by decide +kernel) rfl
theorem z_acNat : Cond.native arraycopyName ∈ z_tbl := z_tat 407 (by decide +kernel) rfl
theorem z_acIni : Cond.initialized "java/lang/System" ∈ z_tbl := z_tat 99 (by decide +kernel) rfl
theorem z_acW : nativeFrameWords "java/lang/System" "arraycopy" 5 ≤ 30 := by decide +kernel
def z_cg {β : Type} (sp dp n : Int32) (N : Nat) (A : Option β) : Option β := if ¬ sp < 0 ∧ ¬ dp < 0 ∧ ¬ n < 0 ∧ z_ix sp + z_ix n ≤ N ∧ z_ix dp + z_ix n ≤ N then A else none
theorem z_cg_some {β : Type} {sp dp n : Int32} {N : Nat} {A : Option β} {x : β} (h : z_cg sp dp n N A = some x) : (¬ sp < 0 ∧ ¬ dp < 0 ∧ ¬ n < 0 ∧ z_ix sp + z_ix n ≤ N ∧ z_ix dp + z_ix n ≤ N) ∧ A = some x := by
  unfold z_cg at h
  by_cases hc : ¬ sp < 0 ∧ ¬ dp < 0 ∧ ¬ n < 0 ∧ z_ix sp + z_ix n ≤ N ∧ z_ix dp + z_ix n ≤ N
  · rw [if_pos hc] at h; exact ⟨hc, h⟩
  · rw [if_neg hc] at h; cases h
def z_cp (μ : z_M) (k : Nat) (sp dp n : Int32) : z_M := (μ.1, fun x j => if x = k then va_cpy (μ.2 k) (μ.2 k) (z_ix sp) (z_ix dp) (z_ix n) j else μ.2 x j)
theorem z_wf_aLf {cI cL : ClassId} {b : Nat} {μ : z_M} {G : List z_C} {k n : Nat} {g : Nat → Int64} (h : G[k]? = some (.inr (true, n))) :
    (z_wf cI cL b μ 0 G).set k (b + k, .inl (cL, n, .inr (.inl g))) = z_wf cI cL b (μ.1, fun x j => if x = k then g j else μ.2 x j) 0 G := by
  apply List.ext_getElem?
  intro i
  rw [List.getElem?_set, z_wf_get, z_wf_get]
  simp only [Nat.zero_add]
  by_cases hi : k = i
  · subst hi
    have hl : k < (z_wf cI cL b μ 0 G).length := (List.getElem?_eq_some_iff.mp (z_wf_at h)).1
    simp only [if_pos, hl, h, Option.map_some, z_ent]
  · rw [if_neg hi]
    cases hq : G[i]? with
    | none => rfl
    | some x =>
      rcases x with ⟨o1, o2⟩ | ⟨_ | _, n⟩ <;> simp [z_ent, Ne.symm hi]
theorem z_acopy {α : Type} {cl : List vw_C} {D : va_G} {cI cL : ClassId} {G : List z_C} {b : Nat} {Z : State → Heap → Prop} {y : z_Y} {em : α → Option Value} {pc : Nat} {L : List (Nat × Value)} {S : List Value} {μ : z_M} {F : Option (α × z_M)} {k N index : Nat} {sp dp n : Int32} (hlink : Cond.methodLink y.1 index arraycopyName ∈ z_tbl) (hk : G[k]? = some (.inr (true, N))) (hf : 1 ≤ y.2.2.2.2) (hcat : (S.map fun v => v.category).sum ≤ 8) (hd : decode y.2.1 pc = .ok (.invokestatic index, 3)) (kk : z_w (z_sys cl D cI cL G b Z) y em (pc + 3) L S (z_cp μ k sp dp n) F) : z_w (z_sys cl D cI cL G b Z) y em pc L (.int n :: .int dp :: .ref (b + k) :: .int sp :: .ref (b + k) :: S) μ (z_cg sp dp n N F) :=
  fun r μ' hF p l e s m args below meth c H locs ls hX hE hK hW hS hl => by
  have h2 := z_cg_some hF
  have hw := z_acW
  refine va_copyl hX.1.1 hX.1.2.1 (hX.1.2.2.1.trans hl.1.symm) hX.1.2.2.2.1 (hX.1.2.2.2.2 _ hlink) (hX.1.2.2.2.2 _ z_acNat) (hX.1.2.2.2.2 _ z_acStat) (hX.1.2.2.2.2 _ z_acIni) hK.1 hW (z_sysD D cl cI cL G b μ Z) hS k k 1 1 (z_wf_at hk) (z_wf_at hk) rfl rfl rfl h2.1.1 h2.1.2.1 h2.1.2.2.1 h2.1.2.2.2.1 h2.1.2.2.2.2 (fun _ _ => rfl) (by simp only [z_rm]; omega) (by simp only [z_rm]; omega) hd (fun H1 locs1 hW1 _ hS1 => ?_)
  exact kk r μ' h2.2 p l e s m args below meth c H1 locs1 ls hX hE hK (by have hW2 := hW1; rw [z_wf_aLf hk] at hW2; exact hW2) hS1 hl
