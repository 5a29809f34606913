/-! booleans, answers that are objects, arrays that nobody writes -/
theorem z_bl0 : (0 : Int32) = 0 ∨ (0 : Int32) = 1 := Or.inl rfl
theorem z_bl1 : (1 : Int32) = 0 ∨ (1 : Int32) = 1 := Or.inr rfl
theorem z_blI {C : Prop} {hC : Decidable C} {a b : Int32} (h1 : a = 0 ∨ a = 1) (h2 : b = 0 ∨ b = 1) : (@ite _ C hC a b) = 0 ∨ (@ite _ C hC a b) = 1 := by
  by_cases h : C
  · rw [if_pos h]; exact h1
  · rw [if_neg h]; exact h2
theorem z_blL {α : Type} {x : α} {f : α → Int32} (h : ∀ v, f v = 0 ∨ f v = 1) : z_let x f = 0 ∨ z_let x f = 1 := h x
/-- a method that answers a known object -/
def z_eo (a : Nat) : Unit → Option Value := fun _ => some (.ref a)
theorem z_areto {M : Type} {E : z_E M} {y : z_Y} {pc : Nat} {L : List (Nat × Value)} {μ : M} {a : Nat} {C : String} (hr : y.2.2.2.1 = some (.object C)) (hd : decode y.2.1 pc = .ok (.areturn, 1)) : z_w E y (z_eo a) pc L [.ref a] μ (some ((), μ)) := by
  intro r μ' hF p l e s m args below meth c H locs ls hX hE hK hW hS hl
  obtain rfl : μ = μ' := by injection hF with h; injection h
  exact W.aret hX.1.1 hX.1.2.1 (hX.2.1.trans hr) (Or.inl ⟨C, rfl⟩) (Or.inr ⟨a, rfl⟩) (fun t ht hWm => ⟨rfl, by rw [ht]; exact hW, hS.F ht⟩) hS.2.2 hd hX.2.2
theorem z_callVo {M α : Type} {E : z_E M} {y : z_Y} {em : α → Option Value} {pc : Nat} {L : List (Nat × Value)} {S st : List Value} {μ μ1 : M} {F : Option (α × M)} {yn : MethodName} {cc : ByteArray} {nL d n index o : Nat} {ret : Option FieldType} {As : List Value} {a : Nat} {r1 : Unit} {Gf : Option (Unit × M)} (hSp : z_S E d yn cc nL ret (z_eo a) (.ref o :: As) μ Gf) (hG : Gf = some (r1, μ1)) (hM : z_MW yn cc nL ret) (hV : z_MV yn) (hlink : Cond.methodLink y.1 index yn ∈ z_tbl) (hn : (parseMethodDescriptor yn.desc).map (fun d => d.parameters.length) = some n) (hnA : As.length = n) (hrc : z_Recv E yn.cls o μ) (hst : st = As.reverse ++ .ref o :: S) (hcat : (S.map fun v => v.category).sum ≤ 8) (hd' : d + 1 ≤ y.2.2.2.2) (hnL : nL ≤ 13) (hd : decode y.2.1 pc = .ok (.invokevirtual index, 3)) (k : z_w E y em (pc + 3) L (.ref a :: S) μ1 F) : z_w E y em pc L st μ F :=
  z_callV hSp hG hM hV hlink hn hnA hrc hst hcat hd' hnL hd k
theorem z_tiald {M α : Type} {E : z_E M} {y : z_Y} {em : α → Option Value} {pc : Nat} {L : List (Nat × Value)} {S : List Value} {μ : M} {F : Option (α × M)} {t N : Nat} {g : Nat → Int32} {i : Int32} (hZ : ∀ s H, E.2.1 s H → va_T .int t N (fun j => .int (g j)) E.2.2 s H) (hd : decode y.2.1 pc = .ok (.iaload, 1)) (kk : z_w E y em (pc + 1) L (.int (g (z_ix i)) :: S) μ F) : z_w E y em pc L (.int i :: .ref t :: S) μ (z_chk i N F) :=
  fun r μ' hF p l e s m args below meth c H locs ls hX hE hK hW hS hl => by
  have h2 := z_chk_some hF
  exact va_ti hX.1.1 hX.1.2.1 (hZ _ _ hK) hS h2.1 rfl hd (kk r μ' h2.2 p l e s m args below meth c H locs ls hX hE hK hW hS hl)
theorem z_tlen {M α : Type} {E : z_E M} {y : z_Y} {em : α → Option Value} {pc : Nat} {L : List (Nat × Value)} {S : List Value} {μ : M} {F : Option (α × M)} {t N : Nat} {ty : FieldType} {g : Nat → Value} {v : Int32} (hZ : ∀ s H, E.2.1 s H → va_T ty t N g E.2.2 s H) (hv : Int32.ofNat N = v) (hd : decode y.2.1 pc = .ok (.arraylength, 1)) (kk : z_w E y em (pc + 1) L (.int v :: S) μ F) : z_w E y em pc L (.ref t :: S) μ F :=
  fun r μ' hF p l e s m args below meth c H locs ls hX hE hK hW hS hl => va_tlen hX.1.1 hX.1.2.1 (hZ _ _ hK) hS hv hd (kk r μ' hF p l e s m args below meth c H locs ls hX hE hK hW hS hl)
theorem z_same {M α : Type} {E : z_E M} {y : z_Y} {em : α → Option Value} {pc : Nat} {L : List (Nat × Value)} {S : List Value} {μ : M} {F : Option (α × M)} (C : Prop) (hC : Decidable C) (k : z_w E y em pc L S μ (@ite _ C hC F F)) : z_w E y em pc L S μ F := by
  rw [ite_self] at k; exact k
