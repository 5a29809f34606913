/-! the first memory -/
def zc0l : List (Nat → Int32) := [(fun j => ([0, 0, 0, 0, 0, 0, 0, 0, 0, (-1), 0] : List Int32).getD j 0), (fun j => ([0, 0, 0, 0, 0, 2, (-1), 0, 0, 1] : List Int32).getD j 0), (fun _ => 0), (fun _ => 0), (fun _ => 0), (fun _ => 0), (fun _ => 0), (fun _ => 0), (fun j => ([0, 0, 0, 0, 0, 2, (-1), 0, 0, 1] : List Int32).getD j 0), (fun _ => 0), (fun _ => 0), (fun _ => 0), (fun _ => 0), (fun _ => 0), (fun _ => 0), (fun j => ([0, 0, 0, 0, 0, 2, (-1), 0, 0, 1] : List Int32).getD j 0), (fun _ => 0), (fun _ => 0), (fun _ => 0), (fun _ => 0), (fun _ => 0), (fun _ => 0), (fun _ => 0), (fun _ => 0), (fun _ => 0), (n_kp (n_kp (n_kp (n_kp (n_kp (n_kp (n_kp (n_kp (fun _ => 0) 0 (-1)) 1 (-1)) 2 (-1)) 3 (-1)) 4 (-1)) 5 (-1)) 6 (-1)) 7 (-1)), (fun _ => 0), (fun _ => 0), (fun _ => 0), (fun _ => 0), (fun _ => 0), (fun _ => 0), (fun _ => 0), (fun _ => 0), (fun _ => 0), (fun _ => 0), (fun _ => 0), (fun _ => 0), (fun _ => 0), (fun _ => 0), (fun _ => 0), (fun _ => 0), (fun _ => 0), (fun _ => 0), (fun _ => 0), (fun j => ([0, 0, 0, 0, (-1)] : List Int32).getD j 0), (fun _ => 0), (fun _ => 0), (fun _ => 0), (fun _ => 0)]
def zc0 : z_M := (fun k => zc0l.getD k (fun _ => 0), fun _ _ => 0)
set_option maxRecDepth 20000 in
theorem k_C {D : va_G} {cI cL : ClassId} {b : Nat} (l : Launch) : Met l yX8_init (.code yX8_init cX8_init 1 none :: z_tbl) (n_rm 3 49 2069) (fun v U => v = (Value.ref b :: []).toArray ∧ U.heap.size = b + 1 ∧ va_K D vwCl [(cI, .int), (cL, .long)] U ∧ va_P D vwCl (n_wf b (b + 1) [.inr (7, [.null, .null, .null, .null, .null, .null, .null, .null, .null, .int 0, .int 0])]) U.heap) (fun _ st o t => o = .returned none ∧ va_P D vwCl (z_wf cI cL b zc0 0 G_c) t.heap ∧ va_F (n_A b (b + 1)) st t) 49 2069 (n_A b (b + 1)) :=
  k_X8 (D := D) (cI := cI) (cL := cL) (a := b) (sz := b + 1) (Nat.lt_succ_self b) l
def zS0 : zS := fun a i => if a = 10 ∧ i = 2 then 2 else if a = 10 ∧ i = 3 then -1 else if a = 10 ∧ i = 6 then 1 else 0
theorem bs_first : Bs zc0 zS0 0 0 2 := by
  have z0 : ∀ a i, a < 10 → zS0 a i = 0 := fun a i h => by unfold zS0; rw [if_neg (by omega), if_neg (by omega), if_neg (by omega)]
  refine ⟨⟨fun k x hk hx => ?_, fun k x hk hx => ?_, fun i hi => ?_, ?_⟩, ⟨1, by omega, ⟨0, by omega, rfl⟩, ⟨0, by omega, rfl⟩, ⟨2, by omega, by omega, rfl⟩, Or.inl rfl, fun h hh => ?_, fun w hw => ?_, fun w hw => ?_, fun i hi => ?_⟩, ⟨rfl, rfl, rfl⟩, ⟨by omega, by omega, by omega, by omega⟩, rfl⟩
  · rw [z0 k x (by omega)]; rfl
  · rw [z0 (5 + k) x (by omega)]; rfl
  · rw [z0 9 i (by omega)]; rfl
  · decide
  · rw [z0 0 h (by omega), z0 1 h (by omega), z0 2 h (by omega), z0 3 h (by omega), z0 4 h (by omega)]
    exact ⟨⟨0, by omega, rfl⟩, ⟨0, by omega, rfl⟩, ⟨0, by omega, rfl⟩, ⟨0, by omega, rfl⟩, ⟨0, by omega, rfl⟩⟩
  · have e : sW zS0 = 0 := by unfold sW zS0; rfl
    omega
  · rw [z0 8 w (by omega)]; exact ⟨0, by omega, rfl⟩
  · rw [z0 9 i (by omega)]; exact ⟨0, by omega, rfl⟩
