/-! the law: the system, the script, the law's own row -/
def q_A (s : State) : Nat → Prop := fun q => s.heap.size ≤ q
def q_R (n0 : Nat) : Nat → Prop := fun q => n0 ≤ q ∧ q < n0 + G_c.length
def q_Z (n0 ea en : Nat) (ef : Nat → Int32) : State → Heap → Prop := fun U H => va_T .int ea en (fun j => .int (ef j)) (q_R n0) U H
abbrev q_E (D : va_G) (cI cL : ClassId) (n0 ea en : Nat) (ef : Nat → Int32) : z_E z_M := zEc D cI cL n0 (q_Z n0 ea en ef)
theorem q_ok {D : va_G} {cI cL : ClassId} {n0 ea en : Nat} {ef : Nat → Int32} : z_EOK (q_E D cI cL n0 ea en ef) := z_sysOK ⟨fun _ _ _ hW h => h.moved hW.alike, fun u U _ hv h => h.moved (by rw [hv]; exact Vm.Alike.refl _), fun _ _ _ hz hq h => h.kept hq⟩
theorem q_hz {D : va_G} {cI cL : ClassId} {n0 ea en : Nat} {ef : Nat → Int32} : ∀ s H, (q_E D cI cL n0 ea en ef).2.1 s H → va_T .int ea en (fun j => .int (ef j)) (q_E D cI cL n0 ea en ef).2.2 s H := fun _ _ h => h.2
def q_C (p : Program) (s : State) (m : MethodId) (c : Code) (b L : Nat) (xs : Nat → Int32) (D : va_G) (cI cL : ClassId) : Prop :=
  CallFix p m c code 14 s #[Value.ref b] z_tbl RL ∧ va_T .int b L (fun j => .int (xs j)) (q_A s) s s.heap ∧ L < 2 ^ 31 ∧ va_K D vwCl [(cI, .int), (cL, .long)] s
def q_I (s : State) (D : va_G) (cI cL : ClassId) (μ : z_M) (X : va_W) (H : Heap) (locs : List Loc) : Prop :=
  va_P D vwCl (z_wf cI cL s.heap.size μ 0 G_c ++ X) H ∧ va_D (q_A s) (z_wf cI cL s.heap.size μ 0 G_c ++ X) ∧ va_S (q_A s) s.heap H locs ∧ ∀ (k : Nat) (q : Nat × va_E), X[k]? = some q → s.heap.size + 50 ≤ q.1
theorem z_wf_len (cI cL : ClassId) (b : Nat) (μ : z_M) : ∀ (G : List z_C) (k : Nat), (z_wf cI cL b μ k G).length = G.length := by
  intro G
  induction G with
  | nil => intro k; rfl
  | cons c r ih => intro k; show (z_wf cI cL b μ (k + 1) r).length + 1 = r.length + 1; rw [ih]
theorem z_wf_inv {cI cL : ClassId} {μ : z_M} {n0 : Nat} {G : List z_C} {k : Nat} {q : Nat × va_E} (h : (z_wf cI cL n0 μ 0 G)[k]? = some q) : k < G.length ∧ q.1 = n0 + k := by
  rw [z_wf_get] at h
  cases g : G[k]? with
  | none => rw [g] at h; cases h
  | some x =>
    rw [g] at h
    cases h
    exact ⟨(List.getElem?_eq_some_iff.mp g).1, by show n0 + (0 + k) = n0 + k; omega⟩
theorem va_P.left {D : va_G} {cl : List vw_C} {w1 w2 : va_W} {H : Heap} (h : va_P D cl (w1 ++ w2) H) : va_P D cl w1 H := fun k q hk => h k q (by rw [List.getElem?_append_left (List.getElem?_eq_some_iff.mp hk).1]; exact hk)
theorem va_P.right {D : va_G} {cl : List vw_C} {w1 w2 : va_W} {H : Heap} (h : va_P D cl (w1 ++ w2) H) : va_P D cl w2 H := fun k q hk => h (w1.length + k) q (by rw [List.getElem?_append_right (by omega), Nat.add_sub_cancel_left]; exact hk)
section QL
variable {p : Program} {l : Launch} {e : Env} {s : State} {m : MethodId} {below : List Frame} {meth : Method} {c : Code} {H : Heap} {locs : List Loc} {Q : State → Prop} {b L : Nat} {xs : Nat → Int32} {D : va_G} {cI cL : ClassId} {μ μ1 : z_M} {X : va_W} {ls : Array Slot} {pc cells slots : Nat} {S st : List Value}
theorem q_zs (C : q_C p s m c b L xs D cI cL) (I : q_I s D cI cL μ X H locs) : va_T .int b L (fun j => .int (xs j)) (q_R s.heap.size) s H :=
  (C.2.1.kept (fun a h1 h2 => I.2.2.1.2.1 a h1 h2)).narrow (fun q h => h.1)
theorem q_after {H1 : Heap} {L2 : List Loc} (I : q_I s D cI cL μ X H locs) (hz : H.size ≤ H1.size) (hq : ∀ q : Nat, q < H.size → ¬ q_R s.heap.size q → H1[q]? = H[q]?) (hP : va_P D vwCl (z_wf cI cL s.heap.size μ1 0 G_c) H1) (hL2 : ∀ q ∈ L2, q_R s.heap.size q.base) : q_I s D cI cL μ1 X H1 (locs ++ L2) := by
  have hX : va_P D vwCl X H1 := (va_P.right I.1).kept (fun k q hk => hq q.1 ((va_P.right I.1) k q hk).lt (fun z => by have h1 := I.2.2.2 k q hk; have h2 : q.1 < s.heap.size + 50 := z.2; omega))
  have lw : ∀ μ : z_M, (z_wf cI cL s.heap.size μ 0 G_c).length = 50 := fun μ => z_wf_len cI cL _ μ G_c 0
  refine ⟨hP.app hX, ?_, ⟨Nat.le_trans I.2.2.1.1 hz, fun q h1 h2 => by rw [hq q (Nat.lt_of_lt_of_le h1 I.2.2.1.1) (fun z => h2 z.1)]; exact I.2.2.1.2.1 q h1 h2, fun q hq2 => by
      rcases List.mem_append.mp hq2 with h | h
      · exact I.2.2.1.2.2 q h
      · exact (hL2 q h).1⟩, I.2.2.2⟩
  have hD0 : va_D (q_A s) (z_wf cI cL s.heap.size μ1 0 G_c) := (z_sysD D vwCl cI cL G_c s.heap.size μ1 (fun _ _ => True)).weaken (fun _ _ _ h => h.1)
  have hDX : va_D (q_A s) X := by
    refine ⟨fun i j p q hi hj e => ?_, fun k q hk => by show s.heap.size ≤ q.1; have := I.2.2.2 k q hk; omega⟩
    have := I.2.1.1 (50 + i) (50 + j) p q (by rw [List.getElem?_append_right (by rw [lw]; omega), lw, Nat.add_sub_cancel_left]; exact hi) (by rw [List.getElem?_append_right (by rw [lw]; omega), lw, Nat.add_sub_cancel_left]; exact hj) e
    omega
  exact hD0.app hDX (fun i j p q hi hj e => by
    have h1 := z_wf_inv hi
    have h2 := I.2.2.2 j q hj
    have h3 : i < 50 := h1.1
    have h4 := h1.2
    omega)
set_option maxHeartbeats 1000000 in
theorem q_callV {β : Type} {em' : β → Option Value} {d nL n index ea en : Nat} {ef : Nat → Int32} {yn : MethodName} {cc : ByteArray} {ret : Option FieldType} {As : List Value} {Gf : Option (β × z_M)} {r1 : β} (C : q_C p s m c b L xs D cI cL) (I : q_I s D cI cL μ X H locs) (hZ : va_T .int ea en (fun j => .int (ef j)) (q_R s.heap.size) s H) (hSp : z_S (q_E D cI cL s.heap.size ea en ef) d yn cc nL ret em' (.ref (s.heap.size + 0) :: As) μ Gf) (hG : Gf = some (r1, μ1)) (hM : z_MW yn cc nL ret) (hV : z_MV yn) (hlink : Cond.methodLink RL index yn ∈ z_tbl) (hn : (parseMethodDescriptor yn.desc).map (fun d => d.parameters.length) = some n) (hnA : As.length = n) (hrc : z_Recv (q_E D cI cL s.heap.size ea en ef) yn.cls (s.heap.size + 0) μ) (hst : st = As.reverse ++ .ref (s.heap.size + 0) :: S) (hcat : (S.map fun v => v.category).sum ≤ 8) (hd' : d ≤ 7) (hnL : nL ≤ 13) (hls : lv_has ls 14 []) (hcl : cells ≤ 600000) (hsl : slots ≤ 7302250)
    (hd : decode code pc = .ok (.invokevirtual index, 3)) (k : ∀ (H1 : Heap) (locs1 : List Loc), q_I s D cI cL μ1 X H1 locs1 → W p l e room_1 s m #[Value.ref b] below meth c H1 locs1 cells slots Q (F0 m (pc + 3) ls ((em' r1).toList ++ S))) : W p l e room_1 s m #[Value.ref b] below meth c H locs cells slots Q (F0 m pc ls st) := by
  have hts := C.1.2.2.2.2
  have hcw : CallW room_1 s #[Value.ref b] RL yn.cls index yn cc nL ret (.code yn cc nL ret :: z_tbl) (z_rm d) 0 0 n :=
    ⟨callB_of n hts (z_code_good yn cc nL ret hM.2.1) rfl rfl rfl (hts _ hM.1) (hts _ hlink) ⟨hM.2.2.1, hM.2.2.2, hn⟩ ⟨by show d + 1 ≤ 9; omega, by show 8 + (nL + 11) + 32 * d ≤ 350; omega⟩, hts _ hV.1, hts _ hV.2⟩
  have hW0 : va_P D vwCl (z_wf cI cL s.heap.size μ 0 G_c) H := va_P.left I.1
  have hKH : (q_E D cI cL s.heap.size ea en ef).2.1 s H := ⟨C.2.2.2, hZ⟩
  have hrun := va_runV (R := room_1) (mc := 0) (ms := 0) (locs := locs) (cells := cells) (slots := slots) (below := below) (meth := meth) (e := e) (b := s.heap.size + 0) (As := As) (rest := S) (H := H) (g := F0 m pc ls st) C.1 (hSp r1 μ1 hG q_ok l) hcw ⟨z_Pc_blind q_ok, hrc s H hKH hW0, fun U hU hWm => ⟨rfl, by rw [hU]; exact hW0, by rw [hU]; exact q_ok.1 s U H hWm hKH⟩⟩ rfl hnA hls.1 hst (by rw [show (F0 m pc ls st).monitorRoom = 0 from rfl]; omega) hd ⟨hcl, hsl⟩
  intro T hT Xs
  obtain ⟨v, st₀, t, T', L2, h0, X', hL2, e1, e2, ⟨hv, hw2, hF2⟩, stp⟩ := hrun T hT Xs
  have hv' : v = em' r1 := by injection hv
  subst hv'
  have hz : H.size ≤ T'.heap.size := by rw [← h0, e1]; exact hF2.1
  have hq : ∀ q : Nat, q < H.size → ¬ q_R s.heap.size q → T'.heap[q]? = H[q]? := fun q h1 h2 => by rw [← h0, e1]; exact hF2.2 q (by rw [h0]; exact h1) h2
  obtain ⟨t2, a1, b1⟩ := k T'.heap (locs ++ L2) (q_after I hz hq (by rw [e1]; exact hw2) hL2) T' rfl X'
  exact ⟨t2, stp t2 a1, b1⟩
set_option maxHeartbeats 1000000 in
theorem q_callS {β : Type} {em' : β → Option Value} {d nL n index ea en : Nat} {ef : Nat → Int32} {yn : MethodName} {cc : ByteArray} {ret : Option FieldType} {As : List Value} {Gf : Option (β × z_M)} {r1 : β} (C : q_C p s m c b L xs D cI cL) (I : q_I s D cI cL μ X H locs) (hZ : va_T .int ea en (fun j => .int (ef j)) (q_R s.heap.size) s H) (hSp : z_S (q_E D cI cL s.heap.size ea en ef) d yn cc nL ret em' As μ Gf) (hG : Gf = some (r1, μ1)) (hM : z_MW yn cc nL ret) (hV : Cond.static yn ∈ z_tbl) (hlink : Cond.methodLink RL index yn ∈ z_tbl) (hn : (parseMethodDescriptor yn.desc).map (fun d => d.parameters.length) = some n) (hnA : As.length = n) (hst : st = As.reverse ++ S) (hcat : (S.map fun v => v.category).sum ≤ 8) (hd' : d ≤ 7) (hnL : nL ≤ 13) (hls : lv_has ls 14 []) (hcl : cells ≤ 600000) (hsl : slots ≤ 7302250)
    (hd : decode code pc = .ok (.invokestatic index, 3)) (k : ∀ (H1 : Heap) (locs1 : List Loc), q_I s D cI cL μ1 X H1 locs1 → W p l e room_1 s m #[Value.ref b] below meth c H1 locs1 cells slots Q (F0 m (pc + 3) ls ((em' r1).toList ++ S))) : W p l e room_1 s m #[Value.ref b] below meth c H locs cells slots Q (F0 m pc ls st) := by
  have hts := C.1.2.2.2.2
  have hcb : CallB room_1 s #[Value.ref b] RL index yn cc nL ret (.code yn cc nL ret :: z_tbl) (z_rm d) 0 0 n :=
    callB_of n hts (z_code_good yn cc nL ret hM.2.1) rfl rfl rfl (hts _ hM.1) (hts _ hlink) ⟨hM.2.2.1, hM.2.2.2, hn⟩ ⟨by show d + 1 ≤ 9; omega, by show 8 + (nL + 11) + 32 * d ≤ 350; omega⟩
  have hW0 : va_P D vwCl (z_wf cI cL s.heap.size μ 0 G_c) H := va_P.left I.1
  have hKH : (q_E D cI cL s.heap.size ea en ef).2.1 s H := ⟨C.2.2.2, hZ⟩
  have hrun := va_runS (R := room_1) (mc := 0) (ms := 0) (locs := locs) (cells := cells) (slots := slots) (below := below) (meth := meth) (e := e) (As := As) (rest := S) (H := H) (g := F0 m pc ls st) C.1 (hSp r1 μ1 hG q_ok l) ⟨hcb, hts _ hV⟩ ⟨z_Pc_blind q_ok, fun U hU hWm => ⟨rfl, by rw [hU]; exact hW0, by rw [hU]; exact q_ok.1 s U H hWm hKH⟩⟩ rfl hnA hls.1 hst (by rw [show (F0 m pc ls st).monitorRoom = 0 from rfl]; omega) hd ⟨hcl, hsl⟩
  intro T hT Xs
  obtain ⟨v, st₀, t, T', L2, h0, X', hL2, e1, e2, ⟨hv, hw2, hF2⟩, stp⟩ := hrun T hT Xs
  have hv' : v = em' r1 := by injection hv
  subst hv'
  have hz : H.size ≤ T'.heap.size := by rw [← h0, e1]; exact hF2.1
  have hq : ∀ q : Nat, q < H.size → ¬ q_R s.heap.size q → T'.heap[q]? = H[q]? := fun q h1 h2 => by rw [← h0, e1]; exact hF2.2 q (by rw [h0]; exact h1) h2
  obtain ⟨t2, a1, b1⟩ := k T'.heap (locs ++ L2) (q_after I hz hq (by rw [e1]; exact hw2) hL2) T' rfl X'
  exact ⟨t2, stp t2 a1, b1⟩
/-- the law's own row, as an array that the calls don't write -/
theorem q_zr {cA : ClassId} {ra k : Nat} {f : Nat → Int32} (K : va_K D vwCl [(cI, .int), (cL, .long), (cA, .int)] s) (I : q_I s D cI cL μ [(ra, .inl (cA, k, .inl f))] H locs) (hk : k < 2 ^ 31) : va_T .int ra k (fun j => .int (f j)) (q_R s.heap.size) s H := by
  have h1 : H[ra]? = some (vp_cell cA (k, .inl f)) := (va_P.right I.1) 0 (ra, .inl (cA, k, .inl f)) rfl
  rw [vp_cell_i] at h1
  refine ⟨_, h1, (K.2 2 (cA, .int) rfl).1 k (fun j => .int (f j)), fun q => (by cases q), ?_, ?_, fun j hj => ?_, fun z => ?_⟩
  · rw [arrV_size]; exact Nat.le_refl k
  · rw [arrV_size]
  · exact arrV_read _ _ hj
  · have h2 := I.2.2.2 0 _ rfl
    have h3 : ra < s.heap.size + 50 := z.2
    have h4 : s.heap.size + 50 ≤ ra := h2
    omega
theorem q_lv {lv : List (Nat × Value)} (h : lv_has ls 14 lv) : lv_has ls 14 [] := lv_sub h [] rfl
end QL

section QM
variable {p : Program} {l : Launch} {e : Env} {s : State} {m : MethodId} {below : List Frame} {meth : Method} {c : Code} {H : Heap} {locs : List Loc} {Q : State → Prop} {b L : Nat} {xs : Nat → Int32} {D : va_G} {cI cL : ClassId} {μ μ1 : z_M} {X : va_W} {ls : Array Slot} {pc cells slots : Nat} {S st : List Value} {d nL n index ea en : Nat} {ef : Nat → Int32} {yn : MethodName} {cc : ByteArray} {ret : Option FieldType} {As : List Value}
theorem q_callVi {Gf : Option (Int32 × z_M)} {r1 : Int32} (C : q_C p s m c b L xs D cI cL) (I : q_I s D cI cL μ X H locs) (hZ : va_T .int ea en (fun j => .int (ef j)) (q_R s.heap.size) s H) (hSp : z_S (q_E D cI cL s.heap.size ea en ef) d yn cc nL ret z_ei (.ref (s.heap.size + 0) :: As) μ Gf) (hG : Gf = some (r1, μ1)) (hM : z_MW yn cc nL ret) (hV : z_MV yn) (hlink : Cond.methodLink RL index yn ∈ z_tbl) (hn : (parseMethodDescriptor yn.desc).map (fun d => d.parameters.length) = some n) (hnA : As.length = n) (hrc : z_Recv (q_E D cI cL s.heap.size ea en ef) yn.cls (s.heap.size + 0) μ) (hst : st = As.reverse ++ .ref (s.heap.size + 0) :: S) (hcat : (S.map fun v => v.category).sum ≤ 8) (hd' : d ≤ 7) (hnL : nL ≤ 13) (hls : lv_has ls 14 []) (hcl : cells ≤ 600000) (hsl : slots ≤ 7302250)
    (hd : decode code pc = .ok (.invokevirtual index, 3)) (k : ∀ (H1 : Heap) (locs1 : List Loc), q_I s D cI cL μ1 X H1 locs1 → W p l e room_1 s m #[Value.ref b] below meth c H1 locs1 cells slots Q (F0 m (pc + 3) ls (.int r1 :: S))) : W p l e room_1 s m #[Value.ref b] below meth c H locs cells slots Q (F0 m pc ls st) :=
  q_callV C I hZ hSp hG hM hV hlink hn hnA hrc hst hcat hd' hnL hls hcl hsl hd k
theorem q_callVl {Gf : Option (Int64 × z_M)} {r1 : Int64} (C : q_C p s m c b L xs D cI cL) (I : q_I s D cI cL μ X H locs) (hZ : va_T .int ea en (fun j => .int (ef j)) (q_R s.heap.size) s H) (hSp : z_S (q_E D cI cL s.heap.size ea en ef) d yn cc nL ret z_el (.ref (s.heap.size + 0) :: As) μ Gf) (hG : Gf = some (r1, μ1)) (hM : z_MW yn cc nL ret) (hV : z_MV yn) (hlink : Cond.methodLink RL index yn ∈ z_tbl) (hn : (parseMethodDescriptor yn.desc).map (fun d => d.parameters.length) = some n) (hnA : As.length = n) (hrc : z_Recv (q_E D cI cL s.heap.size ea en ef) yn.cls (s.heap.size + 0) μ) (hst : st = As.reverse ++ .ref (s.heap.size + 0) :: S) (hcat : (S.map fun v => v.category).sum ≤ 8) (hd' : d ≤ 7) (hnL : nL ≤ 13) (hls : lv_has ls 14 []) (hcl : cells ≤ 600000) (hsl : slots ≤ 7302250)
    (hd : decode code pc = .ok (.invokevirtual index, 3)) (k : ∀ (H1 : Heap) (locs1 : List Loc), q_I s D cI cL μ1 X H1 locs1 → W p l e room_1 s m #[Value.ref b] below meth c H1 locs1 cells slots Q (F0 m (pc + 3) ls (.long r1 :: S))) : W p l e room_1 s m #[Value.ref b] below meth c H locs cells slots Q (F0 m pc ls st) :=
  q_callV C I hZ hSp hG hM hV hlink hn hnA hrc hst hcat hd' hnL hls hcl hsl hd k
theorem q_callSi {Gf : Option (Int32 × z_M)} {r1 : Int32} (C : q_C p s m c b L xs D cI cL) (I : q_I s D cI cL μ X H locs) (hZ : va_T .int ea en (fun j => .int (ef j)) (q_R s.heap.size) s H) (hSp : z_S (q_E D cI cL s.heap.size ea en ef) d yn cc nL ret z_ei (As) μ Gf) (hG : Gf = some (r1, μ1)) (hM : z_MW yn cc nL ret) (hV : Cond.static yn ∈ z_tbl) (hlink : Cond.methodLink RL index yn ∈ z_tbl) (hn : (parseMethodDescriptor yn.desc).map (fun d => d.parameters.length) = some n) (hnA : As.length = n) (hst : st = As.reverse ++ S) (hcat : (S.map fun v => v.category).sum ≤ 8) (hd' : d ≤ 7) (hnL : nL ≤ 13) (hls : lv_has ls 14 []) (hcl : cells ≤ 600000) (hsl : slots ≤ 7302250)
    (hd : decode code pc = .ok (.invokestatic index, 3)) (k : ∀ (H1 : Heap) (locs1 : List Loc), q_I s D cI cL μ1 X H1 locs1 → W p l e room_1 s m #[Value.ref b] below meth c H1 locs1 cells slots Q (F0 m (pc + 3) ls (.int r1 :: S))) : W p l e room_1 s m #[Value.ref b] below meth c H locs cells slots Q (F0 m pc ls st) :=
  q_callS C I hZ hSp hG hM hV hlink hn hnA hst hcat hd' hnL hls hcl hsl hd k
theorem q_callSv {Gf : Option (Unit × z_M)} {r1 : Unit} (C : q_C p s m c b L xs D cI cL) (I : q_I s D cI cL μ X H locs) (hZ : va_T .int ea en (fun j => .int (ef j)) (q_R s.heap.size) s H) (hSp : z_S (q_E D cI cL s.heap.size ea en ef) d yn cc nL ret z_ev (As) μ Gf) (hG : Gf = some (r1, μ1)) (hM : z_MW yn cc nL ret) (hV : Cond.static yn ∈ z_tbl) (hlink : Cond.methodLink RL index yn ∈ z_tbl) (hn : (parseMethodDescriptor yn.desc).map (fun d => d.parameters.length) = some n) (hnA : As.length = n) (hst : st = As.reverse ++ S) (hcat : (S.map fun v => v.category).sum ≤ 8) (hd' : d ≤ 7) (hnL : nL ≤ 13) (hls : lv_has ls 14 []) (hcl : cells ≤ 600000) (hsl : slots ≤ 7302250)
    (hd : decode code pc = .ok (.invokestatic index, 3)) (k : ∀ (H1 : Heap) (locs1 : List Loc), q_I s D cI cL μ1 X H1 locs1 → W p l e room_1 s m #[Value.ref b] below meth c H1 locs1 cells slots Q (F0 m (pc + 3) ls (S))) : W p l e room_1 s m #[Value.ref b] below meth c H locs cells slots Q (F0 m pc ls st) :=
  q_callS C I hZ hSp hG hM hV hlink hn hnA hst hcat hd' hnL hls hcl hsl hd k
theorem shl_sb : ∀ w, w < 8 → (1 : Int32) <<< (nI w &&& 31) = sb w := by decide
theorem nI_le' {a b : Nat} (h : a ≤ b) (hb : b < 2 ^ 31) : nI a ≤ nI b := Int32.not_lt.mp (nI_nlt h hb)
theorem nI_nle' {a b : Nat} (h : b < a) (ha : a < 2 ^ 31) : ¬ nI a ≤ nI b := Int32.not_le.mpr (nI_lt h ha)
theorem i_inc (w : Nat) : nI w + Int32.ofInt 1 = nI (w + 1) := by
  rw [show Int32.ofInt 1 = 1 by decide]; exact i_succ w
theorem set_last {α : Type} {A : List α} {n : Nat} {x y : α} (h : A.length = n) : (A ++ [x]).set n y = A ++ [y] := by
  subst h
  rw [List.set_append_right A.length y (Nat.le_refl _), Nat.sub_self]; rfl
end QM

