/-! the law: two systems side by side -/
def q_Zc (n0 : Nat) (adK adV : Nat → Nat) (w : Option Nat) : State → Heap → Prop := fun U H => z_ZS adK adV w (fun q => n0 ≤ q ∧ q < n0 + G_c.length) U H
def q_Zm (n0 : Nat) (tA : Nat → Nat) : State → Heap → Prop := fun U H => z_ZM tA (fun q => n0 + 50 ≤ q ∧ q < n0 + 50 + G_m.length) U H
abbrev q_Ec (D : va_G) (cI cL : ClassId) (n0 : Nat) (adK adV : Nat → Nat) (w : Option Nat) : z_E z_M := zEc D cI cL n0 (q_Zc n0 adK adV w)
abbrev q_Em (D : va_G) (cI cL : ClassId) (n0 : Nat) (tA : Nat → Nat) : z_E z_M := zEm D cI cL (n0 + 50) (q_Zm n0 tA)
theorem q_okc {D : va_G} {cI cL : ClassId} {n0 : Nat} {adK adV : Nat → Nat} {w : Option Nat} : z_EOK (q_Ec D cI cL n0 adK adV w) := z_sysOK z_ZSok
theorem q_okm {D : va_G} {cI cL : ClassId} {n0 : Nat} {tA : Nat → Nat} : z_EOK (q_Em D cI cL n0 tA) := z_sysOK z_ZMok
theorem q_hzc {D : va_G} {cI cL : ClassId} {n0 : Nat} {adK adV : Nat → Nat} {w : Option Nat} : ∀ s H, (q_Ec D cI cL n0 adK adV w).2.1 s H → z_ZS adK adV w (q_Ec D cI cL n0 adK adV w).2.2 s H := fun _ _ h => h.2
theorem q_hzm {D : va_G} {cI cL : ClassId} {n0 : Nat} {tA : Nat → Nat} : ∀ s H, (q_Em D cI cL n0 tA).2.1 s H → z_ZM tA (q_Em D cI cL n0 tA).2.2 s H := fun _ _ h => h.2
def q_A (s : State) : Nat → Prop := fun q => s.heap.size ≤ q
def q_C (p : Program) (s : State) (m : MethodId) (c : Code) (b L : Nat) (xs : Nat → Int32) (D : va_G) (cI cL : ClassId) (adK adV : Nat → Nat) (w : Option Nat) (tA : Nat → Nat) : Prop :=
  CallFix p m c code 4 s #[Value.ref b] z_tbl RL ∧ va_X b L xs s s.heap ∧ b < s.heap.size ∧ L ≤ 3072 ∧ va_K D vwCl [(cI, .int), (cL, .long)] s ∧ z_ZS adK adV w (q_A s) s s.heap ∧ z_ZM tA (q_A s) s s.heap
def q_I (s : State) (D : va_G) (cI cL : ClassId) (μ ν : z_M) (H : Heap) (locs : List Loc) : Prop :=
  va_P D vwCl (z_wf cI cL s.heap.size μ 0 G_c) H ∧ va_P D vwCl (z_wf cI cL (s.heap.size + 50) ν 0 G_m) H ∧ va_S (q_A s) s.heap H locs
section QL
variable {p : Program} {l : Launch} {e : Env} {s : State} {m : MethodId} {below : List Frame} {meth : Method} {c : Code} {H : Heap} {locs : List Loc} {Q : State → Prop} {b L : Nat} {xs : Nat → Int32} {D : va_G} {cI cL : ClassId} {adK adV : Nat → Nat} {w : Option Nat} {tA : Nat → Nat} {μ ν μ1 : z_M} {ls : Array Slot} {pc : Nat} {S st : List Value}
theorem q_kc (C : q_C p s m c b L xs D cI cL adK adV w tA) (hS : va_S (q_A s) s.heap H locs) : (q_Ec D cI cL s.heap.size adK adV w).2.1 s H :=
  ⟨C.2.2.2.2.1, (C.2.2.2.2.2.1.kept (fun a h1 h2 => hS.2.1 a h1 h2)).narrow (fun q h => h.1)⟩
theorem q_km (C : q_C p s m c b L xs D cI cL adK adV w tA) (hS : va_S (q_A s) s.heap H locs) : (q_Em D cI cL s.heap.size tA).2.1 s H :=
  ⟨C.2.2.2.2.1, (C.2.2.2.2.2.2.kept (fun a h1 h2 => hS.2.1 a h1 h2)).narrow (fun q h => by show s.heap.size ≤ q; have h1 : s.heap.size + 50 ≤ q := h.1; omega)⟩
theorem z_wf_inv {n0 : Nat} {G : List z_C} {k : Nat} {q : Nat × va_E} (h : (z_wf cI cL n0 μ 0 G)[k]? = some q) : k < G.length ∧ q.1 = n0 + k := by
  rw [z_wf_get] at h
  cases g : G[k]? with
  | none => rw [g] at h; cases h
  | some x =>
    rw [g] at h
    cases h
    exact ⟨(List.getElem?_eq_some_iff.mp g).1, by show n0 + (0 + k) = n0 + k; omega⟩
set_option maxHeartbeats 1000000 in
theorem q_callC {β : Type} {em' : β → Option Value} {d nL n index : Nat} {yn : MethodName} {cc : ByteArray} {ret : Option FieldType} {As : List Value} {Gf : Option (β × z_M)} {r1 : β} (C : q_C p s m c b L xs D cI cL adK adV w tA) (I : q_I s D cI cL μ ν H locs) (hSp : z_S (q_Ec D cI cL s.heap.size adK adV w) d yn cc nL ret em' (.ref (s.heap.size + 0) :: As) μ Gf) (hG : Gf = some (r1, μ1)) (hM : z_MW yn cc nL ret) (hV : z_MV yn) (hlink : Cond.methodLink RL index yn ∈ z_tbl) (hn : (parseMethodDescriptor yn.desc).map (fun d => d.parameters.length) = some n) (hnA : As.length = n) (hrc : z_Recv (q_Ec D cI cL s.heap.size adK adV w) yn.cls (s.heap.size + 0) μ) (hst : st = As.reverse ++ .ref (s.heap.size + 0) :: S) (hcat : (S.map fun v => v.category).sum ≤ 8) (hd' : d ≤ 100) (hnL : nL ≤ 40) (hls : ls.size = 4)
    (hd : decode code pc = .ok (.invokevirtual index, 3)) (k : ∀ (H1 : Heap) (locs1 : List Loc), q_I s D cI cL μ1 ν H1 locs1 → W p l e room_1 s m #[Value.ref b] below meth c H1 locs1 77 4398 Q (F0 m (pc + 3) ls ((em' r1).toList ++ S))) : W p l e room_1 s m #[Value.ref b] below meth c H locs 77 4398 Q (F0 m pc ls st) := by
  have hts := C.1.2.2.2.2
  have hcw : CallW room_1 s #[Value.ref b] RL yn.cls index yn cc nL ret (.code yn cc nL ret :: z_tbl) (z_rm d) 0 0 n :=
    ⟨callB_of n hts (z_code_good yn cc nL ret hM.2.1) rfl rfl rfl (hts _ hM.1) (hts _ hlink) ⟨hM.2.2.1, hM.2.2.2, hn⟩ ⟨by show d + 1 ≤ 2048; omega, by show 8 + (nL + 11) + 60 * d ≤ 84000; omega⟩, hts _ hV.1, hts _ hV.2⟩
  have hKH := q_kc C I.2.2
  have hrun := va_runV (R := room_1) (mc := 0) (ms := 0) (locs := locs) (cells := 77) (slots := 4398) (below := below) (meth := meth) (e := e) (b := s.heap.size + 0) (As := As) (rest := S) (H := H) (g := F0 m pc ls st) C.1 (hSp r1 μ1 hG q_okc l) hcw ⟨z_Pc_blind q_okc, hrc s H hKH I.1, fun U hU hWm => ⟨rfl, by rw [hU]; exact I.1, by rw [hU]; exact q_okc.1 s U H hWm hKH⟩⟩ rfl hnA hls hst (by rw [show (F0 m pc ls st).monitorRoom = 0 from rfl]; omega) hd ⟨Nat.le_of_ble_eq_true rfl, Nat.le_of_ble_eq_true rfl⟩
  intro T hT Xs
  obtain ⟨v, st₀, t, T', L2, h0, X', hL2, e1, e2, ⟨hv, hw2, hF2⟩, stp⟩ := hrun T hT Xs
  have hv' : v = em' r1 := by injection hv
  subst hv'
  have hz : H.size ≤ T'.heap.size := by rw [← h0, e1]; exact hF2.1
  have hq : ∀ q : Nat, q < H.size → ¬ (s.heap.size ≤ q ∧ q < s.heap.size + G_c.length) → T'.heap[q]? = H[q]? := fun q h1 h2 => by rw [← h0, e1]; exact hF2.2 q (by rw [h0]; exact h1) h2
  have hS1 : va_S (q_A s) s.heap T'.heap (locs ++ L2) := ⟨Nat.le_trans I.2.2.1 hz, fun q h1 h2 => by rw [hq q (Nat.lt_of_lt_of_le h1 I.2.2.1) (fun z => h2 z.1)]; exact I.2.2.2.1 q h1 h2, fun q hq2 => by
      rcases List.mem_append.mp hq2 with h | h
      · exact I.2.2.2.2 q h
      · exact (hL2 q h).1⟩
  have hm2 : va_P D vwCl (z_wf cI cL (s.heap.size + 50) ν 0 G_m) T'.heap := I.2.1.kept (fun k q hk => hq q.1 (I.2.1 k q hk).lt (fun z => by
    have h1 := (z_wf_inv hk).2
    have h2 : q.1 < s.heap.size + 50 := z.2
    omega))
  obtain ⟨t2, a1, b1⟩ := k T'.heap (locs ++ L2) ⟨by rw [e1]; exact hw2, hm2, hS1⟩ T' rfl X'
  exact ⟨t2, stp t2 a1, b1⟩
set_option maxHeartbeats 1000000 in
theorem q_callM {β : Type} {em' : β → Option Value} {d nL n index : Nat} {yn : MethodName} {cc : ByteArray} {ret : Option FieldType} {As : List Value} {Gf : Option (β × z_M)} {r1 : β} {ν1 : z_M} (C : q_C p s m c b L xs D cI cL adK adV w tA) (I : q_I s D cI cL μ ν H locs) (hSp : z_S (q_Em D cI cL s.heap.size tA) d yn cc nL ret em' (.ref (s.heap.size + 50 + 0) :: As) ν Gf) (hG : Gf = some (r1, ν1)) (hM : z_MW yn cc nL ret) (hV : z_MV yn) (hlink : Cond.methodLink RL index yn ∈ z_tbl) (hn : (parseMethodDescriptor yn.desc).map (fun d => d.parameters.length) = some n) (hnA : As.length = n) (hrc : z_Recv (q_Em D cI cL s.heap.size tA) yn.cls (s.heap.size + 50 + 0) ν) (hst : st = As.reverse ++ .ref (s.heap.size + 50 + 0) :: S) (hcat : (S.map fun v => v.category).sum ≤ 8) (hd' : d ≤ 100) (hnL : nL ≤ 40) (hls : ls.size = 4)
    (hd : decode code pc = .ok (.invokevirtual index, 3)) (k : ∀ (H1 : Heap) (locs1 : List Loc), q_I s D cI cL μ ν1 H1 locs1 → W p l e room_1 s m #[Value.ref b] below meth c H1 locs1 77 4398 Q (F0 m (pc + 3) ls ((em' r1).toList ++ S))) : W p l e room_1 s m #[Value.ref b] below meth c H locs 77 4398 Q (F0 m pc ls st) := by
  have hts := C.1.2.2.2.2
  have hcw : CallW room_1 s #[Value.ref b] RL yn.cls index yn cc nL ret (.code yn cc nL ret :: z_tbl) (z_rm d) 0 0 n :=
    ⟨callB_of n hts (z_code_good yn cc nL ret hM.2.1) rfl rfl rfl (hts _ hM.1) (hts _ hlink) ⟨hM.2.2.1, hM.2.2.2, hn⟩ ⟨by show d + 1 ≤ 2048; omega, by show 8 + (nL + 11) + 60 * d ≤ 84000; omega⟩, hts _ hV.1, hts _ hV.2⟩
  have hKH := q_km C I.2.2
  have hrun := va_runV (R := room_1) (mc := 0) (ms := 0) (locs := locs) (cells := 77) (slots := 4398) (below := below) (meth := meth) (e := e) (b := s.heap.size + 50 + 0) (As := As) (rest := S) (H := H) (g := F0 m pc ls st) C.1 (hSp r1 ν1 hG q_okm l) hcw ⟨z_Pc_blind q_okm, hrc s H hKH I.2.1, fun U hU hWm => ⟨rfl, by rw [hU]; exact I.2.1, by rw [hU]; exact q_okm.1 s U H hWm hKH⟩⟩ rfl hnA hls hst (by rw [show (F0 m pc ls st).monitorRoom = 0 from rfl]; omega) hd ⟨Nat.le_of_ble_eq_true rfl, Nat.le_of_ble_eq_true rfl⟩
  intro T hT Xs
  obtain ⟨v, st₀, t, T', L2, h0, X', hL2, e1, e2, ⟨hv, hw2, hF2⟩, stp⟩ := hrun T hT Xs
  have hv' : v = em' r1 := by injection hv
  subst hv'
  have hz : H.size ≤ T'.heap.size := by rw [← h0, e1]; exact hF2.1
  have hq : ∀ q : Nat, q < H.size → ¬ (s.heap.size + 50 ≤ q ∧ q < s.heap.size + 50 + G_m.length) → T'.heap[q]? = H[q]? := fun q h1 h2 => by rw [← h0, e1]; exact hF2.2 q (by rw [h0]; exact h1) h2
  have hS1 : va_S (q_A s) s.heap T'.heap (locs ++ L2) := ⟨Nat.le_trans I.2.2.1 hz, fun q h1 h2 => by rw [hq q (Nat.lt_of_lt_of_le h1 I.2.2.1) (fun z => h2 (by show s.heap.size ≤ q; omega))]; exact I.2.2.2.1 q h1 h2, fun q hq2 => by
      rcases List.mem_append.mp hq2 with h | h
      · exact I.2.2.2.2 q h
      · show s.heap.size ≤ q.base
        have h2 : s.heap.size + 50 ≤ q.base := (hL2 q h).1
        omega⟩
  have hm2 : va_P D vwCl (z_wf cI cL s.heap.size μ 0 G_c) T'.heap := I.1.kept (fun k q hk => hq q.1 (I.1 k q hk).lt (fun z => by
    have h1 := z_wf_inv hk
    have h3 : k < 50 := h1.1
    have h2 := h1.2
    omega))
  obtain ⟨t2, a1, b1⟩ := k T'.heap (locs ++ L2) ⟨hm2, by rw [e1]; exact hw2, hS1⟩ T' rfl X'
  exact ⟨t2, stp t2 a1, b1⟩
/-- a cell of the script, onto the stack -/
theorem q_arg {i k : Nat} {j : Int} {o1 o2 : Value} (C : q_C p s m c b L xs D cI cL adK adV w tA) (hS : va_S (q_A s) s.heap H locs) (hl : lv_has ls 4 [(0, .ref b), (1, o1), (2, o2), (3, .int (nI i))]) (hi : i + 6 ≤ L) (hj : Int32.ofInt j = nI k) (hk : k < 6) (d0 : decode code pc = .ok (.aload_n 0, 1)) (d1 : decode code (pc + 1) = .ok (.iload_n 3, 1)) (d2 : decode code (pc + 2) = .ok (.iconst j, 1)) (d3 : decode code (pc + 3) = .ok (.iadd, 1)) (d4 : decode code (pc + 4) = .ok (.iaload, 1)) {cells slots : Nat}
    (kk : W p l e room_1 s m #[Value.ref b] below meth c H locs cells slots Q (F0 m (pc + 5) ls (.int (xs (i + k)) :: st))) : W p l e room_1 s m #[Value.ref b] below meth c H locs cells slots Q (F0 m pc ls st) := by
  have hx := C.1.1
  have hb := C.1.2.1
  have hL := C.2.2.2.1
  refine lv_aload_n hx hb d0 rfl (lv_at hl 0 rfl) ?_
  refine lv_iload_n hx hb d1 rfl (lv_at hl 3 rfl) ?_
  refine lv_iconst hx hb d2 hj ?_
  refine lv_iadd hx hb d3 ?_
  rw [nI_add]
  refine va_sld hx hb C.2.1 C.2.2.1 (fun h => by have h1 : s.heap.size ≤ b := h; have h2 := C.2.2.1; omega) hS (vp_in_iff.mpr (by rw [nI_toInt (by omega)]; omega)) d4 ?_
  rw [show (nI (i + k)).toNatClampNeg = i + k from z_ixN (by omega)]
  exact kk
end QL
theorem lg_same (x : Int64) : lg_cmp x x = 0 := by
  unfold lg_cmp
  rw [if_neg (fun h => absurd h (Int64.lt_irrefl)), if_pos rfl]
