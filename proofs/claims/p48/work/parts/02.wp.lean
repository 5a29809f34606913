/-! ===== the packaged judgement: memory as functions over a fixed graph of cells; one row an instruction ===== -/
def z_tbl : List Cond := lw_tbl.filter goodWord
theorem z_tin {w : Cond} (h : w ∈ lw_tbl) (g : goodWord w = true) : w ∈ z_tbl := List.mem_filter.mpr ⟨h, g⟩
/-- by its place in lw_tbl -/
theorem z_tat {w : Cond} (i : Nat) (h : lw_tbl[i]? = some w) (g : goodWord w = true) : w ∈ z_tbl := z_tin (List.mem_of_getElem? h) g
theorem z_goodIn (ws : List Cond) (h : ∀ w ∈ ws, w ∈ z_tbl) : GoodIn z_tbl ws := fun w hw => ⟨h w hw, good_of_word (List.mem_filter.mp (h w hw)).2⟩
abbrev z_F : Type := Option Nat
abbrev z_C : Type := (Nat × List z_F) ⊕ (Bool × Nat)
abbrev z_M : Type := (Nat → Nat → Int32) × (Nat → Nat → Int64)
def z_fs (b : Nat) (f : Nat → Int32) : Nat → List z_F → List Value
  | _, [] => []
  | j, none :: r => .int (f j) :: z_fs b f (j + 1) r
  | j, some t :: r => .ref (b + t) :: z_fs b f (j + 1) r
def z_ent (cI cL : ClassId) (b : Nat) (μ : z_M) (k : Nat) : z_C → va_E
  | .inl o => .inr (o.1, z_fs b (μ.1 k) 0 o.2)
  | .inr (false, n) => .inl (cI, n, .inl (μ.1 k))
  | .inr (true, n) => .inl (cL, n, .inr (.inl (μ.2 k)))
def z_wf (cI cL : ClassId) (b : Nat) (μ : z_M) : Nat → List z_C → va_W
  | _, [] => []
  | k, c :: r => (b + k, z_ent cI cL b μ k c) :: z_wf cI cL b μ (k + 1) r
def z_sI (μ : z_M) (k j : Nat) (v : Int32) : z_M := (fun k' j' => if k' = k ∧ j' = j then v else μ.1 k' j', μ.2)
def z_sL (μ : z_M) (k j : Nat) (v : Int64) : z_M := (μ.1, fun k' j' => if k' = k ∧ j' = j then v else μ.2 k' j')
theorem z_wf_get (cI cL : ClassId) (b : Nat) (μ : z_M) : ∀ (G : List z_C) (k0 i : Nat), (z_wf cI cL b μ k0 G)[i]? = (G[i]?).map (fun c => (b + (k0 + i), z_ent cI cL b μ (k0 + i) c)) := by
  intro G
  induction G with
  | nil => intro k0 i; simp [z_wf]
  | cons c r ih =>
    intro k0 i
    cases i with
    | zero => simp [z_wf]
    | succ i =>
      simp only [z_wf, List.getElem?_cons_succ]
      rw [ih]
      rw [show k0 + 1 + i = k0 + (i + 1) by omega]
theorem z_wf_at {cI cL : ClassId} {b : Nat} {μ : z_M} {G : List z_C} {k : Nat} {c : z_C} (h : G[k]? = some c) : (z_wf cI cL b μ 0 G)[k]? = some (b + k, z_ent cI cL b μ k c) := by
  rw [z_wf_get, h, Nat.zero_add]; rfl
theorem z_fs_get (b : Nat) (f : Nat → Int32) : ∀ (fs : List z_F) (j0 i : Nat), (z_fs b f j0 fs)[i]? = (fs[i]?).map (fun x => match x with | none => Value.int (f (j0 + i)) | some t => Value.ref (b + t)) := by
  intro fs
  induction fs with
  | nil => intro j0 i; simp [z_fs]
  | cons c r ih =>
    intro j0 i
    cases i with
    | zero => cases c <;> simp [z_fs]
    | succ i =>
      have e : j0 + 1 + i = j0 + (i + 1) := by omega
      cases c <;> (simp only [z_fs, List.getElem?_cons_succ]; rw [ih, e])
theorem z_fs_int {b : Nat} {f : Nat → Int32} {fs : List z_F} {j : Nat} (h : fs[j]? = some none) : (z_fs b f 0 fs)[j]? = some (.int (f j)) := by
  rw [z_fs_get, h, Nat.zero_add]; rfl
theorem z_fs_ref {b : Nat} {f : Nat → Int32} {fs : List z_F} {j t : Nat} (h : fs[j]? = some (some t)) : (z_fs b f 0 fs)[j]? = some (.ref (b + t)) := by
  rw [z_fs_get, h]; rfl
theorem z_fs_len (b : Nat) (f : Nat → Int32) : ∀ (fs : List z_F) (j0 : Nat), (z_fs b f j0 fs).length = fs.length := by
  intro fs
  induction fs with
  | nil => intro j0; rfl
  | cons c r ih => intro j0; cases c <;> simp [z_fs, ih]
theorem z_fs_set {b : Nat} {f : Nat → Int32} {fs : List z_F} {j : Nat} {v : Int32} (h : fs[j]? = some none) : (z_fs b f 0 fs).set j (.int v) = z_fs b (fun j' => if j' = j then v else f j') 0 fs := by
  apply List.ext_getElem?
  intro i
  rw [List.getElem?_set, z_fs_get, z_fs_get]
  by_cases hi : j = i
  · subst hi
    have hl : j < fs.length := (List.getElem?_eq_some_iff.mp h).1
    rw [if_pos rfl, if_pos (by rw [z_fs_len]; exact hl), h]
    simp
  · rw [if_neg hi]
    cases hq : fs[i]? with
    | none => rfl
    | some x => cases x <;> simp [Ne.symm hi]
theorem z_wf_sI {cI cL : ClassId} {b : Nat} {μ : z_M} {G : List z_C} {k j ci : Nat} {fs : List z_F} {v : Int32} (h : G[k]? = some (.inl (ci, fs))) (hj : fs[j]? = some none) :
    (z_wf cI cL b μ 0 G).set k (b + k, .inr (ci, (z_fs b (μ.1 k) 0 fs).set j (.int v))) = z_wf cI cL b (z_sI μ k j v) 0 G := by
  apply List.ext_getElem?
  intro i
  rw [List.getElem?_set, z_wf_get, z_wf_get]
  simp only [Nat.zero_add]
  by_cases hi : k = i
  · subst hi
    have hl : k < (z_wf cI cL b μ 0 G).length := (List.getElem?_eq_some_iff.mp (z_wf_at h)).1
    simp only [if_pos, hl, h, Option.map_some, z_ent, z_sI]
    rw [z_fs_set hj]
    simp
  · rw [if_neg hi]
    cases hq : G[i]? with
    | none => rfl
    | some x =>
      rcases x with ⟨o1, o2⟩ | ⟨_ | _, n⟩ <;> simp [z_ent, z_sI, Ne.symm hi]
theorem z_wf_aI {cI cL : ClassId} {b : Nat} {μ : z_M} {G : List z_C} {k j n : Nat} {v : Int32} (h : G[k]? = some (.inr (false, n))) :
    (z_wf cI cL b μ 0 G).set k (b + k, .inl (cI, n, .inl (upd (μ.1 k) j v))) = z_wf cI cL b (z_sI μ k j v) 0 G := by
  apply List.ext_getElem?
  intro i
  rw [List.getElem?_set, z_wf_get, z_wf_get]
  simp only [Nat.zero_add]
  by_cases hi : k = i
  · subst hi
    have hl : k < (z_wf cI cL b μ 0 G).length := (List.getElem?_eq_some_iff.mp (z_wf_at h)).1
    simp only [if_pos, hl, h, Option.map_some, z_ent, z_sI, upd]
    simp
    rfl
  · rw [if_neg hi]
    cases hq : G[i]? with
    | none => rfl
    | some x =>
      rcases x with ⟨o1, o2⟩ | ⟨_ | _, n⟩ <;> simp [z_ent, z_sI, Ne.symm hi]
theorem z_wf_aL {cI cL : ClassId} {b : Nat} {μ : z_M} {G : List z_C} {k j n : Nat} {v : Int64} (h : G[k]? = some (.inr (true, n))) :
    (z_wf cI cL b μ 0 G).set k (b + k, .inl (cL, n, .inr (.inl (vp_updL (μ.2 k) j v)))) = z_wf cI cL b (z_sL μ k j v) 0 G := by
  apply List.ext_getElem?
  intro i
  rw [List.getElem?_set, z_wf_get, z_wf_get]
  simp only [Nat.zero_add]
  by_cases hi : k = i
  · subst hi
    have hl : k < (z_wf cI cL b μ 0 G).length := (List.getElem?_eq_some_iff.mp (z_wf_at h)).1
    simp only [if_pos, hl, h, Option.map_some, z_ent, z_sL, vp_updL]
    simp
    rfl
  · rw [if_neg hi]
    cases hq : G[i]? with
    | none => rfl
    | some x =>
      rcases x with ⟨o1, o2⟩ | ⟨_ | _, n⟩ <;> simp [z_ent, z_sL, Ne.symm hi]
/-- a system: what the heap holds for a memory; what is known of the tables and of what nobody writes; its region -/
abbrev z_E (M : Type) : Type := (M → Heap → Prop) × (State → Heap → Prop) × (Nat → Prop)
def z_EOK {M : Type} (E : z_E M) : Prop := (∀ s U H, s.WarmedH U.vm → E.2.1 s H → E.2.1 U H) ∧ (∀ u U H, U.vm = u.vm → E.2.1 u H → E.2.1 U H) ∧ ∀ U H H1, H.size ≤ H1.size → (∀ q : Nat, q < H.size → ¬ E.2.2 q → H1[q]? = H[q]?) → E.2.1 U H → E.2.1 U H1
/-- class, code, locals, return type, depth -/
abbrev z_Y : Type := String × ByteArray × Nat × Option FieldType × Nat
def z_rm (d : Nat) : Room := { frames := d, cells := 0, slots := 0, locals := 32 * d }
def z_Qc {M : Type} (E : z_E M) (v : Option Value) (μ : M) : Array Value → State → Outcome → State → Prop := fun _ st o t => o = .returned v ∧ E.1 μ t.heap ∧ va_F E.2.2 st t
def z_Pc {M : Type} (E : z_E M) (As : List Value) (μ : M) : Array Value → State → Prop := fun v U => v = As.toArray ∧ E.1 μ U.heap ∧ E.2.1 U U.heap
def z_Fix (y : z_Y) (p : Program) (m : MethodId) (c : Code) (s : State) (args : Array Value) (meth : Method) : Prop := CallFix p m c y.2.1 y.2.2.1 s args z_tbl y.1 ∧ meth.sig.returnType = y.2.2.2.1 ∧ meth.locks = false
def z_w {M α : Type} (E : z_E M) (y : z_Y) (em : α → Option Value) (pc : Nat) (L : List (Nat × Value)) (S : List Value) (μ : M) (F : Option (α × M)) : Prop :=
  ∀ (r : α) (μ' : M), F = some (r, μ') → ∀ (p : Program) (l : Launch) (e : Env) (s : State) (m : MethodId) (args : Array Value) (below : List Frame) (meth : Method) (c : Code) (H : Heap) (locs : List Loc) (ls : Array Slot), z_Fix y p m c s args meth → z_EOK E → E.2.1 s s.heap → E.1 μ H → va_S E.2.2 s.heap H locs → lv_has ls y.2.2.1 L →
    W p l e (z_rm y.2.2.2.2) s m args below meth c H locs 0 0 (MQ below (z_Qc E (em r) μ') args s 0 0 E.2.2) (F0 m pc ls S)
/-- a method's contract -/
def z_S {M α : Type} (E : z_E M) (d : Nat) (yn : MethodName) (cc : ByteArray) (nL : Nat) (ret : Option FieldType) (em : α → Option Value) (As : List Value) (μ : M) (F : Option (α × M)) : Prop :=
  ∀ (r : α) (μ' : M), F = some (r, μ') → z_EOK E → ∀ l : Launch, Met l yn (.code yn cc nL ret :: z_tbl) (z_rm d) (z_Pc E As μ) (z_Qc E (em r) μ') 0 0 E.2.2
def z_look (L : List (Nat × Value)) (i : Nat) : Option Value := match L with
  | [] => none
  | q :: r => if q.1 = i then some q.2 else z_look r i
theorem z_look_at {ls : Array Slot} {nL : Nat} {v : Value} {i : Nat} : ∀ {L : List (Nat × Value)}, lv_has ls nL L → z_look L i = some v → ls[i]? = some (.val v) := by
  intro L h
  have h2 := h.2.2
  clear h
  induction L with
  | nil => intro h; simp [z_look] at h
  | cons q r ih =>
    intro h
    simp only [z_look] at h
    by_cases hq : q.1 = i
    · rw [if_pos hq] at h
      cases h
      rw [← hq]
      exact h2 q List.mem_cons_self
    · rw [if_neg hq] at h
      exact ih (fun x hx => h2 x (List.mem_cons_of_mem _ hx)) h
def z_sto1 (L : List (Nat × Value)) (i : Nat) (v : Value) : List (Nat × Value) := (L.filter fun q => decide (q.1 < i) && !(q.1 + 1 == i && q.2.category == 2)) ++ (i, v) :: (L.filter fun q => decide (i < q.1))
def z_sto2 (L : List (Nat × Value)) (i : Nat) (v : Value) : List (Nat × Value) := (L.filter fun q => decide (q.1 < i) && !(q.1 + 1 == i && q.2.category == 2)) ++ (i, v) :: (L.filter fun q => decide (i + 1 < q.1))
theorem z_sto1_has {ls : Array Slot} {nL i : Nat} {v : Value} {L : List (Nat × Value)} (h : lv_has ls nL ((i, v) :: L.filter (fun q => !(q.1 == i) && !(q.1 + 1 == i && q.2.category == 2)))) : lv_has ls nL (z_sto1 L i v) := by
  refine ⟨h.1, h.2.1, fun q hq => h.2.2 q ?_⟩
  simp only [z_sto1, List.mem_append, List.mem_cons, List.mem_filter] at hq ⊢
  rcases hq with ⟨h1, h2⟩ | h1 | ⟨h1, h2⟩
  · refine Or.inr ⟨h1, ?_⟩
    simp only [Bool.and_eq_true, decide_eq_true_eq] at h2
    simp only [Bool.and_eq_true]
    exact ⟨by simp; omega, h2.2⟩
  · exact Or.inl h1
  · refine Or.inr ⟨h1, ?_⟩
    simp only [decide_eq_true_eq] at h2
    have e1 : (q.1 == i) = false := by simp; omega
    have e2 : (q.1 + 1 == i) = false := by simp; omega
    simp [e1, e2]
theorem z_sto2_has {ls : Array Slot} {nL i : Nat} {v : Value} {L : List (Nat × Value)} (h : lv_has ls nL ((i, v) :: L.filter (fun q => !(q.1 == i) && (!(q.1 == i + 1) && !(q.1 + 1 == i && q.2.category == 2))))) : lv_has ls nL (z_sto2 L i v) := by
  refine ⟨h.1, h.2.1, fun q hq => h.2.2 q ?_⟩
  simp only [z_sto2, List.mem_append, List.mem_cons, List.mem_filter] at hq ⊢
  rcases hq with ⟨h1, h2⟩ | h1 | ⟨h1, h2⟩
  · refine Or.inr ⟨h1, ?_⟩
    simp only [Bool.and_eq_true, decide_eq_true_eq] at h2
    simp only [Bool.and_eq_true]
    exact ⟨by simp; omega, by simp; omega, h2.2⟩
  · exact Or.inl h1
  · refine Or.inr ⟨h1, ?_⟩
    simp only [decide_eq_true_eq] at h2
    have e1 : (q.1 == i) = false := by simp; omega
    have e2 : (q.1 == i + 1) = false := by simp; omega
    have e3 : (q.1 + 1 == i) = false := by simp; omega
    simp [e1, e2, e3]
def z_chk {β : Type} (i : Int32) (n : Nat) (A : Option β) : Option β := if 0 ≤ i.toInt ∧ i.toInt < n then A else none
theorem z_chk_in {β : Type} {i : Int32} {n : Nat} {A : Option β} (h : 0 ≤ i.toInt ∧ i.toInt < n) : z_chk i n A = A := if_pos h
theorem z_chk_some {β : Type} {i : Int32} {n : Nat} {A : Option β} {x : β} (h : z_chk i n A = some x) : vp_in i n ∧ A = some x := by
  unfold z_chk at h
  by_cases hc : 0 ≤ i.toInt ∧ i.toInt < n
  · rw [if_pos hc] at h
    exact ⟨vp_in_iff.mpr hc, h⟩
  · rw [if_neg hc] at h
    cases h
def z_ix (i : Int32) : Nat := i.toNatClampNeg
/-- a return that narrows -/
theorem z_nret {p : Program} {l : Launch} {e : Env} {R : Room} {s : State} {m : MethodId} {args : Array Value} {below : List Frame} {meth : Method} {c : Code} {H : Heap} {locs : List Loc} {cells slots : Nat} {cc : ByteArray} {Qc : Array Value → State → Outcome → State → Prop} {free : Addr → Prop} {v v' : Int32} {ty : FieldType} (hexec : p.tables.exec = Jvm.exec) (hb : c.code = cc) (hr : meth.sig.returnType = some ty) (hn : narrow ty (.int v) = .int v')
    (hq : ∀ t : State, t.heap = H → s.WarmedH t.vm → Qc args s (.returned (some (.int v'))) t) (hf : ∀ q ∈ locs, free q.base)
    {pc : Nat} {ls : Array Slot} (hdg : decode cc pc = .ok (.ireturn, 1)) (hlocks : meth.locks = false) : W p l e R s m args below meth c H locs cells slots (MQ below Qc args s cells slots free) (F0 m pc ls [.int v]) := by
  intro T hT X
  obtain ⟨fs, hret, hrun, hended, hW, hframe⟩ := X.leave (v := some (.int v')) (hlocks := hlocks) (fun h => by rw [hr] at h; cases h)
  have hmeth' : T.vm.method? m = some meth := X.method'
  refine ⟨T.setFrames fs, ?_, .returned (some (.int v')), hrun, hended, hq _ hT hW, locs, ⟨⟨_, rfl⟩, hW, hframe⟩, hf⟩
  jvm_step X.here [X.here.top, hexec, hb, hdg, hmeth', hr, hn]
  (try refine ⟨rfl, ?_⟩); (try refine ⟨rfl, ?_⟩)
  first | (intro acts; rw [hret _ acts rfl rfl rfl]) | rw [hret _ _ rfl rfl rfl]
  exact Steps.refl _
theorem z_iinc0 {p : Program} {l : Launch} {e : Env} {R : Room} {s : State} {m : MethodId} {args : Array Value} {below : List Frame} {meth : Method} {c : Code} {H : Heap} {locs : List Loc} {cells slots : Nat} {Q : State → Prop} {cc : ByteArray} {pc : Nat} {ls : Array Slot} {rest : List Value} (hexec : p.tables.exec = Jvm.exec) (hb : c.code = cc) {i nL : Nat} {n : Int} {x v : Int32} {lv : List (Nat × Value)} (hdg : decode cc pc = .ok (.iinc i n, 3)) (h : lv_has ls nL lv) (hx : z_look lv i = some (.int x)) (hv : x + Int32.ofInt n = v) (hn : i < nL)
    (kk : ∀ ls' : Array Slot, lv_has ls' nL ((i, Value.int v) :: lv.filter (fun q => !(q.1 == i) && !(q.1 + 1 == i && q.2.category == 2))) → W p l e R s m args below meth c H locs cells slots Q (F0 m (pc + 3) ls' rest)) : W p l e R s m args below meth c H locs cells slots Q (F0 m pc ls rest) := by
  subst hv
  have hg := z_look_at h hx
  obtain ⟨ls', e', h'⟩ := lv_store1 (v := .int (x + Int32.ofInt n)) h hn rfl
  intro T hT X
  obtain ⟨t, a, b⟩ := kk ls' h' T hT X
  refine ⟨t, ?_, b⟩
  jvm_step X.here [X.here.top, ↓top_set X.here.top, hexec, hb, hdg, hg, e']
  exact a
section ZR
variable {M α : Type} {E : z_E M} {y : z_Y} {em : α → Option Value} {pc : Nat} {L : List (Nat × Value)} {S : List Value} {μ : M} {F A B : Option (α × M)}

theorem z_iconst {n : Int} {v : Int32} (hd : decode y.2.1 pc = .ok (.iconst n, 1)) (hv : Int32.ofInt n = v) (k : z_w E y em (pc + 1) L (.int v :: S) μ F) : z_w E y em pc L S μ F :=
  fun r μ' hF p l e s m args below meth c H locs ls hX hE hK hW hS hl => lv_iconst hX.1.1 hX.1.2.1 hd hv (k r μ' hF p l e s m args below meth c H locs ls hX hE hK hW hS hl)
theorem z_bipush {n : Int} {v : Int32} (hd : decode y.2.1 pc = .ok (.bipush n, 2)) (hv : (Int8.ofInt n).toInt32 = v) (k : z_w E y em (pc + 2) L (.int v :: S) μ F) : z_w E y em pc L S μ F :=
  fun r μ' hF p l e s m args below meth c H locs ls hX hE hK hW hS hl => lv_bipush hX.1.1 hX.1.2.1 hd hv (k r μ' hF p l e s m args below meth c H locs ls hX hE hK hW hS hl)
theorem z_sipush {n : Int} {v : Int32} (hd : decode y.2.1 pc = .ok (.sipush n, 3)) (hv : (Int16.ofInt n).toInt32 = v) (k : z_w E y em (pc + 3) L (.int v :: S) μ F) : z_w E y em pc L S μ F :=
  fun r μ' hF p l e s m args below meth c H locs ls hX hE hK hW hS hl => lv_sipush hX.1.1 hX.1.2.1 hd hv (k r μ' hF p l e s m args below meth c H locs ls hX hE hK hW hS hl)
theorem z_lconst {n : Fin 2} {v : Int64} (hd : decode y.2.1 pc = .ok (.lconst n, 1)) (hv : Int64.ofNat (n : Nat) = v) (k : z_w E y em (pc + 1) L (.long v :: S) μ F) : z_w E y em pc L S μ F :=
  fun r μ' hF p l e s m args below meth c H locs ls hX hE hK hW hS hl => lv_lconst hX.1.1 hX.1.2.1 hd hv (k r μ' hF p l e s m args below meth c H locs ls hX hE hK hW hS hl)
theorem z_ldc {i : Nat} {v : Int32} (hd : decode y.2.1 pc = .ok (.ldc i, 2)) (hc : Cond.constant y.1 i v ∈ z_tbl) (k : z_w E y em (pc + 2) L (.int v :: S) μ F) : z_w E y em pc L S μ F :=
  fun r μ' hF p l e s m args below meth c H locs ls hX hE hK hW hS hl => lv_ldc hX.1.1 hX.1.2.1 hX.1.2.2.2.1 (hX.1.2.2.2.2 _ hc) hd (k r μ' hF p l e s m args below meth c H locs ls hX hE hK hW hS hl)
theorem z_ldcw {i : Nat} {v : Int32} (hd : decode y.2.1 pc = .ok (.ldc_w i, 3)) (hc : Cond.constant y.1 i v ∈ z_tbl) (k : z_w E y em (pc + 3) L (.int v :: S) μ F) : z_w E y em pc L S μ F :=
  fun r μ' hF p l e s m args below meth c H locs ls hX hE hK hW hS hl => lv_ldcw hX.1.1 hX.1.2.1 hX.1.2.2.2.1 (hX.1.2.2.2.2 _ hc) hd (k r μ' hF p l e s m args below meth c H locs ls hX hE hK hW hS hl)
theorem z_ldc2 {i : Nat} {v : Int64} (hd : decode y.2.1 pc = .ok (.ldc2_w i, 3)) (hc : Cond.constantLong y.1 i v ∈ z_tbl) (k : z_w E y em (pc + 3) L (.long v :: S) μ F) : z_w E y em pc L S μ F :=
  fun r μ' hF p l e s m args below meth c H locs ls hX hE hK hW hS hl => lv_ldc2 hX.1.1 hX.1.2.1 hX.1.2.2.2.1 (hX.1.2.2.2.2 _ hc) hd (k r μ' hF p l e s m args below meth c H locs ls hX hE hK hW hS hl)
theorem z_iload_n {k0 : Fin 4} {x : Int32} (hd : decode y.2.1 pc = .ok (.iload_n k0, 1)) (hl0 : z_look L (k0 : Nat) = some (.int x)) (k : z_w E y em (pc + 1) L (.int x :: S) μ F) : z_w E y em pc L S μ F :=
  fun r μ' hF p l e s m args below meth c H locs ls hX hE hK hW hS hl => lv_iload_n hX.1.1 hX.1.2.1 hd rfl (z_look_at hl hl0) (k r μ' hF p l e s m args below meth c H locs ls hX hE hK hW hS hl)
theorem z_iload {i : Nat} {x : Int32} (hd : decode y.2.1 pc = .ok (.iload i, 2)) (hl0 : z_look L i = some (.int x)) (k : z_w E y em (pc + 2) L (.int x :: S) μ F) : z_w E y em pc L S μ F :=
  fun r μ' hF p l e s m args below meth c H locs ls hX hE hK hW hS hl => lv_iload hX.1.1 hX.1.2.1 hd (z_look_at hl hl0) (k r μ' hF p l e s m args below meth c H locs ls hX hE hK hW hS hl)
theorem z_lload_n {k0 : Fin 4} {x : Int64} (hd : decode y.2.1 pc = .ok (.lload_n k0, 1)) (hl0 : z_look L (k0 : Nat) = some (.long x)) (k : z_w E y em (pc + 1) L (.long x :: S) μ F) : z_w E y em pc L S μ F :=
  fun r μ' hF p l e s m args below meth c H locs ls hX hE hK hW hS hl => lv_lload_n hX.1.1 hX.1.2.1 hd rfl (z_look_at hl hl0) (k r μ' hF p l e s m args below meth c H locs ls hX hE hK hW hS hl)
theorem z_lload {i : Nat} {x : Int64} (hd : decode y.2.1 pc = .ok (.lload i, 2)) (hl0 : z_look L i = some (.long x)) (k : z_w E y em (pc + 2) L (.long x :: S) μ F) : z_w E y em pc L S μ F :=
  fun r μ' hF p l e s m args below meth c H locs ls hX hE hK hW hS hl => lv_lload hX.1.1 hX.1.2.1 hd (z_look_at hl hl0) (k r μ' hF p l e s m args below meth c H locs ls hX hE hK hW hS hl)
theorem z_aload_n {k0 : Fin 4} {x : Nat} (hd : decode y.2.1 pc = .ok (.aload_n k0, 1)) (hl0 : z_look L (k0 : Nat) = some (.ref x)) (k : z_w E y em (pc + 1) L (.ref x :: S) μ F) : z_w E y em pc L S μ F :=
  fun r μ' hF p l e s m args below meth c H locs ls hX hE hK hW hS hl => lv_aload_n hX.1.1 hX.1.2.1 hd rfl (z_look_at hl hl0) (k r μ' hF p l e s m args below meth c H locs ls hX hE hK hW hS hl)
theorem z_aload {i : Nat} {x : Nat} (hd : decode y.2.1 pc = .ok (.aload i, 2)) (hl0 : z_look L i = some (.ref x)) (k : z_w E y em (pc + 2) L (.ref x :: S) μ F) : z_w E y em pc L S μ F :=
  fun r μ' hF p l e s m args below meth c H locs ls hX hE hK hW hS hl => lv_aload hX.1.1 hX.1.2.1 hd (z_look_at hl hl0) (k r μ' hF p l e s m args below meth c H locs ls hX hE hK hW hS hl)
theorem z_istore_n {k0 : Fin 4} {x : Int32} {L' : List (Nat × Value)} (hd : decode y.2.1 pc = .ok (.istore_n k0, 1)) (hn : k0.val < y.2.2.1) (hL : z_sto1 L k0.val (.int x) = L') (k : z_w E y em (pc + 1) L' S μ F) : z_w E y em pc L (.int x :: S) μ F :=
  fun r μ' hF p l e s m args below meth c H locs ls hX hE hK hW hS hl => lv_istore_n hX.1.1 hX.1.2.1 hd rfl hl hn rfl (fun ls' hl' => k r μ' hF p l e s m args below meth c H locs ls' hX hE hK hW hS (hL ▸ z_sto1_has hl'))
theorem z_istore {i : Nat} {x : Int32} {L' : List (Nat × Value)} (hd : decode y.2.1 pc = .ok (.istore i, 2)) (hn : i < y.2.2.1) (hL : z_sto1 L i (.int x) = L') (k : z_w E y em (pc + 2) L' S μ F) : z_w E y em pc L (.int x :: S) μ F :=
  fun r μ' hF p l e s m args below meth c H locs ls hX hE hK hW hS hl => lv_istore hX.1.1 hX.1.2.1 hd hl hn rfl (fun ls' hl' => k r μ' hF p l e s m args below meth c H locs ls' hX hE hK hW hS (hL ▸ z_sto1_has hl'))
theorem z_lstore_n {k0 : Fin 4} {x : Int64} {L' : List (Nat × Value)} (hd : decode y.2.1 pc = .ok (.lstore_n k0, 1)) (hn : k0.val + 1 < y.2.2.1) (hL : z_sto2 L k0.val (.long x) = L') (k : z_w E y em (pc + 1) L' S μ F) : z_w E y em pc L (.long x :: S) μ F :=
  fun r μ' hF p l e s m args below meth c H locs ls hX hE hK hW hS hl => lv_lstore_n hX.1.1 hX.1.2.1 hd rfl hl hn rfl (fun ls' hl' => k r μ' hF p l e s m args below meth c H locs ls' hX hE hK hW hS (hL ▸ z_sto2_has hl'))
theorem z_lstore {i : Nat} {x : Int64} {L' : List (Nat × Value)} (hd : decode y.2.1 pc = .ok (.lstore i, 2)) (hn : i + 1 < y.2.2.1) (hL : z_sto2 L i (.long x) = L') (k : z_w E y em (pc + 2) L' S μ F) : z_w E y em pc L (.long x :: S) μ F :=
  fun r μ' hF p l e s m args below meth c H locs ls hX hE hK hW hS hl => lv_lstore hX.1.1 hX.1.2.1 hd hl hn rfl (fun ls' hl' => k r μ' hF p l e s m args below meth c H locs ls' hX hE hK hW hS (hL ▸ z_sto2_has hl'))
theorem z_astore_n {k0 : Fin 4} {x : Nat} {L' : List (Nat × Value)} (hd : decode y.2.1 pc = .ok (.astore_n k0, 1)) (hn : k0.val < y.2.2.1) (hL : z_sto1 L k0.val (.ref x) = L') (k : z_w E y em (pc + 1) L' S μ F) : z_w E y em pc L (.ref x :: S) μ F :=
  fun r μ' hF p l e s m args below meth c H locs ls hX hE hK hW hS hl => lv_astore_n hX.1.1 hX.1.2.1 hd rfl hl hn rfl (fun ls' hl' => k r μ' hF p l e s m args below meth c H locs ls' hX hE hK hW hS (hL ▸ z_sto1_has hl'))
theorem z_astore {i : Nat} {x : Nat} {L' : List (Nat × Value)} (hd : decode y.2.1 pc = .ok (.astore i, 2)) (hn : i < y.2.2.1) (hL : z_sto1 L i (.ref x) = L') (k : z_w E y em (pc + 2) L' S μ F) : z_w E y em pc L (.ref x :: S) μ F :=
  fun r μ' hF p l e s m args below meth c H locs ls hX hE hK hW hS hl => lv_astore hX.1.1 hX.1.2.1 hd hl hn rfl (fun ls' hl' => k r μ' hF p l e s m args below meth c H locs ls' hX hE hK hW hS (hL ▸ z_sto1_has hl'))
theorem z_iadd {x x2 : Int32} (hd : decode y.2.1 pc = .ok (.iadd, 1)) (k : z_w E y em (pc + 1) L (.int (x + x2) :: S) μ F) : z_w E y em pc L (.int x2 :: .int x :: S) μ F :=
  fun r μ' hF p l e s m args below meth c H locs ls hX hE hK hW hS hl => lv_iadd hX.1.1 hX.1.2.1 hd (k r μ' hF p l e s m args below meth c H locs ls hX hE hK hW hS hl)
theorem z_isub {x x2 : Int32} (hd : decode y.2.1 pc = .ok (.isub, 1)) (k : z_w E y em (pc + 1) L (.int (x - x2) :: S) μ F) : z_w E y em pc L (.int x2 :: .int x :: S) μ F :=
  fun r μ' hF p l e s m args below meth c H locs ls hX hE hK hW hS hl => lv_isub hX.1.1 hX.1.2.1 hd (k r μ' hF p l e s m args below meth c H locs ls hX hE hK hW hS hl)
theorem z_imul {x x2 : Int32} (hd : decode y.2.1 pc = .ok (.imul, 1)) (k : z_w E y em (pc + 1) L (.int (x * x2) :: S) μ F) : z_w E y em pc L (.int x2 :: .int x :: S) μ F :=
  fun r μ' hF p l e s m args below meth c H locs ls hX hE hK hW hS hl => lv_imul hX.1.1 hX.1.2.1 hd (k r μ' hF p l e s m args below meth c H locs ls hX hE hK hW hS hl)
theorem z_iand {x x2 : Int32} (hd : decode y.2.1 pc = .ok (.iand, 1)) (k : z_w E y em (pc + 1) L (.int (x &&& x2) :: S) μ F) : z_w E y em pc L (.int x2 :: .int x :: S) μ F :=
  fun r μ' hF p l e s m args below meth c H locs ls hX hE hK hW hS hl => lv_iand hX.1.1 hX.1.2.1 hd (k r μ' hF p l e s m args below meth c H locs ls hX hE hK hW hS hl)
theorem z_ior {x x2 : Int32} (hd : decode y.2.1 pc = .ok (.ior, 1)) (k : z_w E y em (pc + 1) L (.int (x ||| x2) :: S) μ F) : z_w E y em pc L (.int x2 :: .int x :: S) μ F :=
  fun r μ' hF p l e s m args below meth c H locs ls hX hE hK hW hS hl => lv_ior hX.1.1 hX.1.2.1 hd (k r μ' hF p l e s m args below meth c H locs ls hX hE hK hW hS hl)
theorem z_ixor {x x2 : Int32} (hd : decode y.2.1 pc = .ok (.ixor, 1)) (k : z_w E y em (pc + 1) L (.int (x ^^^ x2) :: S) μ F) : z_w E y em pc L (.int x2 :: .int x :: S) μ F :=
  fun r μ' hF p l e s m args below meth c H locs ls hX hE hK hW hS hl => lv_ixor hX.1.1 hX.1.2.1 hd (k r μ' hF p l e s m args below meth c H locs ls hX hE hK hW hS hl)
theorem z_ineg {x : Int32} (hd : decode y.2.1 pc = .ok (.ineg, 1)) (k : z_w E y em (pc + 1) L (.int (-x) :: S) μ F) : z_w E y em pc L (.int x :: S) μ F :=
  fun r μ' hF p l e s m args below meth c H locs ls hX hE hK hW hS hl => lv_ineg hX.1.1 hX.1.2.1 hd (k r μ' hF p l e s m args below meth c H locs ls hX hE hK hW hS hl)
theorem z_ladd {x x2 : Int64} (hd : decode y.2.1 pc = .ok (.ladd, 1)) (k : z_w E y em (pc + 1) L (.long (x + x2) :: S) μ F) : z_w E y em pc L (.long x2 :: .long x :: S) μ F :=
  fun r μ' hF p l e s m args below meth c H locs ls hX hE hK hW hS hl => lv_ladd hX.1.1 hX.1.2.1 hd (k r μ' hF p l e s m args below meth c H locs ls hX hE hK hW hS hl)
theorem z_lsub {x x2 : Int64} (hd : decode y.2.1 pc = .ok (.lsub, 1)) (k : z_w E y em (pc + 1) L (.long (x - x2) :: S) μ F) : z_w E y em pc L (.long x2 :: .long x :: S) μ F :=
  fun r μ' hF p l e s m args below meth c H locs ls hX hE hK hW hS hl => lv_lsub hX.1.1 hX.1.2.1 hd (k r μ' hF p l e s m args below meth c H locs ls hX hE hK hW hS hl)
theorem z_lmul {x x2 : Int64} (hd : decode y.2.1 pc = .ok (.lmul, 1)) (k : z_w E y em (pc + 1) L (.long (x * x2) :: S) μ F) : z_w E y em pc L (.long x2 :: .long x :: S) μ F :=
  fun r μ' hF p l e s m args below meth c H locs ls hX hE hK hW hS hl => lv_lmul hX.1.1 hX.1.2.1 hd (k r μ' hF p l e s m args below meth c H locs ls hX hE hK hW hS hl)
theorem z_land {x x2 : Int64} (hd : decode y.2.1 pc = .ok (.land, 1)) (k : z_w E y em (pc + 1) L (.long (x &&& x2) :: S) μ F) : z_w E y em pc L (.long x2 :: .long x :: S) μ F :=
  fun r μ' hF p l e s m args below meth c H locs ls hX hE hK hW hS hl => lv_land hX.1.1 hX.1.2.1 hd (k r μ' hF p l e s m args below meth c H locs ls hX hE hK hW hS hl)
theorem z_lor {x x2 : Int64} (hd : decode y.2.1 pc = .ok (.lor, 1)) (k : z_w E y em (pc + 1) L (.long (x ||| x2) :: S) μ F) : z_w E y em pc L (.long x2 :: .long x :: S) μ F :=
  fun r μ' hF p l e s m args below meth c H locs ls hX hE hK hW hS hl => lv_lor hX.1.1 hX.1.2.1 hd (k r μ' hF p l e s m args below meth c H locs ls hX hE hK hW hS hl)
theorem z_i2l {x : Int32} (hd : decode y.2.1 pc = .ok (.i2l, 1)) (k : z_w E y em (pc + 1) L (.long x.toInt64 :: S) μ F) : z_w E y em pc L (.int x :: S) μ F :=
  fun r μ' hF p l e s m args below meth c H locs ls hX hE hK hW hS hl => lv_i2l hX.1.1 hX.1.2.1 hd rfl (k r μ' hF p l e s m args below meth c H locs ls hX hE hK hW hS hl)
theorem z_l2i {x : Int64} (hd : decode y.2.1 pc = .ok (.l2i, 1)) (k : z_w E y em (pc + 1) L (.int x.toInt32 :: S) μ F) : z_w E y em pc L (.long x :: S) μ F :=
  fun r μ' hF p l e s m args below meth c H locs ls hX hE hK hW hS hl => lv_l2i hX.1.1 hX.1.2.1 hd rfl (k r μ' hF p l e s m args below meth c H locs ls hX hE hK hW hS hl)
theorem z_i2b {x : Int32} (hd : decode y.2.1 pc = .ok (.i2b, 1)) (k : z_w E y em (pc + 1) L (.int x.toInt8.toInt32 :: S) μ F) : z_w E y em pc L (.int x :: S) μ F :=
  fun r μ' hF p l e s m args below meth c H locs ls hX hE hK hW hS hl => lv_i2b hX.1.1 hX.1.2.1 hd rfl (k r μ' hF p l e s m args below meth c H locs ls hX hE hK hW hS hl)
theorem z_i2s {x : Int32} (hd : decode y.2.1 pc = .ok (.i2s, 1)) (k : z_w E y em (pc + 1) L (.int x.toInt16.toInt32 :: S) μ F) : z_w E y em pc L (.int x :: S) μ F :=
  fun r μ' hF p l e s m args below meth c H locs ls hX hE hK hW hS hl => lv_i2s hX.1.1 hX.1.2.1 hd rfl (k r μ' hF p l e s m args below meth c H locs ls hX hE hK hW hS hl)
theorem z_dup {v : Value} (hd : decode y.2.1 pc = .ok (.dup, 1)) (hc : v.category = 1) (k : z_w E y em (pc + 1) L (v :: v :: S) μ F) : z_w E y em pc L (v :: S) μ F :=
  fun r μ' hF p l e s m args below meth c H locs ls hX hE hK hW hS hl => lv_dup hX.1.1 hX.1.2.1 hd hc (k r μ' hF p l e s m args below meth c H locs ls hX hE hK hW hS hl)
theorem z_pop {v : Value} (hd : decode y.2.1 pc = .ok (.pop, 1)) (hc : v.category = 1) (k : z_w E y em (pc + 1) L S μ F) : z_w E y em pc L (v :: S) μ F :=
  fun r μ' hF p l e s m args below meth c H locs ls hX hE hK hW hS hl => lv_pop hX.1.1 hX.1.2.1 hd hc (k r μ' hF p l e s m args below meth c H locs ls hX hE hK hW hS hl)
theorem z_dup2 {v v2 : Value} (hd : decode y.2.1 pc = .ok (.dup2, 1)) (hc : v.category = 1) (hc2 : v2.category = 1) (k : z_w E y em (pc + 1) L (v :: v2 :: v :: v2 :: S) μ F) : z_w E y em pc L (v :: v2 :: S) μ F :=
  fun r μ' hF p l e s m args below meth c H locs ls hX hE hK hW hS hl => lv_dup2_11 hX.1.1 hX.1.2.1 hd hc hc2 (k r μ' hF p l e s m args below meth c H locs ls hX hE hK hW hS hl)
theorem z_goto {off : Int} {tgt : Nat} (hd : decode y.2.1 pc = .ok (.goto off, 3)) (ht : (pc : Int) + off = (tgt : Int)) (k : z_w E y em tgt L S μ F) : z_w E y em pc L S μ F :=
  fun r μ' hF p l e s m args below meth c H locs ls hX hE hK hW hS hl => lv_goto hX.1.1 hX.1.2.1 hd ht (k r μ' hF p l e s m args below meth c H locs ls hX hE hK hW hS hl)
theorem z_drop {L' : List (Nat × Value)} (ks : List Nat) (hL : lv_pick L ks = L') (k : z_w E y em pc L' S μ F) : z_w E y em pc L S μ F :=
  fun r μ' hF p l e s m args below meth c H locs ls hX hE hK hW hS hl => k r μ' hF p l e s m args below meth c H locs ls hX hE hK hW hS (lv_sub hl ks hL)
theorem z_ishl {x x2 : Int32} (hd : decode y.2.1 pc = .ok (.ishl, 1)) (k : z_w E y em (pc + 1) L (.int (x <<< (x2 &&& 31)) :: S) μ F) : z_w E y em pc L (.int x2 :: .int x :: S) μ F :=
  fun r μ' hF p l e s m args below meth c H locs ls hX hE hK hW hS hl => lv_ishl hX.1.1 hX.1.2.1 hd (k r μ' hF p l e s m args below meth c H locs ls hX hE hK hW hS hl)
theorem z_ishr {x x2 : Int32} (hd : decode y.2.1 pc = .ok (.ishr, 1)) (k : z_w E y em (pc + 1) L (.int (x >>> (x2 &&& 31)) :: S) μ F) : z_w E y em pc L (.int x2 :: .int x :: S) μ F :=
  fun r μ' hF p l e s m args below meth c H locs ls hX hE hK hW hS hl => lv_ishr hX.1.1 hX.1.2.1 hd (k r μ' hF p l e s m args below meth c H locs ls hX hE hK hW hS hl)
theorem z_iushr {x x2 : Int32} (hd : decode y.2.1 pc = .ok (.iushr, 1)) (k : z_w E y em (pc + 1) L (.int (x.toUInt32 >>> (x2.toUInt32 &&& Int32.toUInt32 31)).toInt32 :: S) μ F) : z_w E y em pc L (.int x2 :: .int x :: S) μ F :=
  fun r μ' hF p l e s m args below meth c H locs ls hX hE hK hW hS hl => lv_iushr hX.1.1 hX.1.2.1 hd rfl (k r μ' hF p l e s m args below meth c H locs ls hX hE hK hW hS hl)
theorem z_lshl {x : Int64} {x2 : Int32} (hd : decode y.2.1 pc = .ok (.lshl, 1)) (k : z_w E y em (pc + 1) L (.long (x <<< (x2.toInt64 &&& 63)) :: S) μ F) : z_w E y em pc L (.int x2 :: .long x :: S) μ F :=
  fun r μ' hF p l e s m args below meth c H locs ls hX hE hK hW hS hl => lv_lshl hX.1.1 hX.1.2.1 hd rfl (k r μ' hF p l e s m args below meth c H locs ls hX hE hK hW hS hl)
theorem z_iinc {i : Nat} {n : Int} {x v : Int32} {L' : List (Nat × Value)} (hd : decode y.2.1 pc = .ok (.iinc i n, 3)) (hl0 : z_look L i = some (.int x)) (hn : i < y.2.2.1) (hv : x + Int32.ofInt n = v) (hL : z_sto1 L i (.int v) = L') (k : z_w E y em (pc + 3) L' S μ F) : z_w E y em pc L S μ F :=
  fun r μ' hF p l e s m args below meth c H locs ls hX hE hK hW hS hl => z_iinc0 hX.1.1 hX.1.2.1 hd hl hl0 hv hn (fun ls' hl' => k r μ' hF p l e s m args below meth c H locs ls' hX hE hK hW hS (hL ▸ z_sto1_has hl'))
theorem z_if_eq {x : Int32} {off : Int} {tgt : Nat} (hd : decode y.2.1 pc = .ok (.ifCond .eq off, 3)) (ht : (pc : Int) + off = (tgt : Int)) (k1 : x = 0 → z_w E y em tgt L S μ A) (k2 : ¬ (x = 0) → z_w E y em (pc + 3) L S μ B) : z_w E y em pc L (.int x :: S) μ (if x = 0 then A else B) :=
  fun r μ' hF p l e s m args below meth c H locs ls hX hE hK hW hS hl => lv_if_eq hX.1.1 hX.1.2.1 hd ht (fun h => k1 (h) r μ' (by have hF := hF; rw [if_pos (h)] at hF; exact hF) p l e s m args below meth c H locs ls hX hE hK hW hS hl) (fun h => k2 (h) r μ' (by have hF := hF; rw [if_neg (h)] at hF; exact hF) p l e s m args below meth c H locs ls hX hE hK hW hS hl)
theorem z_if_ne {x : Int32} {off : Int} {tgt : Nat} (hd : decode y.2.1 pc = .ok (.ifCond .ne off, 3)) (ht : (pc : Int) + off = (tgt : Int)) (k1 : x = 0 → z_w E y em (pc + 3) L S μ A) (k2 : ¬ (x = 0) → z_w E y em tgt L S μ B) : z_w E y em pc L (.int x :: S) μ (if x = 0 then A else B) :=
  fun r μ' hF p l e s m args below meth c H locs ls hX hE hK hW hS hl => lv_if_ne hX.1.1 hX.1.2.1 hd ht (fun h => k2 (h) r μ' (by have hF := hF; rw [if_neg (h)] at hF; exact hF) p l e s m args below meth c H locs ls hX hE hK hW hS hl) (fun h => k1 (h) r μ' (by have hF := hF; rw [if_pos (h)] at hF; exact hF) p l e s m args below meth c H locs ls hX hE hK hW hS hl)
theorem z_if_lt {x : Int32} {off : Int} {tgt : Nat} (hd : decode y.2.1 pc = .ok (.ifCond .lt off, 3)) (ht : (pc : Int) + off = (tgt : Int)) (k1 : x < 0 → z_w E y em tgt L S μ A) (k2 : ¬ (x < 0) → z_w E y em (pc + 3) L S μ B) : z_w E y em pc L (.int x :: S) μ (if x < 0 then A else B) :=
  fun r μ' hF p l e s m args below meth c H locs ls hX hE hK hW hS hl => lv_if_lt hX.1.1 hX.1.2.1 hd ht (fun h => k1 (h) r μ' (by have hF := hF; rw [if_pos (h)] at hF; exact hF) p l e s m args below meth c H locs ls hX hE hK hW hS hl) (fun h => k2 (h) r μ' (by have hF := hF; rw [if_neg (h)] at hF; exact hF) p l e s m args below meth c H locs ls hX hE hK hW hS hl)
theorem z_if_ge {x : Int32} {off : Int} {tgt : Nat} (hd : decode y.2.1 pc = .ok (.ifCond .ge off, 3)) (ht : (pc : Int) + off = (tgt : Int)) (k1 : x < 0 → z_w E y em (pc + 3) L S μ A) (k2 : ¬ (x < 0) → z_w E y em tgt L S μ B) : z_w E y em pc L (.int x :: S) μ (if x < 0 then A else B) :=
  fun r μ' hF p l e s m args below meth c H locs ls hX hE hK hW hS hl => lv_if_ge hX.1.1 hX.1.2.1 hd ht (fun h => k2 (Int32.not_lt.mpr h) r μ' (by have hF := hF; rw [if_neg (Int32.not_lt.mpr h)] at hF; exact hF) p l e s m args below meth c H locs ls hX hE hK hW hS hl) (fun h => k1 (Int32.not_le.mp h) r μ' (by have hF := hF; rw [if_pos (Int32.not_le.mp h)] at hF; exact hF) p l e s m args below meth c H locs ls hX hE hK hW hS hl)
theorem z_if_gt {x : Int32} {off : Int} {tgt : Nat} (hd : decode y.2.1 pc = .ok (.ifCond .gt off, 3)) (ht : (pc : Int) + off = (tgt : Int)) (k1 : 0 < x → z_w E y em tgt L S μ A) (k2 : ¬ (0 < x) → z_w E y em (pc + 3) L S μ B) : z_w E y em pc L (.int x :: S) μ (if 0 < x then A else B) :=
  fun r μ' hF p l e s m args below meth c H locs ls hX hE hK hW hS hl => lv_if_gt hX.1.1 hX.1.2.1 hd ht (fun h => k1 (h) r μ' (by have hF := hF; rw [if_pos (h)] at hF; exact hF) p l e s m args below meth c H locs ls hX hE hK hW hS hl) (fun h => k2 (h) r μ' (by have hF := hF; rw [if_neg (h)] at hF; exact hF) p l e s m args below meth c H locs ls hX hE hK hW hS hl)
theorem z_if_le {x : Int32} {off : Int} {tgt : Nat} (hd : decode y.2.1 pc = .ok (.ifCond .le off, 3)) (ht : (pc : Int) + off = (tgt : Int)) (k1 : 0 < x → z_w E y em (pc + 3) L S μ A) (k2 : ¬ (0 < x) → z_w E y em tgt L S μ B) : z_w E y em pc L (.int x :: S) μ (if 0 < x then A else B) :=
  fun r μ' hF p l e s m args below meth c H locs ls hX hE hK hW hS hl => lv_if_le hX.1.1 hX.1.2.1 hd ht (fun h => k2 (Int32.not_lt.mpr h) r μ' (by have hF := hF; rw [if_neg (Int32.not_lt.mpr h)] at hF; exact hF) p l e s m args below meth c H locs ls hX hE hK hW hS hl) (fun h => k1 (Int32.not_le.mp h) r μ' (by have hF := hF; rw [if_pos (Int32.not_le.mp h)] at hF; exact hF) p l e s m args below meth c H locs ls hX hE hK hW hS hl)
theorem z_icmp_eq {x x2 : Int32} {off : Int} {tgt : Nat} (hd : decode y.2.1 pc = .ok (.if_icmp .eq off, 3)) (ht : (pc : Int) + off = (tgt : Int)) (k1 : x = x2 → z_w E y em tgt L S μ A) (k2 : ¬ (x = x2) → z_w E y em (pc + 3) L S μ B) : z_w E y em pc L (.int x2 :: .int x :: S) μ (if x = x2 then A else B) :=
  fun r μ' hF p l e s m args below meth c H locs ls hX hE hK hW hS hl => lv_icmp_eq hX.1.1 hX.1.2.1 hd ht (fun h => k1 (h) r μ' (by have hF := hF; rw [if_pos (h)] at hF; exact hF) p l e s m args below meth c H locs ls hX hE hK hW hS hl) (fun h => k2 (h) r μ' (by have hF := hF; rw [if_neg (h)] at hF; exact hF) p l e s m args below meth c H locs ls hX hE hK hW hS hl)
theorem z_icmp_ne {x x2 : Int32} {off : Int} {tgt : Nat} (hd : decode y.2.1 pc = .ok (.if_icmp .ne off, 3)) (ht : (pc : Int) + off = (tgt : Int)) (k1 : x = x2 → z_w E y em (pc + 3) L S μ A) (k2 : ¬ (x = x2) → z_w E y em tgt L S μ B) : z_w E y em pc L (.int x2 :: .int x :: S) μ (if x = x2 then A else B) :=
  fun r μ' hF p l e s m args below meth c H locs ls hX hE hK hW hS hl => lv_icmp_ne hX.1.1 hX.1.2.1 hd ht (fun h => k2 (h) r μ' (by have hF := hF; rw [if_neg (h)] at hF; exact hF) p l e s m args below meth c H locs ls hX hE hK hW hS hl) (fun h => k1 (h) r μ' (by have hF := hF; rw [if_pos (h)] at hF; exact hF) p l e s m args below meth c H locs ls hX hE hK hW hS hl)
theorem z_icmp_lt {x x2 : Int32} {off : Int} {tgt : Nat} (hd : decode y.2.1 pc = .ok (.if_icmp .lt off, 3)) (ht : (pc : Int) + off = (tgt : Int)) (k1 : x < x2 → z_w E y em tgt L S μ A) (k2 : ¬ (x < x2) → z_w E y em (pc + 3) L S μ B) : z_w E y em pc L (.int x2 :: .int x :: S) μ (if x < x2 then A else B) :=
  fun r μ' hF p l e s m args below meth c H locs ls hX hE hK hW hS hl => lv_icmp_lt hX.1.1 hX.1.2.1 hd ht (fun h => k1 (h) r μ' (by have hF := hF; rw [if_pos (h)] at hF; exact hF) p l e s m args below meth c H locs ls hX hE hK hW hS hl) (fun h => k2 (h) r μ' (by have hF := hF; rw [if_neg (h)] at hF; exact hF) p l e s m args below meth c H locs ls hX hE hK hW hS hl)
theorem z_icmp_ge {x x2 : Int32} {off : Int} {tgt : Nat} (hd : decode y.2.1 pc = .ok (.if_icmp .ge off, 3)) (ht : (pc : Int) + off = (tgt : Int)) (k1 : x < x2 → z_w E y em (pc + 3) L S μ A) (k2 : ¬ (x < x2) → z_w E y em tgt L S μ B) : z_w E y em pc L (.int x2 :: .int x :: S) μ (if x < x2 then A else B) :=
  fun r μ' hF p l e s m args below meth c H locs ls hX hE hK hW hS hl => lv_icmp_ge hX.1.1 hX.1.2.1 hd ht (fun h => k2 (Int32.not_lt.mpr h) r μ' (by have hF := hF; rw [if_neg (Int32.not_lt.mpr h)] at hF; exact hF) p l e s m args below meth c H locs ls hX hE hK hW hS hl) (fun h => k1 (Int32.not_le.mp h) r μ' (by have hF := hF; rw [if_pos (Int32.not_le.mp h)] at hF; exact hF) p l e s m args below meth c H locs ls hX hE hK hW hS hl)
theorem z_icmp_gt {x x2 : Int32} {off : Int} {tgt : Nat} (hd : decode y.2.1 pc = .ok (.if_icmp .gt off, 3)) (ht : (pc : Int) + off = (tgt : Int)) (k1 : x2 < x → z_w E y em tgt L S μ A) (k2 : ¬ (x2 < x) → z_w E y em (pc + 3) L S μ B) : z_w E y em pc L (.int x2 :: .int x :: S) μ (if x2 < x then A else B) :=
  fun r μ' hF p l e s m args below meth c H locs ls hX hE hK hW hS hl => lv_icmp_gt hX.1.1 hX.1.2.1 hd ht (fun h => k1 (h) r μ' (by have hF := hF; rw [if_pos (h)] at hF; exact hF) p l e s m args below meth c H locs ls hX hE hK hW hS hl) (fun h => k2 (h) r μ' (by have hF := hF; rw [if_neg (h)] at hF; exact hF) p l e s m args below meth c H locs ls hX hE hK hW hS hl)
theorem z_icmp_le {x x2 : Int32} {off : Int} {tgt : Nat} (hd : decode y.2.1 pc = .ok (.if_icmp .le off, 3)) (ht : (pc : Int) + off = (tgt : Int)) (k1 : x2 < x → z_w E y em (pc + 3) L S μ A) (k2 : ¬ (x2 < x) → z_w E y em tgt L S μ B) : z_w E y em pc L (.int x2 :: .int x :: S) μ (if x2 < x then A else B) :=
  fun r μ' hF p l e s m args below meth c H locs ls hX hE hK hW hS hl => lv_icmp_le hX.1.1 hX.1.2.1 hd ht (fun h => k2 (Int32.not_lt.mpr h) r μ' (by have hF := hF; rw [if_neg (Int32.not_lt.mpr h)] at hF; exact hF) p l e s m args below meth c H locs ls hX hE hK hW hS hl) (fun h => k1 (Int32.not_le.mp h) r μ' (by have hF := hF; rw [if_pos (Int32.not_le.mp h)] at hF; exact hF) p l e s m args below meth c H locs ls hX hE hK hW hS hl)
theorem z_split {C : Prop} {hC : Decidable C} (k1 : C → z_w E y em pc L S μ A) (k2 : ¬ C → z_w E y em pc L S μ B) : z_w E y em pc L S μ (@ite _ C hC A B) := by
  by_cases h : C
  · rw [if_pos h]; exact k1 h
  · rw [if_neg h]; exact k2 h
theorem z_lookup {x : Int32} {dflt : Int} {ps : Array (Int × Int)} {len : Nat} {off : Int} {tgt : Nat} (hd : decode y.2.1 pc = .ok (.lookupswitch dflt ps, len)) (hp : (ps.toList.zip (ps.toList.drop 1)).all (fun (a, next) => a.1 < next.1) = true) (ho : Op.lookupswitch.offset ps.toList dflt x.toInt = off) (ht : (pc : Int) + off = (tgt : Int)) (k : z_w E y em tgt L S μ F) : z_w E y em pc L (.int x :: S) μ F :=
  fun r μ' hF p l e s m args below meth c H locs ls hX hE hK hW hS hl => lv_lookup hX.1.1 hX.1.2.1 hd hp ho ht (k r μ' hF p l e s m args below meth c H locs ls hX hE hK hW hS hl)
theorem z_tableOut {x : Int32} {dflt lo hi : Int} {offs : Array Int} {len : Nat} {tgt : Nat} (hd : decode y.2.1 pc = .ok (.tableswitch dflt lo hi offs, len)) (h : x.toInt < lo ∨ hi < x.toInt) (ht : (pc : Int) + dflt = (tgt : Int)) (k : z_w E y em tgt L S μ F) : z_w E y em pc L (.int x :: S) μ F :=
  fun r μ' hF p l e s m args below meth c H locs ls hX hE hK hW hS hl => lv_tableOut hX.1.1 hX.1.2.1 hd h ht (k r μ' hF p l e s m args below meth c H locs ls hX hE hK hW hS hl)
theorem z_tableIn {x x0 : Int32} {dflt lo hi : Int} {offs : Array Int} {len : Nat} {off : Int} {tgt : Nat} (hd : decode y.2.1 pc = .ok (.tableswitch dflt lo hi offs, len)) (hx : x = x0) (h1 : ¬ x0.toInt < lo) (h2 : ¬ hi < x0.toInt) (ho : offs[(x0.toInt - lo).toNat]? = some off) (ht : (pc : Int) + off = (tgt : Int)) (k : z_w E y em tgt L S μ F) : z_w E y em pc L (.int x :: S) μ F :=
  fun r μ' hF p l e s m args below meth c H locs ls hX hE hK hW hS hl => lv_tableIn hX.1.1 hX.1.2.1 hd (by rw [hx]; exact h1) (by rw [hx]; exact h2) (by rw [hx]; exact ho) ht (k r μ' hF p l e s m args below meth c H locs ls hX hE hK hW hS hl)
theorem z_lcmp {x x2 : Int64} (hd : decode y.2.1 pc = .ok (.lcmp, 1)) (k : z_w E y em (pc + 1) L (.int (lg_cmp x x2) :: S) μ F) : z_w E y em pc L (.long x2 :: .long x :: S) μ F :=
  fun r μ' hF p l e s m args below meth c H locs ls hX hE hK hW hS hl => W.lcmp hX.1.1 hX.1.2.1 hd (k r μ' hF p l e s m args below meth c H locs ls hX hE hK hW hS hl)
def z_nz {β : Type} (y : Int32) (A : Option β) : Option β := if y = 0 then none else A
def z_nzl {β : Type} (y : Int64) (A : Option β) : Option β := if y = 0 then none else A
theorem z_nz_some {β : Type} {y : Int32} {A : Option β} {x : β} (h : z_nz y A = some x) : ¬ y = 0 ∧ A = some x := by
  unfold z_nz at h
  by_cases hc : y = 0
  · rw [if_pos hc] at h; cases h
  · rw [if_neg hc] at h; exact ⟨hc, h⟩
theorem z_nzl_some {β : Type} {y : Int64} {A : Option β} {x : β} (h : z_nzl y A = some x) : ¬ y = 0 ∧ A = some x := by
  unfold z_nzl at h
  by_cases hc : y = 0
  · rw [if_pos hc] at h; cases h
  · rw [if_neg hc] at h; exact ⟨hc, h⟩
def z_rem (x y : Int32) : Int32 := x - x / y * y
def z_bool {β : Type} (v : Int32) (A : Option β) : Option β := if v = 0 ∨ v = 1 then A else none
theorem z_bool_some {β : Type} {v : Int32} {A : Option β} {x : β} (h : z_bool v A = some x) : (v = 0 ∨ v = 1) ∧ A = some x := by
  unfold z_bool at h
  by_cases hc : v = 0 ∨ v = 1
  · rw [if_pos hc] at h; exact ⟨hc, h⟩
  · rw [if_neg hc] at h; cases h
theorem z_irem {x x2 : Int32} (hd : decode y.2.1 pc = .ok (.irem, 1)) (k : z_w E y em (pc + 1) L (.int (z_rem x x2) :: S) μ F) : z_w E y em pc L (.int x2 :: .int x :: S) μ (z_nz x2 F) :=
  fun r μ' hF p l e s m args below meth c H locs ls hX hE hK hW hS hl => by
  have h2 := z_nz_some hF
  exact lv_irem hX.1.1 hX.1.2.1 hd h2.1 (k r μ' h2.2 p l e s m args below meth c H locs ls hX hE hK hW hS hl)
theorem z_iremK {x x2 : Int32} (hd : decode y.2.1 pc = .ok (.irem, 1)) (hne : ¬ x2 = 0) (k : z_w E y em (pc + 1) L (.int (z_rem x x2) :: S) μ F) : z_w E y em pc L (.int x2 :: .int x :: S) μ F :=
  fun r μ' hF p l e s m args below meth c H locs ls hX hE hK hW hS hl => lv_irem hX.1.1 hX.1.2.1 hd hne (k r μ' hF p l e s m args below meth c H locs ls hX hE hK hW hS hl)
theorem z_ldiv {x x2 : Int64} (hd : decode y.2.1 pc = .ok (.ldiv, 1)) (k : z_w E y em (pc + 1) L (.long (x / x2) :: S) μ F) : z_w E y em pc L (.long x2 :: .long x :: S) μ (z_nzl x2 F) :=
  fun r μ' hF p l e s m args below meth c H locs ls hX hE hK hW hS hl => by
  have h2 := z_nzl_some hF
  exact lv_ldiv hX.1.1 hX.1.2.1 hd h2.1 (k r μ' h2.2 p l e s m args below meth c H locs ls hX hE hK hW hS hl)
end ZR
abbrev z_ei : Int32 → Option Value := fun r => some (.int r)
abbrev z_el : Int64 → Option Value := fun r => some (.long r)
abbrev z_ev : Unit → Option Value := fun _ => none
abbrev z_er : Nat → Option Value := fun a => some (.ref a)
section ZRet
variable {M : Type} {E : z_E M} {y : z_Y} {pc : Nat} {L : List (Nat × Value)} {μ : M}
theorem z_iret {v : Int32} (hr : y.2.2.2.1 = some .int) (hd : decode y.2.1 pc = .ok (.ireturn, 1)) : z_w E y z_ei pc L [.int v] μ (some (v, μ)) :=
  fun r μ' hF p l e s m args below meth c H locs ls hX hE hK hW hS hl => by
  cases hF
  exact W.iret hX.1.1 hX.1.2.1 (hX.2.1.trans hr) (fun t ht hWm => ⟨rfl, by rw [ht]; exact hW, hS.F ht⟩) hS.2.2 hd hX.2.2
theorem z_zret {v : Int32} (hr : y.2.2.2.1 = some .boolean) (hd : decode y.2.1 pc = .ok (.ireturn, 1)) (hv : v = 0 ∨ v = 1) : z_w E y z_ei pc L [.int v] μ (some (v, μ)) :=
  fun r μ' hF p l e s m args below meth c H locs ls hX hE hK hW hS hl => by
  cases hF
  exact z_nret hX.1.1 hX.1.2.1 (hX.2.1.trans hr) (by rcases hv with rfl | rfl <;> rfl) (fun t ht hWm => ⟨rfl, by rw [ht]; exact hW, hS.F ht⟩) hS.2.2 hd hX.2.2
theorem z_zretG {v : Int32} (hr : y.2.2.2.1 = some .boolean) (hd : decode y.2.1 pc = .ok (.ireturn, 1)) : z_w E y z_ei pc L [.int v] μ (z_bool v (some (v, μ))) :=
  fun r μ' hF p l e s m args below meth c H locs ls hX hE hK hW hS hl => by
  have h2 := z_bool_some hF
  exact z_zret hr hd h2.1 r μ' h2.2 p l e s m args below meth c H locs ls hX hE hK hW hS hl
theorem z_lret {v : Int64} (hr : y.2.2.2.1 = some .long) (hd : decode y.2.1 pc = .ok (.lreturn, 1)) : z_w E y z_el pc L [.long v] μ (some (v, μ)) :=
  fun r μ' hF p l e s m args below meth c H locs ls hX hE hK hW hS hl => by
  cases hF
  exact W.lret hX.1.1 hX.1.2.1 (hX.2.1.trans hr) (fun t ht hWm => ⟨rfl, by rw [ht]; exact hW, hS.F ht⟩) hS.2.2 hd hX.2.2
theorem z_vret (hr : y.2.2.2.1 = none) (hd : decode y.2.1 pc = .ok (.return_, 1)) : z_w E y z_ev pc L [] μ (some ((), μ)) :=
  fun r μ' hF p l e s m args below meth c H locs ls hX hE hK hW hS hl => by
  cases hF
  exact W.vret hX.1.1 hX.1.2.1 (hX.2.1.trans hr) (fun t ht hWm => ⟨rfl, by rw [ht]; exact hW, hS.F ht⟩) hS.2.2 hd hX.2.2
theorem z_aret {a : Nat} {C : String} (hr : y.2.2.2.1 = some (.object C)) (hd : decode y.2.1 pc = .ok (.areturn, 1)) : z_w E y z_er pc L [.ref a] μ (some (a, μ)) :=
  fun r μ' hF p l e s m args below meth c H locs ls hX hE hK hW hS hl => by
  cases hF
  exact W.aret hX.1.1 hX.1.2.1 (hX.2.1.trans hr) (Or.inl ⟨C, rfl⟩) (Or.inr ⟨a, rfl⟩) (fun t ht hWm => ⟨rfl, by rw [ht]; exact hW, hS.F ht⟩) hS.2.2 hd hX.2.2
end ZRet
/-! the system over a graph -/
def z_sys (cl : List vw_C) (D : va_G) (cI cL : ClassId) (G : List z_C) (b : Nat) (Z : State → Heap → Prop) : z_E z_M :=
  (fun μ H => va_P D cl (z_wf cI cL b μ 0 G) H, fun s H => va_K D cl [(cI, .int), (cL, .long)] s ∧ Z s H, fun q => b ≤ q ∧ q < b + G.length)
theorem z_sysD (D : va_G) (cl : List vw_C) (cI cL : ClassId) (G : List z_C) (b : Nat) (μ : z_M) (Z : State → Heap → Prop) : va_D (z_sys cl D cI cL G b Z).2.2 (z_wf cI cL b μ 0 G) := by
  refine ⟨fun i j p q hi hj hpq => ?_, fun k q hk => ?_⟩
  · rw [z_wf_get] at hi hj
    cases gi : G[i]? with
    | none => rw [gi] at hi; cases hi
    | some ci =>
      cases gj : G[j]? with
      | none => rw [gj] at hj; cases hj
      | some cj =>
        rw [gi] at hi; rw [gj] at hj
        cases hi; cases hj
        simp only at hpq
        omega
  · rw [z_wf_get] at hk
    cases gk : G[k]? with
    | none => rw [gk] at hk; cases hk
    | some ck =>
      rw [gk] at hk
      cases hk
      have := (List.getElem?_eq_some_iff.mp gk).1
      show b ≤ b + (0 + k) ∧ b + (0 + k) < b + G.length
      omega
def z_ZOK (Z : State → Heap → Prop) (A : Nat → Prop) : Prop := (∀ s U H, s.WarmedH U.vm → Z s H → Z U H) ∧ (∀ u U H, U.vm = u.vm → Z u H → Z U H) ∧ ∀ U H H1, H.size ≤ H1.size → (∀ q : Nat, q < H.size → ¬ A q → H1[q]? = H[q]?) → Z U H → Z U H1
theorem z_sysOK {cl : List vw_C} {D : va_G} {cI cL : ClassId} {G : List z_C} {b : Nat} {Z : State → Heap → Prop} (h : z_ZOK Z (fun q => b ≤ q ∧ q < b + G.length)) : z_EOK (z_sys cl D cI cL G b Z) :=
  ⟨fun s U H hW hK => ⟨va_K.moved hW.alike hK.1, h.1 s U H hW hK.2⟩, fun u U H hv hK => ⟨va_K.moved (u := u) (U := U) (by rw [hv]; exact Vm.Alike.refl _) hK.1, h.2.1 u U H hv hK.2⟩, fun U H H1 hz hq hK => ⟨hK.1, h.2.2 U H H1 hz hq hK.2⟩⟩
section ZG
variable {α : Type} {cl : List vw_C} {D : va_G} {cI cL : ClassId} {G : List z_C} {b : Nat} {Z : State → Heap → Prop} {y : z_Y} {em : α → Option Value} {pc : Nat} {L : List (Nat × Value)} {S : List Value} {μ : z_M} {F : Option (α × z_M)}
theorem z_getI {C ref : String} {T : u_T} {N ci index k j : Nat} {fs : List z_F} (hin : ∀ w ∈ u_ws C T N, w ∈ z_tbl) (hc : cl[ci]? = some (C, T, N)) (hj : j < N) (hlink : Cond.fieldLink y.1 index ref (T j).2.1 (T j).2.2.1 ∈ z_tbl) (href : (T j).1 = ref) (hk : G[k]? = some (.inl (ci, fs))) (hf : fs[j]? = some none) (hd : decode y.2.1 pc = .ok (.getfield index, 3)) (kk : z_w (z_sys cl D cI cL G b Z) y em (pc + 3) L (.int (μ.1 k j) :: S) μ F) : z_w (z_sys cl D cI cL G b Z) y em pc L (.ref (b + k) :: S) μ F :=
  fun r μ' hF p l e s m args below meth c H locs ls hX hE hK hW hS hl => va_get hX.1.1 hX.1.2.1 hX.1.2.2.2.2 hin hX.1.2.2.2.1 hK.1 hW k (z_wf_at hk) hc j hj (hX.1.2.2.2.2 _ hlink) (fun x hx => by rw [← href]; exact hx) (z_fs_int hf) hd (kk r μ' hF p l e s m args below meth c H locs ls hX hE hK hW hS hl )
theorem z_getR {t : Nat} {C ref : String} {T : u_T} {N ci index k j : Nat} {fs : List z_F} (hin : ∀ w ∈ u_ws C T N, w ∈ z_tbl) (hc : cl[ci]? = some (C, T, N)) (hj : j < N) (hlink : Cond.fieldLink y.1 index ref (T j).2.1 (T j).2.2.1 ∈ z_tbl) (href : (T j).1 = ref) (hk : G[k]? = some (.inl (ci, fs))) (hf : fs[j]? = some (some t)) (hd : decode y.2.1 pc = .ok (.getfield index, 3)) (kk : z_w (z_sys cl D cI cL G b Z) y em (pc + 3) L (.ref (b + t) :: S) μ F) : z_w (z_sys cl D cI cL G b Z) y em pc L (.ref (b + k) :: S) μ F :=
  fun r μ' hF p l e s m args below meth c H locs ls hX hE hK hW hS hl => va_get hX.1.1 hX.1.2.1 hX.1.2.2.2.2 hin hX.1.2.2.2.1 hK.1 hW k (z_wf_at hk) hc j hj (hX.1.2.2.2.2 _ hlink) (fun x hx => by rw [← href]; exact hx) (z_fs_ref hf) hd (kk r μ' hF p l e s m args below meth c H locs ls hX hE hK hW hS hl )
theorem z_putI {C ref : String} {T : u_T} {N ci index k j : Nat} {fs : List z_F} (hin : ∀ w ∈ u_ws C T N, w ∈ z_tbl) (hc : cl[ci]? = some (C, T, N)) (hj : j < N) (hlink : Cond.fieldLink y.1 index ref (T j).2.1 (T j).2.2.1 ∈ z_tbl) (href : (T j).1 = ref) (hk : G[k]? = some (.inl (ci, fs))) (ty0 : Nat → FieldType) (hty : ∀ k, k < N → parseFieldDescriptor (T k).2.2.1 = some (ty0 k)) (hnm : ∀ a, a < N → ∀ b, b < N → a ≠ b → (T a).2.1 ≠ (T b).2.1) (hfin : (T j).2.2.2 = false) (hp : parseFieldDescriptor (T j).2.2.1 = some .int) (hf : fs[j]? = some none) {v : Int32}  (hd : decode y.2.1 pc = .ok (.putfield index, 3)) (kk : z_w (z_sys cl D cI cL G b Z) y em (pc + 3) L S (z_sI μ k j v) F) : z_w (z_sys cl D cI cL G b Z) y em pc L (.int v :: .ref (b + k) :: S) μ F :=
  fun r μ' hF p l e s m args below meth c H locs ls hX hE hK hW hS hl => va_put (v := .int v) hX.1.1 hX.1.2.1 hX.1.2.2.2.2 hin ty0 hty hnm hX.1.2.2.2.1 hK.1 hW (z_sysD D cl cI cL G b μ Z) hS k (z_wf_at hk) hc j hj (hX.1.2.2.2.2 _ hlink) (fun x hx => by rw [← href]; exact hx) hfin hp rfl rfl (by rw [z_fs_len]; exact (List.getElem?_eq_some_iff.mp hf).1) hd
    (fun H1 locs1 hW1 _ hS1 => kk r μ' hF p l e s m args below meth c H1 locs1 ls hX hE hK (by have hW2 := hW1; rw [z_wf_sI hk hf] at hW2; exact hW2) hS1 hl)
theorem z_putZ {C ref : String} {T : u_T} {N ci index k j : Nat} {fs : List z_F} (hin : ∀ w ∈ u_ws C T N, w ∈ z_tbl) (hc : cl[ci]? = some (C, T, N)) (hj : j < N) (hlink : Cond.fieldLink y.1 index ref (T j).2.1 (T j).2.2.1 ∈ z_tbl) (href : (T j).1 = ref) (hk : G[k]? = some (.inl (ci, fs))) (ty0 : Nat → FieldType) (hty : ∀ k, k < N → parseFieldDescriptor (T k).2.2.1 = some (ty0 k)) (hnm : ∀ a, a < N → ∀ b, b < N → a ≠ b → (T a).2.1 ≠ (T b).2.1) (hfin : (T j).2.2.2 = false) (hp : parseFieldDescriptor (T j).2.2.1 = some .boolean) (hf : fs[j]? = some none) {v : Int32} (hv : v = 0 ∨ v = 1) (hd : decode y.2.1 pc = .ok (.putfield index, 3)) (kk : z_w (z_sys cl D cI cL G b Z) y em (pc + 3) L S (z_sI μ k j v) F) : z_w (z_sys cl D cI cL G b Z) y em pc L (.int v :: .ref (b + k) :: S) μ F :=
  fun r μ' hF p l e s m args below meth c H locs ls hX hE hK hW hS hl => va_put (v := .int v) hX.1.1 hX.1.2.1 hX.1.2.2.2.2 hin ty0 hty hnm hX.1.2.2.2.1 hK.1 hW (z_sysD D cl cI cL G b μ Z) hS k (z_wf_at hk) hc j hj (hX.1.2.2.2.2 _ hlink) (fun x hx => by rw [← href]; exact hx) hfin hp (by rcases hv with rfl | rfl <;> rfl) (by rcases hv with rfl | rfl <;> rfl) (by rw [z_fs_len]; exact (List.getElem?_eq_some_iff.mp hf).1) hd
    (fun H1 locs1 hW1 _ hS1 => kk r μ' hF p l e s m args below meth c H1 locs1 ls hX hE hK (by have hW2 := hW1; rw [z_wf_sI hk hf] at hW2; exact hW2) hS1 hl)
theorem z_iald {k n : Nat} {i : Int32} (hk : G[k]? = some (.inr (false, n))) (hd : decode y.2.1 pc = .ok (.iaload, 1)) (kk : z_w (z_sys cl D cI cL G b Z) y em (pc + 1) L (.int (μ.1 k (z_ix i)) :: S) μ F) : z_w (z_sys cl D cI cL G b Z) y em pc L (.int i :: .ref (b + k) :: S) μ (z_chk i n F) :=
  fun r μ' hF p l e s m args below meth c H locs ls hX hE hK hW hS hl => by
  have h2 := z_chk_some hF
  exact va_iald hX.1.1 hX.1.2.1 hK.1 hW k 0 (z_wf_at hk) rfl h2.1 hd (kk r μ' h2.2 p l e s m args below meth c H locs ls hX hE hK hW hS hl)
theorem z_ialdK {k n : Nat} {i : Int32} (hk : G[k]? = some (.inr (false, n))) (hb : 0 ≤ i.toInt ∧ i.toInt < n) (hd : decode y.2.1 pc = .ok (.iaload, 1)) (kk : z_w (z_sys cl D cI cL G b Z) y em (pc + 1) L (.int (μ.1 k (z_ix i)) :: S) μ F) : z_w (z_sys cl D cI cL G b Z) y em pc L (.int i :: .ref (b + k) :: S) μ F := by
  have h := z_iald (i := i) hk hd kk
  rwa [z_chk_in hb] at h
theorem z_lald {k n : Nat} {i : Int32} (hk : G[k]? = some (.inr (true, n))) (hd : decode y.2.1 pc = .ok (.laload, 1)) (kk : z_w (z_sys cl D cI cL G b Z) y em (pc + 1) L (.long (μ.2 k (z_ix i)) :: S) μ F) : z_w (z_sys cl D cI cL G b Z) y em pc L (.int i :: .ref (b + k) :: S) μ (z_chk i n F) :=
  fun r μ' hF p l e s m args below meth c H locs ls hX hE hK hW hS hl => by
  have h2 := z_chk_some hF
  exact va_lald hX.1.1 hX.1.2.1 hK.1 hW k 1 (z_wf_at hk) rfl h2.1 hd (kk r μ' h2.2 p l e s m args below meth c H locs ls hX hE hK hW hS hl)
theorem z_laldK {k n : Nat} {i : Int32} (hk : G[k]? = some (.inr (true, n))) (hb : 0 ≤ i.toInt ∧ i.toInt < n) (hd : decode y.2.1 pc = .ok (.laload, 1)) (kk : z_w (z_sys cl D cI cL G b Z) y em (pc + 1) L (.long (μ.2 k (z_ix i)) :: S) μ F) : z_w (z_sys cl D cI cL G b Z) y em pc L (.int i :: .ref (b + k) :: S) μ F := by
  have h := z_lald (i := i) hk hd kk
  rwa [z_chk_in hb] at h
theorem z_iast {k n : Nat} {i : Int32} {v : Int32} (hk : G[k]? = some (.inr (false, n))) (hd : decode y.2.1 pc = .ok (.iastore, 1)) (kk : z_w (z_sys cl D cI cL G b Z) y em (pc + 1) L S (z_sI μ k (z_ix i) v) F) : z_w (z_sys cl D cI cL G b Z) y em pc L (.int v :: .int i :: .ref (b + k) :: S) μ (z_chk i n F) :=
  fun r μ' hF p l e s m args below meth c H locs ls hX hE hK hW hS hl => by
  have h2 := z_chk_some hF
  refine va_iast hX.1.1 hX.1.2.1 hK.1 hW (z_sysD D cl cI cL G b μ Z) hS k 0 (z_wf_at hk) rfl h2.1 hd (fun H1 locs1 hW1 _ hS1 => ?_)
  exact kk r μ' h2.2 p l e s m args below meth c H1 locs1 ls hX hE hK (by have hW2 := hW1; rw [z_wf_aI hk] at hW2; exact hW2) hS1 hl
theorem z_last {k n : Nat} {i : Int32} {v : Int64} (hk : G[k]? = some (.inr (true, n))) (hd : decode y.2.1 pc = .ok (.lastore, 1)) (kk : z_w (z_sys cl D cI cL G b Z) y em (pc + 1) L S (z_sL μ k (z_ix i) v) F) : z_w (z_sys cl D cI cL G b Z) y em pc L (.long v :: .int i :: .ref (b + k) :: S) μ (z_chk i n F) :=
  fun r μ' hF p l e s m args below meth c H locs ls hX hE hK hW hS hl => by
  have h2 := z_chk_some hF
  refine va_last hX.1.1 hX.1.2.1 hK.1 hW (z_sysD D cl cI cL G b μ Z) hS k 1 (z_wf_at hk) rfl h2.1 hd (fun H1 locs1 hW1 _ hS1 => ?_)
  exact kk r μ' h2.2 p l e s m args below meth c H1 locs1 ls hX hE hK (by have hW2 := hW1; rw [z_wf_aL hk] at hW2; exact hW2) hS1 hl
theorem z_alen {k n : Nat} {B : Bool} (hk : G[k]? = some (.inr (B, n))) {v : Int32} (hv : Int32.ofNat n = v) (hd : decode y.2.1 pc = .ok (.arraylength, 1)) (kk : z_w (z_sys cl D cI cL G b Z) y em (pc + 1) L (.int v :: S) μ F) : z_w (z_sys cl D cI cL G b Z) y em pc L (.ref (b + k) :: S) μ F :=
  fun r μ' hF p l e s m args below meth c H locs ls hX hE hK hW hS hl => by
  cases B with
  | false => exact va_alen hX.1.1 hX.1.2.1 hK.1 hW k 0 (z_wf_at hk) (ty := .int) rfl hv hd (kk r μ' hF p l e s m args below meth c H locs ls hX hE hK hW hS hl)
  | true => exact va_alen hX.1.1 hX.1.2.1 hK.1 hW k 1 (z_wf_at hk) (ty := .long) rfl hv hd (kk r μ' hF p l e s m args below meth c H locs ls hX hE hK hW hS hl)
end ZG
/-! calls -/
theorem z_Pc_blind {M : Type} {E : z_E M} {As : List Value} {μ : M} (hE : z_EOK E) : FrameBlind (z_Pc E As μ) := fun a U g mk q => ⟨q.1, q.2.1, hE.2.1 U (U.calling g mk a) _ rfl q.2.2⟩
/-- what a call needs of the tables: the method's own words -/
def z_MW (yn : MethodName) (cc : ByteArray) (nL : Nat) (ret : Option FieldType) : Prop := Cond.initialized yn.cls ∈ z_tbl ∧ Cond.code yn cc nL ret ∈ z_tbl ∧ yn.cls ≠ "java/lang/invoke/MethodHandle" ∧ yn.cls ≠ "java/lang/invoke/VarHandle"
def z_MV (yn : MethodName) : Prop := Cond.instanceMethod yn ∈ z_tbl ∧ Cond.selects yn.cls yn yn ∈ z_tbl
def z_Recv {M : Type} (E : z_E M) (C : String) (o : Nat) (μ : M) : Prop := ∀ s H, E.2.1 s H → E.1 μ H → ∃ cellB : Cell, H[o]? = some cellB ∧ cellB.vm.isStatics = false ∧ s.vm.findClass C = some cellB.cls
theorem z_recv {cl : List vw_C} {D : va_G} {cI cL : ClassId} {G : List z_C} {b : Nat} {Z : State → Heap → Prop} {μ : z_M} {k ci N : Nat} {fs : List z_F} {C : String} {T : u_T} (hk : G[k]? = some (.inl (ci, fs))) (hc : cl[ci]? = some (C, T, N)) : z_Recv (z_sys cl D cI cL G b Z) C (b + k) μ := by
  intro s H hK hW
  obtain ⟨r, h1, cell, q1, q2, q3, -⟩ := hW k _ (z_wf_at hk)
  have hr : r = (C, T, N) := Option.some.inj (h1.symm.trans hc)
  subst hr
  obtain ⟨-, hfc, -⟩ := hK.1.1 ci _ hc
  exact ⟨cell, q1, by rw [q3]; rfl, by rw [q2]; exact hfc⟩
theorem z_code_good (yn : MethodName) (cc : ByteArray) (nL : Nat) (ret : Option FieldType) (h : Cond.code yn cc nL ret ∈ z_tbl) : GoodIn z_tbl (.code yn cc nL ret :: z_tbl) := z_goodIn _ (fun w hw => by
  rcases List.mem_cons.mp hw with rfl | h1
  · exact h
  · exact h1)
section ZCall
variable {M α β : Type} {E : z_E M} {y : z_Y} {em : α → Option Value} {pc : Nat} {L : List (Nat × Value)} {S st : List Value} {μ : M} {F : Option (α × M)} {em' : β → Option Value} {yn : MethodName} {cc : ByteArray} {nL d n index o : Nat} {ret : Option FieldType} {As : List Value} {Gf : Option (β × M)}
set_option maxHeartbeats 1000000 in
theorem z_callV {r1 : β} {μ1 : M} (hSp : z_S E d yn cc nL ret em' (.ref o :: As) μ Gf) (hG : Gf = some (r1, μ1)) (hM : z_MW yn cc nL ret) (hV : z_MV yn) (hlink : Cond.methodLink y.1 index yn ∈ z_tbl) (hn : (parseMethodDescriptor yn.desc).map (fun d => d.parameters.length) = some n) (hnA : As.length = n) (hrc : z_Recv E yn.cls o μ) (hst : st = As.reverse ++ .ref o :: S) (hcat : (S.map fun v => v.category).sum ≤ 8) (hd' : d + 1 ≤ y.2.2.2.2) (hnL : nL ≤ 13)
    (hd : decode y.2.1 pc = .ok (.invokevirtual index, 3)) (k : z_w E y em (pc + 3) L ((em' r1).toList ++ S) μ1 F) : z_w E y em pc L st μ F :=
  fun r μ' hF p l e s m args below meth c H locs ls hX hE hK hW hS hl => by
  have hts := hX.1.2.2.2.2
  have hcw : CallW (z_rm y.2.2.2.2) s args y.1 yn.cls index yn cc nL ret (.code yn cc nL ret :: z_tbl) (z_rm d) 0 0 n :=
    ⟨callB_of n hts (z_code_good yn cc nL ret hM.2.1) rfl rfl rfl (hts _ hM.1) (hts _ hlink) ⟨hM.2.2.1, hM.2.2.2, hn⟩ ⟨hd', by simp only [z_rm]; omega⟩, hts _ hV.1, hts _ hV.2⟩
  have hKH : E.2.1 s H := hE.2.2 s s.heap H hS.1 hS.2.1 hK
  have hrun := va_runV (mc := 0) (ms := 0) (locs := locs) (cells := 0) (slots := 0) (below := below) (meth := meth) (e := e) (b := o) (As := As) (rest := S) (H := H) (g := F0 m pc ls st) hX.1 (hSp r1 μ1 hG hE l) hcw ⟨z_Pc_blind hE, hrc s H hKH hW, fun U hU hWm => ⟨rfl, by rw [hU]; exact hW, by rw [hU]; exact hE.1 s U H hWm hKH⟩⟩ rfl hnA hl.1 hst (by rw [show (F0 m pc ls st).monitorRoom = 0 from rfl]; omega) hd ⟨Nat.le_refl _, Nat.le_refl _⟩
  intro T hT Xs
  obtain ⟨v, st₀, t, T', L2, h0, X', hL2, e1, e2, ⟨hv, hw2, hF2⟩, stp⟩ := hrun T hT Xs
  have hv' : v = em' r1 := by injection hv
  subst hv'
  have hz : H.size ≤ T'.heap.size := by rw [← h0, e1]; exact hF2.1
  have hq : ∀ q : Nat, q < H.size → ¬ E.2.2 q → T'.heap[q]? = H[q]? := fun q h1 h2 => by rw [← h0, e1]; exact hF2.2 q (by rw [h0]; exact h1) h2
  have hS1 : va_S E.2.2 s.heap T'.heap (locs ++ L2) := ⟨Nat.le_trans hS.1 hz, fun q h1 h2 => by rw [hq q (Nat.lt_of_lt_of_le h1 hS.1) h2]; exact hS.2.1 q h1 h2, fun q hq2 => by
      rcases List.mem_append.mp hq2 with h | h
      · exact hS.2.2 q h
      · exact hL2 q h⟩
  obtain ⟨t2, a1, b1⟩ := k r μ' hF p l e s m args below meth c T'.heap (locs ++ L2) ls hX hE hK (by rw [e1]; exact hw2) hS1 hl T' rfl X'
  exact ⟨t2, stp t2 a1, b1⟩
set_option maxHeartbeats 1000000 in
theorem z_callS {r1 : β} {μ1 : M} (hSp : z_S E d yn cc nL ret em' As μ Gf) (hG : Gf = some (r1, μ1)) (hM : z_MW yn cc nL ret) (hV : Cond.static yn ∈ z_tbl) (hlink : Cond.methodLink y.1 index yn ∈ z_tbl) (hn : (parseMethodDescriptor yn.desc).map (fun d => d.parameters.length) = some n) (hnA : As.length = n) (hst : st = As.reverse ++ S) (hcat : (S.map fun v => v.category).sum ≤ 8) (hd' : d + 1 ≤ y.2.2.2.2) (hnL : nL ≤ 13)
    (hd : decode y.2.1 pc = .ok (.invokestatic index, 3)) (k : z_w E y em (pc + 3) L ((em' r1).toList ++ S) μ1 F) : z_w E y em pc L st μ F :=
  fun r μ' hF p l e s m args below meth c H locs ls hX hE hK hW hS hl => by
  have hts := hX.1.2.2.2.2
  have hcb : CallB (z_rm y.2.2.2.2) s args y.1 index yn cc nL ret (.code yn cc nL ret :: z_tbl) (z_rm d) 0 0 n :=
    callB_of n hts (z_code_good yn cc nL ret hM.2.1) rfl rfl rfl (hts _ hM.1) (hts _ hlink) ⟨hM.2.2.1, hM.2.2.2, hn⟩ ⟨hd', by simp only [z_rm]; omega⟩
  have hKH : E.2.1 s H := hE.2.2 s s.heap H hS.1 hS.2.1 hK
  have hrun := va_runS (mc := 0) (ms := 0) (locs := locs) (cells := 0) (slots := 0) (below := below) (meth := meth) (e := e) (As := As) (rest := S) (H := H) (g := F0 m pc ls st) hX.1 (hSp r1 μ1 hG hE l) ⟨hcb, hts _ hV⟩ ⟨z_Pc_blind hE, fun U hU hWm => ⟨rfl, by rw [hU]; exact hW, by rw [hU]; exact hE.1 s U H hWm hKH⟩⟩ rfl hnA hl.1 hst (by rw [show (F0 m pc ls st).monitorRoom = 0 from rfl]; omega) hd ⟨Nat.le_refl _, Nat.le_refl _⟩
  intro T hT Xs
  obtain ⟨v, st₀, t, T', L2, h0, X', hL2, e1, e2, ⟨hv, hw2, hF2⟩, stp⟩ := hrun T hT Xs
  have hv' : v = em' r1 := by injection hv
  subst hv'
  have hz : H.size ≤ T'.heap.size := by rw [← h0, e1]; exact hF2.1
  have hq : ∀ q : Nat, q < H.size → ¬ E.2.2 q → T'.heap[q]? = H[q]? := fun q h1 h2 => by rw [← h0, e1]; exact hF2.2 q (by rw [h0]; exact h1) h2
  have hS1 : va_S E.2.2 s.heap T'.heap (locs ++ L2) := ⟨Nat.le_trans hS.1 hz, fun q h1 h2 => by rw [hq q (Nat.lt_of_lt_of_le h1 hS.1) h2]; exact hS.2.1 q h1 h2, fun q hq2 => by
      rcases List.mem_append.mp hq2 with h | h
      · exact hS.2.2 q h
      · exact hL2 q h⟩
  obtain ⟨t2, a1, b1⟩ := k r μ' hF p l e s m args below meth c T'.heap (locs ++ L2) ls hX hE hK (by rw [e1]; exact hw2) hS1 hl T' rfl X'
  exact ⟨t2, stp t2 a1, b1⟩
end ZCall
/-- calls of what may fail -/
def z_bind {β γ : Type} (x : Option β) (f : β → Option γ) : Option γ := match x with
  | none => none
  | some v => f v
theorem z_bind_some {β γ : Type} {x : Option β} {f : β → Option γ} {w : γ} (h : z_bind x f = some w) : ∃ v, x = some v ∧ f v = some w := by
  cases x with
  | none => cases h
  | some v => exact ⟨v, rfl, h⟩
theorem z_bindW {M α β : Type} {E : z_E M} {y : z_Y} {em : α → Option Value} {pc : Nat} {L : List (Nat × Value)} {st : List Value} {μ : M} {Gf : Option (β × M)} {Kf : β × M → Option (α × M)} (k : ∀ (r1 : β) (μ1 : M), Gf = some (r1, μ1) → z_w E y em pc L st μ (Kf (r1, μ1))) : z_w E y em pc L st μ (z_bind Gf Kf) :=
  fun r μ' hF p l e s m args below meth c H locs ls hX hE hK hW hS hl => by
  obtain ⟨⟨r1, μ1⟩, h1, h2⟩ := z_bind_some hF
  exact k r1 μ1 h1 r μ' h2 p l e s m args below meth c H locs ls hX hE hK hW hS hl
theorem z_guardW {M α : Type} {E : z_E M} {y : z_Y} {em : α → Option Value} {pc : Nat} {L : List (Nat × Value)} {st : List Value} {μ : M} {F F' : Option (α × M)} {P : Prop} (hg : ∀ x, F' = some x → P ∧ F = some x) (k : P → z_w E y em pc L st μ F) : z_w E y em pc L st μ F' :=
  fun r μ' hF p l e s m args below meth c H locs ls hX hE hK hW hS hl => by
  have h2 := hg _ hF
  exact k h2.1 r μ' h2.2 p l e s m args below meth c H locs ls hX hE hK hW hS hl
/-- a method from its body -/
theorem z_entry {M α : Type} {E : z_E M} {yn : MethodName} {cc : ByteArray} {nL d : Nat} {ret : Option FieldType} {em : α → Option Value} {As : List Value} {μ : M} {F : Option (α × M)} (hp : plainName yn.cls = true) (hlen : (lg_sl As).length ≤ nL) {L : List (Nat × Value)} (hL : lv_args 0 As = L) (k : z_w E (yn.cls, cc, nL, ret, d) em 0 L [] μ F) : z_S E d yn cc nL ret em As μ F := by
  subst hL
  intro r μ' hF hE l
  refine Met.ofW (cc := cc) (maxL := nL) (ret := ret) hp rfl ?_
  intro p e s m args below meth c s₁ B hml hv
  obtain ⟨rfl, hw, hk⟩ := hv
  have hl := lv_entry As (n := nL) hlen
  rw [lg_entry_eq]
  generalize (lg_sl As ++ List.replicate (nL - (lg_sl As).length) Slot.unset).toArray = ls at hl ⊢
  have hts : ∀ w ∈ z_tbl, w.before As.toArray s = true := fun w hw => atoms_spec (ws := .code yn cc nL ret :: z_tbl) B.pre w (List.mem_cons_of_mem _ hw)
  exact k r μ' hF p l e s m As.toArray below meth c s.heap [] ls ⟨⟨B.exec, B.bytes, hml, findClass_of_methodNamed B.named, hts⟩, B.returns, B.notSynchronized⟩ hE hk hw va_S.rf hl
/-- less depth is enough -/
theorem z_S_eq {M α : Type} {E : z_E M} {d : Nat} {yn : MethodName} {cc : ByteArray} {nL : Nat} {ret : Option FieldType} {em : α → Option Value} {As : List Value} {μ : M} {F F' : Option (α × M)} (h : z_S E d yn cc nL ret em As μ F) (he : ∀ x, F' = some x → F = some x) : z_S E d yn cc nL ret em As μ F' := fun r μ' hF hE l => h r μ' (he _ hF) hE l
