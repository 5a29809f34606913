/-! objects in the making: cell 0 at a, the others at sz, sz + 1 .. -/
def n_wf : Nat → Nat → List va_E → va_W
  | _, _, [] => []
  | a, sz, e :: r => (a, e) :: n_wf sz (sz + 1) r
def n_ad (a sz : Nat) : Nat → Nat
  | 0 => a
  | k + 1 => sz + k
theorem n_ad_s (sz k : Nat) : n_ad sz (sz + 1) k = sz + k := by
  cases k with
  | zero => rfl
  | succ k => show sz + 1 + k = sz + (k + 1); omega
theorem n_wf_get : ∀ (es : List va_E) (a sz k : Nat), (n_wf a sz es)[k]? = (es[k]?).map (fun e => (n_ad a sz k, e)) := by
  intro es
  induction es with
  | nil => intro a sz k; simp [n_wf]
  | cons e r ih =>
    intro a sz k
    cases k with
    | zero => simp [n_wf, n_ad]
    | succ k =>
      simp only [n_wf, List.getElem?_cons_succ]
      rw [ih, n_ad_s]
      rfl
theorem n_wf_at {es : List va_E} {a sz k : Nat} {e : va_E} (h : es[k]? = some e) : (n_wf a sz es)[k]? = some (n_ad a sz k, e) := by rw [n_wf_get, h]; rfl
theorem n_wf_inv {es : List va_E} {a sz k : Nat} {q : Nat × va_E} (h : (n_wf a sz es)[k]? = some q) : es[k]? = some q.2 ∧ q.1 = n_ad a sz k := by
  rw [n_wf_get] at h
  cases g : es[k]? with
  | none => rw [g] at h; cases h
  | some e => rw [g] at h; cases h; exact ⟨rfl, rfl⟩
theorem n_wf_push : ∀ (es : List va_E) (a sz : Nat) (x : va_E), n_wf a sz (es ++ [x]) = n_wf a sz es ++ [(n_ad a sz es.length, x)] := by
  intro es
  induction es with
  | nil => intro a sz x; rfl
  | cons e r ih =>
    intro a sz x
    show (a, e) :: n_wf sz (sz + 1) (r ++ [x]) = (a, e) :: (n_wf sz (sz + 1) r ++ [(sz + r.length, x)])
    rw [ih, n_ad_s]
theorem n_wf_set : ∀ (es : List va_E) (a sz k : Nat) (x : va_E), (n_wf a sz es).set k (n_ad a sz k, x) = n_wf a sz (es.set k x) := by
  intro es
  induction es with
  | nil => intro a sz k x; rfl
  | cons e r ih =>
    intro a sz k x
    cases k with
    | zero => rfl
    | succ k =>
      show (a, e) :: (n_wf sz (sz + 1) r).set k (sz + k, x) = (a, e) :: n_wf sz (sz + 1) (r.set k x)
      rw [← ih, n_ad_s]
def n_A (a sz : Nat) : Nat → Prop := fun q => q = a ∨ sz ≤ q
theorem n_D {a sz : Nat} (h : a < sz) (es : List va_E) : va_D (n_A a sz) (n_wf a sz es) := by
  refine ⟨fun i j p q hi hj hpq => ?_, fun k q hk => ?_⟩
  · have e1 := (n_wf_inv hi).2
    have e2 := (n_wf_inv hj).2
    rw [e1, e2] at hpq
    cases i <;> cases j <;> simp only [n_ad] at hpq <;> omega
  · have e := (n_wf_inv hk).2
    show q.1 = a ∨ sz ≤ q.1
    rw [e]
    cases k with
    | zero => exact Or.inl rfl
    | succ k => right; show sz ≤ sz + k; omega
def n_Q (D : va_G) (a sz : Nat) (es' : List va_E) : Array Value → State → Outcome → State → Prop := fun _ st o t => o = .returned none ∧ va_P D vwCl (n_wf a sz es') t.heap ∧ va_F (n_A a sz) st t
def n_rm (d mc ms : Nat) : Room := { frames := d, cells := mc, slots := ms, locals := 32 * d }
def n_w (D : va_G) (cI cL : ClassId) (a sz : Nat) (y : z_Y) (mc ms n sl pc : Nat) (L : List (Nat × Value)) (S : List Value) (es es' : List va_E) : Prop :=
  a < sz → es.length = n + 1 → ∀ (p : Program) (l : Launch) (e : Env) (s : State) (m : MethodId) (args : Array Value) (below : List Frame) (meth : Method) (c : Code) (H : Heap) (locs : List Loc) (ls : Array Slot), z_Fix y p m c s args meth → meth.name = "<init>" → s.heap.size = sz → va_K D vwCl [(cI, .int), (cL, .long)] s → va_P D vwCl (n_wf a sz es) H → va_S (n_A a sz) s.heap H locs → lv_has ls y.2.2.1 L →
    W p l e (n_rm y.2.2.2.2 mc ms) s m args below meth c H locs n sl (MQ below (n_Q D a sz es') args s mc ms (n_A a sz)) (F0 m pc ls S)
def n_S (D : va_G) (cI cL : ClassId) (d mc ms : Nat) (yn : MethodName) (cc : ByteArray) (nL : Nat) (As : List Value) (a sz : Nat) (es es' : List va_E) : Prop :=
  a < sz → ∀ l : Launch, Met l yn (.code yn cc nL none :: z_tbl) (n_rm d mc ms) (fun v U => v = (Value.ref a :: As).toArray ∧ U.heap.size = sz ∧ va_K D vwCl [(cI, .int), (cL, .long)] U ∧ va_P D vwCl (n_wf a sz es) U.heap) (n_Q D a sz es') mc ms (n_A a sz)
/-- how large the heap is -/
theorem n_size {D : va_G} {a sz n : Nat} {es : List va_E} {H H0 : Heap} {locs : List Loc} (hn : es.length = n + 1) (hz : H0.size = sz) (hP : va_P D vwCl (n_wf a sz es) H) (hS : va_S (n_A a sz) H0 H locs) (h : H.size ≤ H0.size + n) : H.size = sz + n := by
  have h1 := hS.1
  cases n with
  | zero => omega
  | succ n =>
    have hl : n + 1 < es.length := by omega
    have h2 := (hP (n + 1) _ (n_wf_at (List.getElem?_eq_getElem hl))).lt
    have h3 : sz + n < H.size := h2
    omega
section NR
variable {D : va_G} {cI cL : ClassId} {a sz mc ms n sl pc : Nat} {y : z_Y} {L : List (Nat × Value)} {S : List Value} {es es' : List va_E}

theorem n_aload_n {k0 : Fin 4} {x : Nat} (hd : decode y.2.1 pc = .ok (.aload_n k0, 1)) (hl0 : z_look L (k0 : Nat) = some (.ref x)) (k : n_w D cI cL a sz y mc ms n sl (pc + 1) L (.ref x :: S) es es') : n_w D cI cL a sz y mc ms n sl pc L S es es' :=
  fun ha hn p l e s m args below meth c H locs ls hX hi hz hK hP hS hl => lv_aload_n hX.1.1 hX.1.2.1 hd rfl (z_look_at hl hl0) (k ha hn p l e s m args below meth c H locs ls hX hi hz hK hP hS hl)
theorem n_iload_n {k0 : Fin 4} {x : Int32} (hd : decode y.2.1 pc = .ok (.iload_n k0, 1)) (hl0 : z_look L (k0 : Nat) = some (.int x)) (k : n_w D cI cL a sz y mc ms n sl (pc + 1) L (.int x :: S) es es') : n_w D cI cL a sz y mc ms n sl pc L S es es' :=
  fun ha hn p l e s m args below meth c H locs ls hX hi hz hK hP hS hl => lv_iload_n hX.1.1 hX.1.2.1 hd rfl (z_look_at hl hl0) (k ha hn p l e s m args below meth c H locs ls hX hi hz hK hP hS hl)
theorem n_iconst {i : Int} {v : Int32} (hd : decode y.2.1 pc = .ok (.iconst i, 1)) (hv : Int32.ofInt i = v) (k : n_w D cI cL a sz y mc ms n sl (pc + 1) L (.int v :: S) es es') : n_w D cI cL a sz y mc ms n sl pc L S es es' :=
  fun ha hn p l e s m args below meth c H locs ls hX hi hz hK hP hS hl => lv_iconst hX.1.1 hX.1.2.1 hd hv (k ha hn p l e s m args below meth c H locs ls hX hi hz hK hP hS hl)
theorem n_bipush {i : Int} {v : Int32} (hd : decode y.2.1 pc = .ok (.bipush i, 2)) (hv : (Int8.ofInt i).toInt32 = v) (k : n_w D cI cL a sz y mc ms n sl (pc + 2) L (.int v :: S) es es') : n_w D cI cL a sz y mc ms n sl pc L S es es' :=
  fun ha hn p l e s m args below meth c H locs ls hX hi hz hK hP hS hl => lv_bipush hX.1.1 hX.1.2.1 hd hv (k ha hn p l e s m args below meth c H locs ls hX hi hz hK hP hS hl)
theorem n_sipush {i : Int} {v : Int32} (hd : decode y.2.1 pc = .ok (.sipush i, 3)) (hv : (Int16.ofInt i).toInt32 = v) (k : n_w D cI cL a sz y mc ms n sl (pc + 3) L (.int v :: S) es es') : n_w D cI cL a sz y mc ms n sl pc L S es es' :=
  fun ha hn p l e s m args below meth c H locs ls hX hi hz hK hP hS hl => lv_sipush hX.1.1 hX.1.2.1 hd hv (k ha hn p l e s m args below meth c H locs ls hX hi hz hK hP hS hl)
theorem n_dup {v : Value} (hd : decode y.2.1 pc = .ok (.dup, 1)) (hc : v.category = 1) (k : n_w D cI cL a sz y mc ms n sl (pc + 1) L (v :: v :: S) es es') : n_w D cI cL a sz y mc ms n sl pc L (v :: S) es es' :=
  fun ha hn p l e s m args below meth c H locs ls hX hi hz hK hP hS hl => lv_dup hX.1.1 hX.1.2.1 hd hc (k ha hn p l e s m args below meth c H locs ls hX hi hz hK hP hS hl)
theorem n_goto {off : Int} {tgt : Nat} (hd : decode y.2.1 pc = .ok (.goto off, 3)) (ht : (pc : Int) + off = (tgt : Int)) (k : n_w D cI cL a sz y mc ms n sl tgt L S es es') : n_w D cI cL a sz y mc ms n sl pc L S es es' :=
  fun ha hn p l e s m args below meth c H locs ls hX hi hz hK hP hS hl => lv_goto hX.1.1 hX.1.2.1 hd ht (k ha hn p l e s m args below meth c H locs ls hX hi hz hK hP hS hl)
theorem n_if_ge {x : Int32} {off : Int} {tgt : Nat} (hd : decode y.2.1 pc = .ok (.ifCond .ge off, 3)) (ht : (pc : Int) + off = (tgt : Int)) (hx : 0 ≤ x) (k : n_w D cI cL a sz y mc ms n sl tgt L S es es') : n_w D cI cL a sz y mc ms n sl pc L (.int x :: S) es es' :=
  fun ha hn p l e s m args below meth c H locs ls hX hi hz hK hP hS hl => lv_if_ge hX.1.1 hX.1.2.1 hd ht (fun _ => k ha hn p l e s m args below meth c H locs ls hX hi hz hK hP hS hl) (fun h => absurd hx h)
theorem n_icmp_geY {x x2 : Int32} {off : Int} {tgt : Nat} (hd : decode y.2.1 pc = .ok (.if_icmp .ge off, 3)) (ht : (pc : Int) + off = (tgt : Int)) (hx : x2 ≤ x) (k : n_w D cI cL a sz y mc ms n sl tgt L S es es') : n_w D cI cL a sz y mc ms n sl pc L (.int x2 :: .int x :: S) es es' :=
  fun ha hn p l e s m args below meth c H locs ls hX hi hz hK hP hS hl => lv_icmp_ge hX.1.1 hX.1.2.1 hd ht (fun _ => k ha hn p l e s m args below meth c H locs ls hX hi hz hK hP hS hl) (fun h => absurd hx h)
theorem n_icmp_geN {x x2 : Int32} {off : Int} {tgt : Nat} (hd : decode y.2.1 pc = .ok (.if_icmp .ge off, 3)) (ht : (pc : Int) + off = (tgt : Int)) (hx : ¬ x2 ≤ x) (k : n_w D cI cL a sz y mc ms n sl (pc + 3) L S es es') : n_w D cI cL a sz y mc ms n sl pc L (.int x2 :: .int x :: S) es es' :=
  fun ha hn p l e s m args below meth c H locs ls hX hi hz hK hP hS hl => lv_icmp_ge hX.1.1 hX.1.2.1 hd ht (fun h => absurd h hx) (fun _ => k ha hn p l e s m args below meth c H locs ls hX hi hz hK hP hS hl)
theorem n_istore_n {k0 : Fin 4} {x : Int32} {L' : List (Nat × Value)} (hd : decode y.2.1 pc = .ok (.istore_n k0, 1)) (hs : k0.val < y.2.2.1) (hL : z_sto1 L k0.val (.int x) = L') (k : n_w D cI cL a sz y mc ms n sl (pc + 1) L' S es es') : n_w D cI cL a sz y mc ms n sl pc L (.int x :: S) es es' :=
  fun ha hn p l e s m args below meth c H locs ls hX hi hz hK hP hS hl => lv_istore_n hX.1.1 hX.1.2.1 hd rfl hl hs rfl (fun ls' hl' => k ha hn p l e s m args below meth c H locs ls' hX hi hz hK hP hS (hL ▸ z_sto1_has hl'))
theorem n_iinc {i : Nat} {j : Int} {x v : Int32} {L' : List (Nat × Value)} (hd : decode y.2.1 pc = .ok (.iinc i j, 3)) (hl0 : z_look L i = some (.int x)) (hs : i < y.2.2.1) (hv : x + Int32.ofInt j = v) (hL : z_sto1 L i (.int v) = L') (k : n_w D cI cL a sz y mc ms n sl (pc + 3) L' S es es') : n_w D cI cL a sz y mc ms n sl pc L S es es' :=
  fun ha hn p l e s m args below meth c H locs ls hX hi hz hK hP hS hl => z_iinc0 hX.1.1 hX.1.2.1 hd hl hl0 hv hs (fun ls' hl' => k ha hn p l e s m args below meth c H locs ls' hX hi hz hK hP hS (hL ▸ z_sto1_has hl'))
theorem n_obj {idx t : Nat} {A : Value} (hA : A = .ref t) (hlink : Cond.methodLink y.1 idx objectInit ∈ z_tbl) (hinst : Cond.instanceMethod objectInit ∈ z_tbl) (hcode : Cond.code objectInit ⟨#[0xb1]⟩ 1 none ∈ z_tbl) (hd : decode y.2.1 pc = .ok (.invokespecial idx, 3)) (hd0 : 1 ≤ y.2.2.2.2) (k : n_w D cI cL a sz y mc ms n sl (pc + 3) L [] es es') : n_w D cI cL a sz y mc ms n sl pc L [A] es es' := by
  subst hA
  intro ha hn p l e s m args below meth c H locs ls hX hi hz hK hP hS hl
  refine W.objInit hX.1.1 hX.1.2.1 hX.1.2.2.2.1 (hX.1.2.2.2.2 _ hlink) (hX.1.2.2.2.2 _ hinst) (hX.1.2.2.2.2 _ hcode) rfl (hl.1.trans hX.1.2.2.1.symm) rfl hd hd0 ?_ (k ha hn p l e s m args below meth c H locs ls hX hi hz hK hP hS hl)
  show 0 + 0 + 12 ≤ 32 * y.2.2.2.2
  omega
theorem n_vret {nm slm : Nat} (hmc : n = nm) (hms : sl = slm) (hes : es = es') (hr : y.2.2.2.1 = none) (hd : decode y.2.1 pc = .ok (.return_, 1)) : n_w D cI cL a sz y nm slm n sl pc L [] es es' := by
  subst hmc hms hes
  intro ha hn p l e s m args below meth c H locs ls hX hi hz hK hP hS hl
  exact W.vret hX.1.1 hX.1.2.1 (hX.2.1.trans hr) (fun t ht hWm => ⟨rfl, by rw [ht]; exact hP, hS.F ht⟩) hS.2.2 hd hX.2.2
theorem n_get {ci N index j : Nat} {C ref : String} {T : u_T} {fs : List Value} {tl : List va_E} {v : Value} (hin : ∀ w ∈ u_ws C T N, w ∈ z_tbl) (hc : vwCl[ci]? = some (C, T, N)) (hj : j < N) (hlink : Cond.fieldLink y.1 index ref (T j).2.1 (T j).2.2.1 ∈ z_tbl) (href : (T j).1 = ref) (hv : fs[j]? = some v) (hd : decode y.2.1 pc = .ok (.getfield index, 3)) (k : n_w D cI cL a sz y mc ms n sl (pc + 3) L (v :: S) (.inr (ci, fs) :: tl) es') : n_w D cI cL a sz y mc ms n sl pc L (.ref a :: S) (.inr (ci, fs) :: tl) es' :=
  fun ha hn p l e s m args below meth c H locs ls hX hi hz hK hP hS hl => va_get hX.1.1 hX.1.2.1 hX.1.2.2.2.2 hin hX.1.2.2.2.1 hK hP 0 rfl hc j hj (hX.1.2.2.2.2 _ hlink) (fun x hx => by rw [← href]; exact hx) hv hd (k ha hn p l e s m args below meth c H locs ls hX hi hz hK hP hS hl)
theorem n_put {ci N index j : Nat} {C ref : String} {T : u_T} {fs : List Value} {tl : List va_E} {ft : FieldType} {v : Value} (hin : ∀ w ∈ u_ws C T N, w ∈ z_tbl) (ty0 : Nat → FieldType) (hty : ∀ k, k < N → parseFieldDescriptor (T k).2.2.1 = some (ty0 k)) (hnm : ∀ a, a < N → ∀ b, b < N → a ≠ b → (T a).2.1 ≠ (T b).2.1) (hc : vwCl[ci]? = some (C, T, N)) (hj : j < N) (hlink : Cond.fieldLink y.1 index ref (T j).2.1 (T j).2.2.1 ∈ z_tbl) (href : (T j).1 = ref) (hfin : (T j).2.2.2 = false) (hp : parseFieldDescriptor (T j).2.2.1 = some ft) (hn1 : narrow ft v = v) (hfit : fits ft v = true) (hlen : j < fs.length) {fs2 : List Value} (hfs : fs.set j v = fs2) (hd : decode y.2.1 pc = .ok (.putfield index, 3)) (k : n_w D cI cL a sz y mc ms n sl (pc + 3) L S (.inr (ci, fs2) :: tl) es') : n_w D cI cL a sz y mc ms n sl pc L (v :: .ref a :: S) (.inr (ci, fs) :: tl) es' :=
  fun ha hn p l e s m args below meth c H locs ls hX hi hz hK hP hS hl => va_put hX.1.1 hX.1.2.1 hX.1.2.2.2.2 hin ty0 hty hnm hX.1.2.2.2.1 hK hP (n_D ha _) hS 0 rfl hc j hj (hX.1.2.2.2.2 _ hlink) (fun x hx => by rw [← href]; exact hx) hfin hp hn1 hfit hlen hd
    (fun H1 locs1 hP1 _ hS1 => k ha hn p l e s m args below meth c H1 locs1 ls hX hi hz hK (by rw [← hfs]; exact hP1) hS1 hl)
theorem n_putF {ci N index j : Nat} {C ref : String} {T : u_T} {fs : List Value} {tl : List va_E} {ft : FieldType} {v : Value} (hin : ∀ w ∈ u_ws C T N, w ∈ z_tbl) (ty0 : Nat → FieldType) (hty : ∀ k, k < N → parseFieldDescriptor (T k).2.2.1 = some (ty0 k)) (hnm : ∀ a, a < N → ∀ b, b < N → a ≠ b → (T a).2.1 ≠ (T b).2.1) (hc : vwCl[ci]? = some (C, T, N)) (hj : j < N) (hlink : Cond.fieldLink y.1 index ref (T j).2.1 (T j).2.2.1 ∈ z_tbl) (href : (T j).1 = ref) (hfin : (T j).2.2.2 = true) (hdecl : (T j).1 = y.1) (hp : parseFieldDescriptor (T j).2.2.1 = some ft) (hn1 : narrow ft v = v) (hfit : fits ft v = true) (hlen : j < fs.length) {fs2 : List Value} (hfs : fs.set j v = fs2) (hd : decode y.2.1 pc = .ok (.putfield index, 3)) (k : n_w D cI cL a sz y mc ms n sl (pc + 3) L S (.inr (ci, fs2) :: tl) es') : n_w D cI cL a sz y mc ms n sl pc L (v :: .ref a :: S) (.inr (ci, fs) :: tl) es' :=
  fun ha hn p l e s m args below meth c H locs ls hX hi hz hK hP hS hl => va_putF hX.1.1 hX.1.2.1 hX.1.2.2.2.2 hin ty0 hty hnm hX.1.2.2.2.1 hK hP (n_D ha _) hS 0 rfl hc j hj (hX.1.2.2.2.2 _ hlink) (fun x hx => by rw [← href]; exact hx) hfin hi hdecl hp hn1 hfit hlen hd
    (fun H1 locs1 hP1 _ hS1 => k ha hn p l e s m args below meth c H1 locs1 ls hX hi hz hK (by rw [← hfs]; exact hP1) hS1 hl)
theorem n_iast {i : Int32} {v : Int32} {t kk n0 : Nat} {f : Nat → Int32} (hk : es[kk]? = some (.inl (cI, n0, .inl f))) (ht : n_ad a sz kk = t) (hb : 0 ≤ i.toInt ∧ i.toInt < n0) {es2 : List va_E} (hes : es.set kk (.inl (cI, n0, .inl (upd f i.toNatClampNeg v))) = es2) (hd : decode y.2.1 pc = .ok (.iastore, 1)) (k : n_w D cI cL a sz y mc ms n sl (pc + 1) L S es2 es') : n_w D cI cL a sz y mc ms n sl pc L (.int v :: .int i :: .ref t :: S) es es' := by
  subst ht hes
  intro ha hn p l e s m args below meth c H locs ls hX hi hz hK hP hS hl
  refine va_iast hX.1.1 hX.1.2.1 hK hP (n_D ha _) hS kk 0 (n_wf_at hk) rfl (vp_in_iff.mpr hb) hd (fun H1 locs1 hP1 _ hS1 => ?_)
  exact k ha (by rw [List.length_set]; exact hn) p l e s m args below meth c H1 locs1 ls hX hi hz hK (by rw [← n_wf_set]; exact hP1) hS1 hl
/-- where a new cell comes to lie -/
theorem n_fresh {H1 H0 : Heap} {q : Nat} {x : va_E} (ha : a < sz) (hn : es.length = n + 1) (hz : H0.size = sz) (hP : va_P D vwCl (n_wf a sz es ++ [(q, x)]) H1) (hD : va_D (n_A a sz) (n_wf a sz es ++ [(q, x)])) (h : H1.size ≤ H0.size + (n + 1)) : q = sz + n := by
  have hlen : (n_wf a sz es).length = n + 1 := by
    rw [← hn]
    clear hP hD hn ha hz h
    induction es generalizing a sz with
    | nil => rfl
    | cons e r ih => show (n_wf sz (sz + 1) r).length + 1 = r.length + 1; rw [ih]
  have hq : (n_wf a sz es ++ [(q, x)])[n + 1]? = some (q, x) := by rw [List.getElem?_append_right (by omega), hlen, Nat.sub_self]; rfl
  have h1 : q < H1.size := (hP _ _ hq).lt
  have at' : ∀ j, j < n + 1 → n_ad a sz j ≠ q := by
    intro j hj he
    have hj2 : j < es.length := by omega
    have g : (n_wf a sz es ++ [(q, x)])[j]? = some (n_ad a sz j, es[j]) := by rw [List.getElem?_append_left (by omega)]; exact n_wf_at (List.getElem?_eq_getElem hj2)
    have := hD.1 j (n + 1) _ _ g hq he
    omega
  rcases hD.2 _ _ hq with h2 | h2
  · exact absurd h2.symm (at' 0 (by omega))
  · have h3 : sz ≤ q := h2
    apply Classical.byContradiction
    intro c
    refine at' (q - sz + 1) (by omega) ?_
    show sz + (q - sz) = q
    omega
theorem n_new {C : String} {T : u_T} {N ci index : Nat} (hin : ∀ w ∈ u_ws C T N, w ∈ z_tbl) (ty : Nat → FieldType) (hty : ∀ k, k < N → parseFieldDescriptor (T k).2.2.1 = some (ty k)) (hcl : Cond.classLink y.1 index C ∈ z_tbl) (hinst : Cond.instantiable C N ∈ z_tbl) (hini : Cond.initialized C ∈ z_tbl) (hc : vwCl[ci]? = some (C, T, N)) (fs : List Value) (hfs : ∀ j, j < N → defaultValue (ty j) = vp_V fs j) (hcells : n + 1 ≤ mc) (hslots : sl + N ≤ ms) {hd0 : va_E} {tl : List va_E} (hd : decode y.2.1 pc = .ok (.new index, 3)) (k : n_w D cI cL a sz y mc ms (n + 1) (sl + N) (pc + 3) L (.ref (sz + n) :: S) (hd0 :: (tl ++ [.inr (ci, fs)])) es') : n_w D cI cL a sz y mc ms n sl pc L S (hd0 :: tl) es' := by
  intro ha hn p l e s m args below meth c H locs ls hX hi hz hK hP hS hl
  have hA : ∀ q : Nat, s.heap.size ≤ q → n_A a sz q := fun q h => Or.inr (by rw [← hz]; exact h)
  refine va_new (R := n_rm y.2.2.2.2 mc ms) hX.1.1 hX.1.2.1 hX.1.2.2.2.2 hin ty hty hX.1.2.2.2.1 (hX.1.2.2.2.2 _ hcl) (hX.1.2.2.2.2 _ hinst) (hX.1.2.2.2.2 _ hini) hK hP (n_D ha _) hS hA hc hfs hcells hslots hd (fun q H1 hP1 hD1 hS1 => ?_)
  intro T1 hT1 X1
  have hq := n_fresh ha hn hz hP1 hD1 (by rw [← hT1]; exact X1.heapSize)
  subst hq
  exact k ha (by simp at hn ⊢; exact hn) p l e s m args below meth c H1 locs ls hX hi hz hK (by rw [show hd0 :: (tl ++ [Sum.inr (ci, fs)]) = (hd0 :: tl) ++ [Sum.inr (ci, fs)] from rfl, n_wf_push, hn]; exact hP1) hS1 hl T1 hT1 X1
theorem n_newaI {x : Int32} {N : Nat} (harr : Cond.arrayClass .int ∈ z_tbl) (hx : ¬ x < 0) (hN : x.toNatClampNeg = N) (hbytes : N * componentBytes .int ≤ 536870912) (hcells : n + 1 ≤ mc) (hslots : sl + N ≤ ms) {hd0 : va_E} {tl tl2 : List va_E} {n2 sl2 : Nat} (hn2 : n + 1 = n2) (hs2 : sl + N = sl2) (ht2 : tl ++ [.inl (cI, N, .inl (fun _ => 0))] = tl2) (hd : decode y.2.1 pc = .ok (.newarray .int, 2)) (k : n_w D cI cL a sz y mc ms n2 sl2 (pc + 2) L (.ref (sz + n) :: S) (hd0 :: tl2) es') : n_w D cI cL a sz y mc ms n sl pc L (.int x :: S) (hd0 :: tl) es' := by
  subst hn2 hs2 ht2
  intro ha hn p l e s m args below meth c H locs ls hX hi hz hK hP hS hl
  have hA : ∀ q : Nat, s.heap.size ≤ q → n_A a sz q := fun q h => Or.inr (by rw [← hz]; exact h)
  refine va_newa (atype := .int) (ty := .int) (R := n_rm y.2.2.2.2 mc ms) (a0 := (N, .inl (fun _ => 0))) hX.1.1 hX.1.2.1 (hX.1.2.2.2.2 _ harr) rfl hK hP (n_D ha _) hS hA (fun _ => rfl) hx hN hbytes hcells hslots hd (fun q cA H1 hK1 hP1 hD1 hS1 => ?_)
  have ec : cA = cI := Option.some.inj (((hK1.2 2 (cA, .int) rfl).2).symm.trans ((hK.2 0 (cI, .int) rfl).2))
  subst ec
  intro T1 hT1 X1
  have hq := n_fresh ha hn hz hP1 hD1 (by rw [← hT1]; exact X1.heapSize)
  subst hq
  exact k ha (by simp at hn ⊢; exact hn) p l e s m args below meth c H1 locs ls hX hi hz hK (by rw [show ∀ z : va_E, hd0 :: (tl ++ [z]) = (hd0 :: tl) ++ [z] from fun _ => rfl, n_wf_push, hn]; exact hP1) hS1 hl T1 hT1 X1
theorem n_newaL {x : Int32} {N : Nat} (harr : Cond.arrayClass .long ∈ z_tbl) (hx : ¬ x < 0) (hN : x.toNatClampNeg = N) (hbytes : N * componentBytes .long ≤ 536870912) (hcells : n + 1 ≤ mc) (hslots : sl + N ≤ ms) {hd0 : va_E} {tl tl2 : List va_E} {n2 sl2 : Nat} (hn2 : n + 1 = n2) (hs2 : sl + N = sl2) (ht2 : tl ++ [.inl (cL, N, .inr (.inl (fun _ => 0)))] = tl2) (hd : decode y.2.1 pc = .ok (.newarray .long, 2)) (k : n_w D cI cL a sz y mc ms n2 sl2 (pc + 2) L (.ref (sz + n) :: S) (hd0 :: tl2) es') : n_w D cI cL a sz y mc ms n sl pc L (.int x :: S) (hd0 :: tl) es' := by
  subst hn2 hs2 ht2
  intro ha hn p l e s m args below meth c H locs ls hX hi hz hK hP hS hl
  have hA : ∀ q : Nat, s.heap.size ≤ q → n_A a sz q := fun q h => Or.inr (by rw [← hz]; exact h)
  refine va_newa (atype := .long) (ty := .long) (R := n_rm y.2.2.2.2 mc ms) (a0 := (N, .inr (.inl (fun _ => 0)))) hX.1.1 hX.1.2.1 (hX.1.2.2.2.2 _ harr) rfl hK hP (n_D ha _) hS hA (fun _ => rfl) hx hN hbytes hcells hslots hd (fun q cA H1 hK1 hP1 hD1 hS1 => ?_)
  have ec : cA = cL := Option.some.inj (((hK1.2 2 (cA, .long) rfl).2).symm.trans ((hK.2 1 (cL, .long) rfl).2))
  subst ec
  intro T1 hT1 X1
  have hq := n_fresh ha hn hz hP1 hD1 (by rw [← hT1]; exact X1.heapSize)
  subst hq
  exact k ha (by simp at hn ⊢; exact hn) p l e s m args below meth c H1 locs ls hX hi hz hK (by rw [show ∀ z : va_E, hd0 :: (tl ++ [z]) = (hd0 :: tl) ++ [z] from fun _ => rfl, n_wf_push, hn]; exact hP1) hS1 hl T1 hT1 X1
end NR
/-- a constructor from its body -/
theorem n_entry {D : va_G} {cI cL : ClassId} {a sz mc ms d nL : Nat} {yn : MethodName} {cc : ByteArray} {As : List Value} {e0 : va_E} {es' : List va_E} (hp : plainName yn.cls = true) (hnm : yn.name = "<init>") (hlen : (lg_sl (.ref a :: As)).length ≤ nL) {L : List (Nat × Value)} (hL : lv_args 0 (.ref a :: As) = L) (k : n_w D cI cL a sz (yn.cls, cc, nL, none, d) mc ms 0 0 0 L [] [e0] es') : n_S D cI cL d mc ms yn cc nL As a sz [e0] es' := by
  subst hL
  intro ha l
  refine Met.ofW (cc := cc) (maxL := nL) (ret := none) hp rfl ?_
  intro p e s m args below meth c s₁ B hml hv
  obtain ⟨rfl, hz, hk, hw⟩ := hv
  have hl := lv_entry (.ref a :: As) (n := nL) hlen
  rw [lg_entry_eq]
  generalize (lg_sl (.ref a :: As) ++ List.replicate (nL - (lg_sl (.ref a :: As)).length) Slot.unset).toArray = ls at hl ⊢
  have hts : ∀ w ∈ z_tbl, w.before (Value.ref a :: As).toArray s = true := fun w hw => atoms_spec (ws := .code yn cc nL none :: z_tbl) B.pre w (List.mem_cons_of_mem _ hw)
  exact k ha rfl p l e s m _ below meth c s.heap [] ls ⟨⟨B.exec, B.bytes, hml, findClass_of_methodNamed B.named, hts⟩, B.returns, B.notSynchronized⟩ (((name_of_methodNamed B.named B.method).1).trans hnm) hz hk hw va_S.rf hl

section NI
variable {D : va_G} {cI cL : ClassId} {a sz mc ms n sl pc : Nat} {y : z_Y} {L : List (Nat × Value)} {S st : List Value} {es es' : List va_E}
theorem n_ad_ge (k : Nat) : n_ad a sz (k + 1) = sz + k := rfl
set_option maxHeartbeats 1000000 in
/-- the last object's constructor -/
theorem n_init {d mc' ms' nL nA index i : Nat} {yn : MethodName} {cc : ByteArray} {As : List Value} {e0 hd0 : va_E} {es2 tl : List va_E} (hm : n = i + 1) (hSp : n_S D cI cL d mc' ms' yn cc nL As (sz + i) (sz + (i + 1)) [e0] es2) (hM : z_MW yn cc nL none) (hI : Cond.instanceMethod yn ∈ z_tbl) (hnm : yn.name = "<init>") (hlink : Cond.methodLink y.1 index yn ∈ z_tbl) (hnp : (parseMethodDescriptor yn.desc).map (fun d => d.parameters.length) = some nA) (hnA : As.length = nA) (hlen : es2.length = mc' + 1) (hst : st = As.reverse ++ .ref (sz + i) :: S) (hcat : (S.map fun v => v.category).sum ≤ 8) (hd' : d + 1 ≤ y.2.2.2.2) (hnL : nL ≤ 13) (hc : n + mc' ≤ mc) (hs : sl + ms' ≤ ms)
    (hd : decode y.2.1 pc = .ok (.invokespecial index, 3)) (k : n_w D cI cL a sz y mc ms (n + mc') (sl + ms') (pc + 3) L S (hd0 :: (tl ++ es2)) es') : n_w D cI cL a sz y mc ms n sl pc L st (hd0 :: (tl ++ [e0])) es' := by
  subst hm
  intro ha hn p l e s m args below meth c H locs ls hX hi hz hK hP hS hl T0 hT X
  have htl : tl.length = i := by simp at hn; exact hn
  have hsz : H.size = sz + (i + 1) := n_size hn hz hP hS (by rw [← hT]; exact X.heapSize)
  have hts := hX.1.2.2.2.2
  have hcb : CallB (n_rm y.2.2.2.2 mc ms) s args y.1 index yn cc nL none (.code yn cc nL none :: z_tbl) (n_rm d mc' ms') mc' ms' nA :=
    callB_of nA hts (z_code_good yn cc nL none hM.2.1) rfl rfl rfl (hts _ hM.1) (hts _ hlink) ⟨hM.2.2.1, hM.2.2.2, hnp⟩ ⟨hd', by simp only [n_rm]; omega⟩
  have g0 : (n_wf a sz (hd0 :: (tl ++ [e0])))[i + 1]? = some (sz + i, e0) := n_wf_at (k := i + 1) (by rw [List.getElem?_cons_succ, List.getElem?_append_right (by omega), htl, Nat.sub_self]; rfl)
  have hP0 : va_P D vwCl (n_wf (sz + i) (sz + (i + 1)) [e0]) H := by
    intro k q hk
    cases k with
    | zero => cases hk; exact hP _ _ g0
    | succ k => cases hk
  have hrun := va_runI (locs := locs) (cells := i + 1) (slots := sl) (below := below) (meth := meth) (e := e) (b := sz + i) (As := As) (rest := S) (H := H) (g := F0 m pc ls st) hX.1 (hSp (by omega) l) ⟨hcb, hnm, hts _ hI⟩ ⟨fun a' U g mk q => ⟨q.1, q.2.1, va_K.moved (u := U) (U := U.calling g mk a') (Vm.Alike.refl U.vm) q.2.2.1, q.2.2.2⟩, fun U hU hWm => ⟨rfl, by rw [hU]; exact hsz, va_K.moved hWm.alike hK, by rw [hU]; exact hP0⟩⟩ rfl hnA hl.1 hst (by rw [show (F0 m pc ls st).monitorRoom = 0 from rfl]; omega) hd ⟨hc, hs⟩
  obtain ⟨v, st₀, t, T', L2, h0, X', hL2, e1, e2, ⟨hv, hw2, hF2⟩, stp⟩ := hrun T0 hT X
  have hv' : v = none := by injection hv
  subst hv'
  have hz2 : H.size ≤ T'.heap.size := by rw [← h0, e1]; exact hF2.1
  have hq : ∀ q : Nat, q < H.size → ¬ n_A (sz + i) (sz + (i + 1)) q → T'.heap[q]? = H[q]? := fun q h1 h2 => by rw [← h0, e1]; exact hF2.2 q (by rw [h0]; exact h1) h2
  have sub : ∀ q, n_A (sz + i) (sz + (i + 1)) q → n_A a sz q := by
    intro q h
    rcases h with h | h
    · right; show sz ≤ q; rw [h]; omega
    · right; show sz ≤ q; have h' : sz + (i + 1) ≤ q := h; omega
  have hS1 : va_S (n_A a sz) s.heap T'.heap (locs ++ L2) := ⟨Nat.le_trans hS.1 hz2, fun q h1 h2 => by rw [hq q (Nat.lt_of_lt_of_le h1 hS.1) (fun z => h2 (sub q z))]; exact hS.2.1 q h1 h2, fun q hq2 => by
      rcases List.mem_append.mp hq2 with h | h
      · exact hS.2.2 q h
      · exact sub _ (hL2 q h)⟩
  have hP1 : va_P D vwCl (n_wf a sz (hd0 :: (tl ++ es2))) T'.heap := by
    intro k q hk
    obtain ⟨g1, g2⟩ := n_wf_inv hk
    by_cases hlt : k < i + 1
    · -- an older cell
      have g3 : (n_wf a sz (hd0 :: (tl ++ [e0])))[k]? = some q := by
        have h := n_wf_at (a := a) (sz := sz) (es := hd0 :: (tl ++ [e0])) (k := k) (e := q.2) (by
          cases k with
          | zero => exact g1
          | succ k =>
            rw [List.getElem?_cons_succ] at g1 ⊢
            rw [List.getElem?_append_left (by omega)] at g1 ⊢
            exact g1)
        rw [h, ← g2]
      have hl2 := (hP k q g3).lt
      refine (hP k q g3).kept (hq q.1 hl2 ?_)
      rw [g2]
      intro hA
      cases k with
      | zero =>
        rcases hA with h | h
        · have : a = sz + i := h; omega
        · have : sz + (i + 1) ≤ a := h; omega
      | succ k =>
        rcases hA with h | h
        · have : sz + k = sz + i := h; omega
        · have : sz + (i + 1) ≤ sz + k := h; omega
    · obtain ⟨j, rfl⟩ : ∃ j, k = i + 1 + j := ⟨k - (i + 1), by omega⟩
      have g4 : es2[j]? = some q.2 := by
        rw [show i + 1 + j = (i + j) + 1 by omega, List.getElem?_cons_succ, List.getElem?_append_right (by omega), show i + j - tl.length = j by omega] at g1
        exact g1
      have g5 := n_wf_at (a := sz + i) (sz := sz + (i + 1)) g4
      have g6 : n_ad (sz + i) (sz + (i + 1)) j = q.1 := by
        rw [g2, show i + 1 + j = (i + j) + 1 by omega]
        cases j with
        | zero => rfl
        | succ j => show sz + (i + 1) + j = sz + (i + (j + 1)); omega
      rw [g6] at g5
      rw [e1]
      exact hw2 j q g5
  obtain ⟨t2, a1, b1⟩ := k ha (by simp [htl, hlen]; omega) p l e s m args below meth c T'.heap (locs ++ L2) ls hX hi hz hK hP1 hS1 hl T' rfl X'
  exact ⟨t2, stp t2 a1, b1⟩
end NI

