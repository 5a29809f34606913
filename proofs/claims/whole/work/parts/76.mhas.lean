/-! hasNext, by houses -/
theorem fc_ext {ok : Nat → Bool} {H B : Nat} (hB : H ≤ B) (h : ∀ x, H ≤ x → ok x = false) : ∀ (d l : Nat), l + d = H → fc ok (B - l) l = fc ok d l := by
  intro d
  induction d with
  | zero =>
    intro l e
    rw [fc_none (fun x a _ => h x (by omega))]; rfl
  | succ d ih =>
    intro l e
    rw [show B - l = (B - (l + 1)) + 1 by omega, fc, fc, ih (l + 1) (by omega)]
theorem okL_out {N : Nat} {S : zS} {H W sh b : Nat} (V : Vd N S) (eH : S 10 0 = nI H) (eW : S 10 1 = nI W) (hH : H ≤ 8) (hW : W ≤ 12) {p : List Nat} {x : Nat} (hp : pl b p < H) (hx : H ≤ x) (hx2 : x < 2 ^ 31) : okL S sh W b p x = false := by
  rw [okL_f]
  apply Classical.byContradiction
  intro z
  have bt := sLk_bt S sh (pl b p) x W z
  have le := sLk_le S sh (pl b p) x W
  obtain ⟨z5, z6, -, -⟩ := V.2.2.2.2.2.1 (sLk S sh (pl b p) x W - 1) (by rw [sW_of eW hW]; omega)
  rw [sH_of eH hH] at z5 z6
  rcases bt.2 with q | q
  · obtain ⟨y, hy, ey⟩ := z6
    rw [ey] at q
    have := nI_inj (by omega) hx2 q.2; omega
  · obtain ⟨y, hy, ey⟩ := z5
    rw [ey] at q
    have := nI_inj (by omega) hx2 q.1; omega
theorem pl_lt {H b : Nat} (hb : b < H) {p : List Nat} (h : ∀ x ∈ p, x < H) : pl b p < H := by
  cases p with
  | nil => exact hb
  | cons x p => exact h x List.mem_cons_self
theorem okL_in {N : Nat} {S : zS} {H W sh b : Nat} (V : Vd N S) (eH : S 10 0 = nI H) (eW : S 10 1 = nI W) (hH : H ≤ 8) (hW : W ≤ 12) {p : List Nat} (hp : pl b p < H) : ∀ x, H ≤ x → x < 8 → okL S sh W b p x = false := fun x h1 h2 => okL_out V eH eW hH hW hp h1 (by omega)
theorem fc_H {N : Nat} {S : zS} {H W sh b : Nat} (V : Vd N S) (eH : S 10 0 = nI H) (eW : S 10 1 = nI W) (hH : H ≤ 8) (hW : W ≤ 12) {p : List Nat} (hp : pl b p < H) : ∀ (d l : Nat), l + d = H → fc (okL S sh W b p) (8 - l) l = fc (okL S sh W b p) d l := by
  intro d
  induction d with
  | zero =>
    intro l e
    rw [fc_none (fun x a c => okL_in V eH eW hH hW hp x (by omega) (by omega))]; rfl
  | succ d ih =>
    intro l e
    rw [show 8 - l = (8 - (l + 1)) + 1 by omega, fc, fc, ih (l + 1) (by omega)]
/-- fixed data of a search in the reference -/
def Md (N : Nat) (S : zS) (H W g sh b : Nat) (t0 : zT) : Prop := Vd N S ∧ S 10 0 = nI H ∧ S 10 1 = nI W ∧ H ≤ 8 ∧ W ≤ 12 ∧ b < H ∧ 1 ≤ g ∧ g ≤ 3 ∧ sh < 2 ^ 31 ∧ t0 4 0 = nI b
theorem mPop {N : Nat} {S : zS} {H W g sh k b : Nat} {t0 : zT} (D : Md N S H W g sh b t0) (hk : k ≤ 6) : ∀ (p : List Nat) (l m : Nat) (ν : z_M), okR H k p → (p.length < k ∨ H ≤ l) → l ≤ H → p.length + 60 ≤ m → Hs ν S H W g sh k b t0 p → ν.1 0 29 = 0 →
    (∀ p', nx (okL S sh W b) 8 p l = some p' → ∃ ν', f_X9_hasNext_h70 (f_X9_hasNext_h14 m) m (nI H) (nI l) ν = some (1, ν') ∧ Hs ν' S H W g sh k b t0 p' ∧ ν'.1 18 p'.length = nI 0 ∧ ν'.1 0 28 = ν.1 0 28 ∧ ν'.1 0 29 = 0 ∧ FM ν ν') ∧ (nx (okL S sh W b) 8 p l = none → ∃ ν', f_X9_hasNext_h70 (f_X9_hasNext_h14 m) m (nI H) (nI l) ν = some (0, ν') ∧ FM ν ν') := by
  obtain ⟨V, eH, eW, hH, hW, hb, hg1, hg3, hs, h4⟩ := D
  intro p
  induction p with
  | nil =>
    intro l m ν o hl hlH hm s c29
    obtain ⟨t1, t2⟩ := mTry (r14 := f_X9_hasNext_h14 m) s hH hW hs h4 (by simp) (H - l) l m (by omega) (by omega)
    have ef := fc_H (sh := sh) (b := b) V eH eW hH hW (p := []) hb (H - l) l (by omega)
    refine ⟨fun p' e => ?_, fun e => ?_⟩
    · cases c : fc (okL S sh W b []) (8 - l) l with
      | none => rw [nx_end c] at e; cases e
      | some h =>
        rw [nx_some c] at e
        cases e
        rw [ef] at c
        obtain ⟨-, c2, c3, -⟩ := fc_some c
        obtain ⟨n', a1, a2⟩ := t1 h c
        obtain ⟨ν', b1, b2, b3, b4, b5, b6⟩ := mStep (r14 := f_X9_hasNext_h14 m) s hH hW hg1 hg3 hs h4 (by simp) h (by omega) (okL_t.1 c3) n' (by omega)
        exact ⟨ν', a2.trans b1, b2, b3, b4, b5.trans c29, b6⟩
    · cases c : fc (okL S sh W b []) (8 - l) l with
      | some h => rw [nx_some c] at e; cases e
      | none =>
        rw [ef] at c
        obtain ⟨n', a2⟩ := t2 c
        refine ⟨ν, ?_, FM.rf ν⟩
        have c26 : ν.1 0 26 = nI 0 := s.2.2.2.1
        rw [a2]
        unfold f_X9_hasNext_b89
        rw [if_neg (nI_nlt (Nat.le_refl _) (by omega)), c26, if_pos (show nI 0 = 0 from rfl)]
  | cons x q ih =>
    intro l m ν o hl hlH hm s c29
    have lq : (x :: q).length = q.length + 1 := rfl
    have hx : x < H := o.2 x List.mem_cons_self
    have ol := o.1
    rw [lq] at ol
    obtain ⟨t1, t2⟩ := mTry (r14 := f_X9_hasNext_h14 m) s hH hW hs h4 (by omega) (H - l) l m (by omega) (by omega)
    have ef := fc_H (sh := sh) (b := b) V eH eW hH hW (p := x :: q) hx (H - l) l (by omega)
    cases c : fc (okL S sh W b (x :: q)) (8 - l) l with
    | some h =>
      rw [nx_some c]
      rw [ef] at c
      obtain ⟨c1, c2, c3, -⟩ := fc_some c
      have hlen : (x :: q).length < k := by
        rcases hl with h' | h'
        · exact h'
        · omega
      obtain ⟨n', a1, a2⟩ := t1 h c
      obtain ⟨ν', b1, b2, b3, b4, b5, b6⟩ := mStep (r14 := f_X9_hasNext_h14 m) s hH hW hg1 hg3 hs h4 (by omega) h (by omega) (okL_t.1 c3) n' (by omega)
      refine ⟨fun p' e => ?_, fun e => (by cases e)⟩
      cases e
      exact ⟨ν', a2.trans b1, b2, b3, b4, b5.trans c29, b6⟩
    | none =>
      rw [nx_pop c]
      rw [ef] at c
      obtain ⟨n', a2⟩ := t2 c
      obtain ⟨M, c27, c30, c26, rk⟩ := s
      rw [lq] at c26
      obtain ⟨m7, e7⟩ : ∃ y, y = z_sI ν 0 26 (nI q.length) := ⟨_, rfl⟩
      obtain ⟨m8, e8⟩ : ∃ y, y = z_sI m7 0 29 0 := ⟨_, rfl⟩
      have g8 : ∀ k j, ¬ (k = 0 ∧ j = 26) → ¬ (k = 0 ∧ j = 29) → m8.1 k j = ν.1 k j := fun k j a b => by rw [e8, sI1, if_neg b, e7, sI1, if_neg a]
      have fm : FM ν m8 := ⟨fun k j a => g8 k j (by unfold FMp at a; omega) (by unfold FMp at a; omega), fun _ _ => by rw [e8, e7]; rfl⟩
      have s8 : Hs m8 S H W g sh k b t0 q := ⟨M.same (fun k j a => g8 k j (by unfold Fm at a; omega) (by unfold Fm at a; omega)), by rw [g8 0 27 (by omega) (by omega)]; exact c27, by rw [g8 0 30 (by omega) (by omega)]; exact c30, by rw [e8, sI1, if_neg (by omega), e7, sI1, if_pos ⟨rfl, rfl⟩], rk.1.same (fun r k j _ a => g8 k j (by unfold Rw at a; omega) (by unfold Rw at a; omega)) (fun j _ => g8 18 j (by omega) (by omega))⟩
      have t18 : m7.1 18 q.length = nI (x + 1) := by rw [e7, sI1f (by decide)]; exact rk.2.2
      obtain ⟨m', rfl⟩ : ∃ m', m = m' + 1 := ⟨m - 1, by omega⟩
      have red : f_X9_hasNext_h70 (f_X9_hasNext_h14 (m' + 1)) (m' + 1) (nI H) (nI l) ν = f_X9_hasNext_h70 (f_X9_hasNext_h14 m') m' (nI H) (nI (x + 1)) m8 := by
        rw [a2]
        unfold f_X9_hasNext_b89
        rw [if_neg (nI_nlt (Nat.le_refl _) (by omega)), c26, if_neg (show ¬ nI (q.length + 1) = 0 from nI_ne (b := 0) (by omega) (by omega) (by omega)), i_pred (by omega), Nat.add_sub_cancel, z_letE, ← e7]
        have d30 : m7.1 0 30 = 0 := by rw [e7, sI1, if_neg (by omega)]; exact c30
        have d8 : m7.1 0 8 = nI H := by rw [e7, sI1, if_neg (by omega)]; exact M.2.2.1
        have d26 : m7.1 0 26 = nI q.length := by rw [e7, sI1, if_pos ⟨rfl, rfl⟩]
        have d27 : m7.1 0 27 = nI k := by rw [e7, sI1, if_neg (by omega)]; exact c27
        have d29 : m7.1 0 29 = 0 := by rw [e7, sI1, if_neg (by omega)]; exact c29
        rw [f_X9_hasNext_h14, d30, ifz, d8]
        unfold f_X9_hasNext_b32 f_X9_hasNext_b64
        rw [d26, d27, if_neg (nI_ne (by omega) (by omega) (by omega)), d29, ifz, z_chkN (by omega) (by decide), z_ixN (by omega), t18, z_letE, ← e8]
      rw [red]
      have oq : okR H k q := ⟨by omega, fun y hy => o.2 y (List.mem_cons_of_mem _ hy)⟩
      obtain ⟨j1, j2⟩ := ih (x + 1) m' m8 oq (Or.inl (by omega)) (by omega) (by omega) s8 (by rw [e8, sI1, if_pos ⟨rfl, rfl⟩])
      refine ⟨fun p' e => ?_, fun e => ?_⟩
      · obtain ⟨ν', b1, b2, b3, b4, b5, b6⟩ := j1 p' e
        exact ⟨ν', b1, b2, b3, by rw [b4, g8 0 28 (by omega) (by omega)], b5, fm.tr b6⟩
      · obtain ⟨ν', b1, b2⟩ := j2 e
        exact ⟨ν', b1, fm.tr b2⟩
/-- no house beyond the last: where a search begins with 8 it may begin with H -/
theorem nx_top {N : Nat} {S : zS} {H W sh b : Nat} (V : Vd N S) (eH : S 10 0 = nI H) (eW : S 10 1 = nI W) (hH : H ≤ 8) (hW : W ≤ 12) {p : List Nat} (hp : pl b p < H) : nx (okL S sh W b) 8 p 8 = nx (okL S sh W b) 8 p H := by
  have c1 : fc (okL S sh W b p) (8 - 8) 8 = none := rfl
  have c2 : fc (okL S sh W b p) (8 - H) H = none := fc_none (fun x a c => okL_in V eH eW hH hW hp x a (by omega))
  cases p with
  | nil => rw [nx_end c1, nx_end c2]
  | cons x q => rw [nx_pop c1, nx_pop c2]
theorem mHN {N : Nat} {S : zS} {H W g sh k b : Nat} {t0 : zT} {p : List Nat} {ν : z_M} (D : Md N S H W g sh b t0) (hk : k ≤ 6) (o : okR H k p) (s : Hs ν S H W g sh k b t0 p) (c28 : ν.1 0 28 = 1) (c18 : ν.1 18 p.length = nI 0) (cut : Prop) (hc : (cut → ¬ ν.1 0 29 = 0) ∧ (¬ cut → ν.1 0 29 = 0)) (n : Nat) (hn : 100 ≤ n) :
    let l := @ite _ (p.length = k ∨ cut) (Classical.propDecidable _) 8 0
    (∀ p', nx (okL S sh W b) 8 p l = some p' → ∃ ν', f_X9_hasNext n ν = some (1, ν') ∧ Hs ν' S H W g sh k b t0 p' ∧ ν'.1 18 p'.length = nI 0 ∧ ν'.1 0 28 = 1 ∧ ν'.1 0 29 = 0 ∧ FM ν ν') ∧ (nx (okL S sh W b) 8 p l = none → ∃ ν', f_X9_hasNext n ν = some (0, ν') ∧ FM ν ν') := by
  intro l
  obtain ⟨m, rfl⟩ : ∃ m, n = m + 1 := ⟨n - 1, by omega⟩
  have D' := D
  obtain ⟨V, eH, eW, hH, hW, hb, hg1, hg3, hs, h4⟩ := D
  obtain ⟨M, c27, c30, c26, rk⟩ := s
  have hpl : pl b p < H := pl_lt hb o.2
  have hpk := o.1
  obtain ⟨m8, e8⟩ : ∃ y, y = z_sI ν 0 29 0 := ⟨_, rfl⟩
  have g8 : ∀ k j, ¬ (k = 0 ∧ j = 29) → m8.1 k j = ν.1 k j := fun k j b => by rw [e8, sI1, if_neg b]
  have fm : FM ν m8 := ⟨fun k j a => g8 k j (by unfold FMp at a; omega), fun _ _ => by rw [e8]; rfl⟩
  have s8 : Hs m8 S H W g sh k b t0 p := ⟨M.same (fun k j a => g8 k j (by unfold Fm at a; omega)), by rw [g8 0 27 (by omega)]; exact c27, by rw [g8 0 30 (by omega)]; exact c30, by rw [g8 0 26 (by omega)]; exact c26, rk.same (fun r k j _ a => g8 k j (by unfold Rw at a; omega)) (fun j _ => g8 18 j (by omega))⟩
  obtain ⟨l', hl', hl'2, red⟩ : ∃ l', l' ≤ H ∧ ((p.length < k ∨ H ≤ l') ∧ nx (okL S sh W b) 8 p l = nx (okL S sh W b) 8 p l') ∧ f_X9_hasNext (m + 1) ν = f_X9_hasNext_h70 (f_X9_hasNext_h14 m) m (nI H) (nI l') m8 := by
    unfold f_X9_hasNext
    rw [c28, ifn, f_X9_hasNext_h14, c30, ifz, M.2.2.1]
    unfold f_X9_hasNext_b32 f_X9_hasNext_b51 f_X9_hasNext_b64
    rw [c26, c27, z_letE, z_letE, ← e8]
    by_cases a : p.length = k
    · rw [a, if_pos rfl]
      refine ⟨H, Nat.le_refl H, ⟨Or.inr (Nat.le_refl H), ?_⟩, rfl⟩
      show nx _ 8 p (@ite _ (p.length = k ∨ cut) (Classical.propDecidable _) 8 0) = _
      rw [if_pos (Or.inl a)]
      exact nx_top V eH eW hH hW hpl
    · rw [if_neg (nI_ne (by omega) (by omega) a)]
      by_cases cc : cut
      · rw [if_neg (hc.1 cc)]
        refine ⟨H, Nat.le_refl H, ⟨Or.inr (Nat.le_refl H), ?_⟩, rfl⟩
        show nx _ 8 p (@ite _ (p.length = k ∨ cut) (Classical.propDecidable _) 8 0) = _
        rw [if_pos (Or.inr cc)]
        exact nx_top V eH eW hH hW hpl
      · rw [if_pos (hc.2 cc), z_chkN (by omega) (by decide), z_ixN (by omega), c18]
        refine ⟨0, Nat.zero_le H, ⟨Or.inl (by omega), ?_⟩, rfl⟩
        show nx _ 8 p (@ite _ (p.length = k ∨ cut) (Classical.propDecidable _) 8 0) = _
        rw [if_neg (fun z => by rcases z with z | z <;> contradiction)]
  obtain ⟨j1, j2⟩ := mPop D' hk p l' m m8 o hl'2.1 hl' (by omega) s8 (by rw [e8, sI1, if_pos ⟨rfl, rfl⟩])
  rw [red, hl'2.2]
  refine ⟨fun p' e => ?_, fun e => ?_⟩
  · obtain ⟨ν', b1, b2, b3, b4, b5, b6⟩ := j1 p' e
    exact ⟨ν', b1, b2, b3, by rw [b4, g8 0 28 (by omega)]; exact c28, b5, fm.tr b6⟩
  · obtain ⟨ν', b1, b2⟩ := j2 e
    exact ⟨ν', b1, fm.tr b2⟩
/-- a search begins -/
theorem mBeginsLoop : ∀ (d j n : Nat) (ν : z_M), j + d = 8 → d < n → ∃ ν', f_X9_begins_h2 n (nI 0) (nI j) ν = some ((), ν') ∧ (∀ k i, ν'.1 k i = if k = 12 ∧ j ≤ i ∧ i < 8 then 0 else if k = 15 ∧ i = 0 then 0 else ν.1 k i) ∧ ν'.2 17 0 = 1 ∧ ∀ k, k ≠ 17 → ν'.2 k = ν.2 k := by
  intro d
  induction d with
  | zero =>
    intro j n ν e hn
    obtain ⟨m, rfl⟩ : ∃ m, n = m + 1 := ⟨n - 1, by omega⟩
    obtain rfl : j = 8 := by omega
    rw [f_X9_begins_h2, if_neg (show ¬ nI 8 < (8 : Int32) by decide), z_chkN (by omega) (by decide), z_letE, z_chkN (by omega) (by decide), z_letE]
    refine ⟨_, rfl, fun k i => ?_, ?_, fun k hk => ?_⟩
    · rw [sL1, sI1, if_neg (show ¬ (k = 12 ∧ 8 ≤ i ∧ i < 8) by omega)]; rfl
    · rw [sL2, if_pos ⟨rfl, rfl⟩]
    · funext y; rw [sL2, if_neg (fun z => hk z.1)]; rfl
  | succ d ih =>
    intro j n ν e hn
    obtain ⟨m, rfl⟩ : ∃ m, n = m + 1 := ⟨n - 1, by omega⟩
    rw [f_X9_begins_h2, if_pos (show nI j < (8 : Int32) from nI_lt (b := 8) (by omega) (by omega)), i8_h, z_chkN (by omega) (by decide), z_ixN (by omega), z_letE, i_succ, Nat.mul_zero, Nat.zero_add]
    obtain ⟨ν', q1, q2, q3, q4⟩ := ih (j + 1) m (z_sI ν 12 j 0) (by omega) (by omega)
    refine ⟨ν', q1, fun k i => ?_, q3, q4⟩
    rw [q2, sI1]
    by_cases z : k = 12 ∧ i = j
    · rw [if_neg (by omega), if_neg (by omega), if_pos z, if_pos (by omega)]
    · by_cases z2 : k = 12 ∧ j + 1 ≤ i ∧ i < 8
      · rw [if_pos z2, if_pos (by omega)]
      · rw [if_neg z2, if_neg z, if_neg (show ¬ (k = 12 ∧ j ≤ i ∧ i < 8) by omega)]
theorem mBeginRoutes (k : Nat) (bw : Int32) (hb : bw = 0 ∨ bw = 1) (ν : z_M) (n : Nat) (hn : 20 ≤ n) : ∃ ν', f_X9_beginsRoutes n (nI k) bw ν = some ((), ν') ∧ (∀ c i, ν'.1 c i = if c = 12 ∧ i < 8 then 0 else if c = 15 ∧ i = 0 then 0 else if c = 18 ∧ i = 0 then 0 else if c = 0 ∧ i = 30 then bw else if c = 0 ∧ i = 29 then 0 else if c = 0 ∧ i = 28 then 0 else if c = 0 ∧ i = 27 then nI k else if c = 0 ∧ i = 26 then 0 else ν.1 c i) ∧ ν'.2 17 0 = 1 ∧ ∀ k, k ≠ 17 → ν'.2 k = ν.2 k := by
  unfold f_X9_beginsRoutes f_X9_begins
  simp only [z_letE, z_boolE hb]
  obtain ⟨x, ex⟩ : ∃ x, x = z_sI (z_sI (z_sI (z_sI (z_sI (z_sI ν 0 26 0) 0 27 (nI k)) 0 28 0) 0 29 0) 0 30 bw) 18 (z_ix 0) 0 := ⟨_, rfl⟩
  rw [← ex]
  obtain ⟨ν', q1, q2, q3, q4⟩ := mBeginsLoop 8 0 n x (by omega) (by omega)
  have q1' : f_X9_begins_h2 n 0 0 x = some ((), ν') := q1
  rw [show (0 : Int32) = nI 0 from rfl, z_chkN (by omega) (by decide)]
  rw [show nI 0 = (0 : Int32) from rfl, q1', z_bindS]
  refine ⟨ν', rfl, fun c i => ?_, q3, fun k hk => ?_⟩
  · rw [q2, ex]
    simp only [sI1, Nat.zero_le, true_and]
    rfl
  · rw [q4 k hk, ex]; rfl
