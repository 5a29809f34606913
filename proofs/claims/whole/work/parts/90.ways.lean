/-! the reference goes by ways -/
theorem Vd.way {N : Nat} {S : zS} {H W w : Nat} (V : Vd N S) (eH : S 10 0 = nI H) (eW : S 10 1 = nI W) (hH : H ≤ 8) (hW : W ≤ 12) (hw : w < W) : ∃ a c, a < H ∧ c < H ∧ S 5 w = nI a ∧ S 6 w = nI c ∧ a ≠ c := by
  have hh : sH S = H := by unfold sH; rw [eH, nI_clamp (by omega)]
  have ww : sW S = W := by unfold sW; rw [eW, nI_clamp (by omega)]
  obtain ⟨⟨a, h1, h2⟩, ⟨c, h3, h4⟩, h5, -⟩ := V.2.2.2.2.2.1 w (by rw [ww]; exact hw)
  rw [hh] at h1 h3
  exact ⟨a, c, h1, h3, h2, h4, fun e => h5 (by rw [h2, h4, e])⟩
/-- where a way leads -/
noncomputable def ot (S : zS) (w x : Nat) : Nat := @ite _ (S 5 w = nI x) (Classical.propDecidable _) (hN (S 6 w)) (hN (S 5 w))
theorem ot_lt {N : Nat} {S : zS} {H W w x : Nat} (V : Vd N S) (eH : S 10 0 = nI H) (eW : S 10 1 = nI W) (hH : H ≤ 8) (hW : W ≤ 12) (hw : w < W) : ot S w x < H := by
  obtain ⟨a, c, h1, h2, h3, h4, -⟩ := V.way eH eW hH hW hw
  unfold ot
  by_cases z : S 5 w = nI x
  · rw [if_pos z, h4]; show (nI c).toNatClampNeg < H; rw [nI_clamp (by omega)]; exact h2
  · rw [if_neg z, h3]; show (nI a).toNatClampNeg < H; rw [nI_clamp (by omega)]; exact h1
noncomputable def plW (S : zS) (b : Nat) : List Nat → Nat
  | [] => b
  | w :: r => ot S w (plW S b r)
noncomputable def tRW (S : zS) (L b : Nat) (t0 : zT) : List Nat → zT
  | [] => t0
  | w :: r => tW S L (ot S w (plW S b r)) w (tRW S L b t0 r)
noncomputable def okW (S : zS) (b : Nat) (r : List Nat) (w : Nat) : Bool := @decide (sO S 0 w ∧ sOn S w (nI (plW S b r))) (Classical.propDecidable _)
theorem okW_t {S : zS} {b : Nat} {r : List Nat} {w : Nat} : okW S b r w = true ↔ sO S 0 w ∧ sOn S w (nI (plW S b r)) := by
  unfold okW; exact @decide_eq_true_iff _ (Classical.propDecidable _)
theorem okW_f {S : zS} {b : Nat} {r : List Nat} {w : Nat} : okW S b r w = false ↔ ¬ (sO S 0 w ∧ sOn S w (nI (plW S b r))) := by
  unfold okW; exact @decide_eq_false_iff_not _ (Classical.propDecidable _)
noncomputable def shr (S : zS) (W b : Nat) : List Nat → Int64
  | [] => 1
  | _ :: r => shr S W b r * (27720 / Int32.toInt64 (nI (sOA S 0 (nI (plW S b r)) W)))
theorem tRW_at {S : zS} {L b : Nat} {t0 : zT} (h : t0 4 0 = nI b) (r : List Nat) : tRW S L b t0 r 4 0 = nI (plW S b r) := by
  cases r with
  | nil => exact h
  | cons x r => rfl
def HsW (ν : z_M) (S : zS) (H W g k b : Nat) (t0 : zT) (r : List Nat) : Prop := MSt ν S H W g 0 ∧ ν.1 0 27 = nI k ∧ ν.1 0 30 = 1 ∧ ν.1 0 26 = nI r.length ∧ RK ν (tRW S g b t0) r ∧ ∀ j, j ≤ r.length → ν.2 17 (r.length - j) = shr S W b (r.drop j)
theorem mOpenAt' {H W g sh : Nat} {ν : z_M} {S : zS} {h : Int32} (M : MSt ν S H W g sh) (hs : sh < 2 ^ 31) (hW : W ≤ 12) (n : Nat) (hn : 13 ≤ n) : f_X9_openAt n h ν = some (nI (sOA S sh h W), ν) := by
  have m24 : ν.1 0 24 = nI sh := M.2.2.2.2.2
  have m9 : ν.1 0 9 = nI W := M.2.2.2.1
  have key : ∀ (d j n : Nat), j + d = W → d < n → f_X9_openAt_h4 n h (nI (sOA S sh h j)) (nI j) ν = some (nI (sOA S sh h W), ν) := by
    intro d
    induction d with
    | zero =>
      intro j n e hn
      obtain ⟨m, rfl⟩ : ∃ m, n = m + 1 := ⟨n - 1, by omega⟩
      unfold f_X9_openAt_h4
      rw [m9, if_neg (nI_nlt (by omega) (by omega)), show j = W by omega]
    | succ d ih =>
      intro j n e hn
      obtain ⟨m, rfl⟩ : ∃ m, n = m + 1 := ⟨n - 1, by omega⟩
      obtain ⟨a5, a6, a7, a8⟩ := M.2.1 j (by omega)
      have k := ih (j + 1) m (by omega) (by omega)
      unfold f_X9_openAt_h4 f_X9_openAt_b45 f_X9_openAt_b41 f_X9_openAt_b46
      rw [m9, if_pos (nI_lt (by omega) (by omega)), mOpen a8 m24 hs (by omega), z_bindS]
      simp only [z_letE, z_chkN (show j < 12 by omega) (by decide), z_ixN (show j < 2 ^ 31 by omega), a5, a6, i_succ, add0]
      rw [sOA_s S sh h j] at k
      by_cases c1 : sO S sh j
      · rw [if_pos c1, ifn]
        by_cases c2 : S 5 j = h
        · rw [if_pos (⟨c1, Or.inl c2⟩ : sO S sh j ∧ sOn S j h)] at k
          rw [if_pos c2]; exact k
        · rw [if_neg c2]
          by_cases c3 : S 6 j = h
          · rw [if_pos (⟨c1, Or.inr c3⟩ : sO S sh j ∧ sOn S j h)] at k
            rw [if_pos c3]; exact k
          · rw [if_neg (fun z : sO S sh j ∧ sOn S j h => by rcases z.2 with q | q <;> contradiction)] at k
            rw [if_neg c3]; exact k
      · rw [if_neg (fun z : sO S sh j ∧ sOn S j h => c1 z.1)] at k
        rw [if_neg c1, ifz]; exact k
  exact key W 0 n (by omega) (by omega)
theorem mLeadsW {N : Nat} {ν : z_M} {S : zS} {H W g k b : Nat} {t0 : zT} {r : List Nat} (V : Vd N S) (eH : S 10 0 = nI H) (eW : S 10 1 = nI W) (hH : H ≤ 8) (hW : W ≤ 12) (s : HsW ν S H W g k b t0 r) (h4 : t0 4 0 = nI b) (hp : r.length < 9) (c : Nat) (hc : c < W) (n : Nat) (hn : 13 ≤ n) : (okW S b r c = true → f_X9_leadsTo n (nI c) ν = some (nI (ot S c (plW S b r)), ν)) ∧ (okW S b r c = false → f_X9_leadsTo n (nI c) ν = some (-1, ν)) := by
  obtain ⟨M, c27, c30, c26, rk, -⟩ := s
  have at' : ν.1 9 r.length = nI (plW S b r) := rk.top.2.2.1.trans (tRW_at h4 r)
  obtain ⟨a, d, h1, h2, h3, h5, hne⟩ := V.way eH eW hH hW hc
  obtain ⟨a5, a6, a7, a8⟩ := M.2.1 c (by omega)
  unfold f_X9_leadsTo f_X9_leadsTo_b62
  rw [c26, z_chkN hp (by decide), z_ixN (by omega), at', z_letE, c30, ifn, mOpen a8 M.2.2.2.2.2 (by omega) (by omega), z_bindS]
  simp only [z_chkN (show c < 12 by omega) (by decide), z_ixN (show c < 2 ^ 31 by omega), a5, a6]
  unfold ot
  constructor
  · intro h
    obtain ⟨o1, o2⟩ := okW_t.1 h
    rw [if_pos o1, ifn]
    by_cases z : S 5 c = nI (plW S b r)
    · rw [if_pos z, if_pos z, if_pos z, h5]
      show _ = some (nI ((nI d).toNatClampNeg), ν)
      rw [nI_clamp (by omega)]
    · rw [if_neg z, if_neg z, if_neg z, if_pos (o2.resolve_left z), h3]
      show _ = some (nI ((nI a).toNatClampNeg), ν)
      rw [nI_clamp (by omega)]
  · intro h
    have h' := okW_f.1 h
    by_cases o1 : sO S 0 c
    · rw [if_pos o1, ifn, if_neg (fun z => h' ⟨o1, Or.inl z⟩), if_neg (fun z => h' ⟨o1, Or.inr z⟩)]
    · rw [if_neg o1, ifz]
theorem mTryW {N : Nat} {ν : z_M} {S : zS} {H W g k b : Nat} {t0 : zT} {r : List Nat} {r14 : z_M → Option (Int32 × z_M)} (V : Vd N S) (eH : S 10 0 = nI H) (eW : S 10 1 = nI W) (hH : H ≤ 8) (hW : W ≤ 12) (s : HsW ν S H W g k b t0 r) (h4 : t0 4 0 = nI b) (hp : r.length < 9) : ∀ (d l n : Nat), l + d = W → d + 30 ≤ n →
    (∀ h, fc (okW S b r) d l = some h → ∃ n', n ≤ n' + d ∧ f_X9_hasNext_h70 r14 n (nI W) (nI l) ν = f_X9_hasNext_b89 r14 n' (nI W) (nI h) ν) ∧ (fc (okW S b r) d l = none → ∃ n', f_X9_hasNext_h70 r14 n (nI W) (nI l) ν = f_X9_hasNext_b89 r14 n' (nI W) (nI W) ν) := by
  intro d
  induction d with
  | zero =>
    intro l n e hn
    obtain ⟨m, rfl⟩ : ∃ m, n = m + 1 := ⟨n - 1, by omega⟩
    obtain rfl : l = W := by omega
    refine ⟨fun h q => (by cases q), fun _ => ⟨m, ?_⟩⟩
    rw [f_X9_hasNext_h70, if_neg (nI_nlt (Nat.le_refl _) (by omega))]
  | succ d ih =>
    intro l n e hn
    obtain ⟨m, rfl⟩ : ∃ m, n = m + 1 := ⟨n - 1, by omega⟩
    obtain ⟨i1, i2⟩ := ih (l + 1) m (by omega) (by omega)
    have A := mLeadsW V eH eW hH hW s h4 hp l (by omega) m (by omega)
    have lo := ot_lt (x := plW S b r) V eH eW hH hW (show l < W by omega)
    rw [f_X9_hasNext_h70, if_pos (nI_lt (by omega) (by omega)), fc]
    cases c : okW S b r l with
    | false =>
      rw [A.2 c, z_bindS]
      simp only [if_pos (show (-1 : Int32) < 0 by decide), i_succ, Bool.false_eq_true, if_false]
      refine ⟨fun h q => ?_, i2⟩
      obtain ⟨n', a1, a2⟩ := i1 h q
      exact ⟨n', by omega, a2⟩
    | true =>
      rw [A.1 c, z_bindS]
      simp only [if_neg (nI_pos (show ot S l (plW S b r) < 2 ^ 31 by omega)), if_true]
      refine ⟨fun h q => ?_, fun q => (by cases q)⟩
      cases q
      exact ⟨m, by omega, rfl⟩
theorem sOA_pos {S : zS} {sh : Nat} {h : Int32} : ∀ (n w : Nat), w < n → sO S sh w ∧ sOn S w h → 0 < sOA S sh h n := by
  intro n
  induction n with
  | zero => intro w hw; omega
  | succ n ih =>
    intro w hw c
    rw [sOA_s]
    by_cases z : w = n
    · subst z; rw [if_pos c]; omega
    · have := ih w (by omega) c; omega
theorem t64nz : ∀ n, n < 13 → 1 ≤ n → ¬ Int32.toInt64 (nI n) = 0 := by decide
theorem mStepW {N : Nat} {ν : z_M} {S : zS} {H W g k b : Nat} {t0 : zT} {r : List Nat} {r14 : z_M → Option (Int32 × z_M)} (V : Vd N S) (eH : S 10 0 = nI H) (eW : S 10 1 = nI W) (hH : H ≤ 8) (hW : W ≤ 12) (s : HsW ν S H W g k b t0 r) (hg1 : 1 ≤ g) (hg3 : g ≤ 3) (h4 : t0 4 0 = nI b) (hp : r.length < 7) (w : Nat) (hw : w < W) (c : okW S b r w = true) (n : Nat) (hn : 20 ≤ n) :
    ∃ ν', f_X9_hasNext_b89 r14 n (nI W) (nI w) ν = some (1, ν') ∧ HsW ν' S H W g k b t0 (w :: r) ∧ ν'.1 18 (r.length + 1) = nI 0 ∧ ν'.1 0 28 = ν.1 0 28 ∧ ν'.1 0 29 = ν.1 0 29 ∧ FM ν ν' := by
  obtain ⟨m4, e4⟩ : ∃ x, x = z_sI ν 18 r.length (nI (w + 1)) := ⟨_, rfl⟩
  obtain ⟨M, c27, c30, c26, rk, rs⟩ := s
  have s4 : HsW m4 S H W g k b t0 r := ⟨M.same (fun k j q => by rw [e4, sI1, if_neg (by unfold Fm at q; omega)]), by rw [e4, sI1f (by decide)]; exact c27, by rw [e4, sI1f (by decide)]; exact c30, by rw [e4, sI1f (by decide)]; exact c26, rk.same (fun r k j _ q => by rw [e4, sI1, if_neg (by unfold Rw at q; omega)]) (fun j hj => by rw [e4, sI1, if_neg (by omega)]), fun j hj => by rw [e4, sI2]; exact rs j hj⟩
  have s4' := s4
  obtain ⟨M4, c274, c304, c264, rk4, rs4⟩ := s4
  have at4 : m4.1 9 r.length = nI (plW S b r) := rk4.top.2.2.1.trans (tRW_at h4 r)
  have ho := ot_lt (x := plW S b r) V eH eW hH hW hw
  have hpos := sOA_pos W w hw (okW_t.1 c)
  have hle := sOA_le S 0 (nI (plW S b r)) W
  obtain ⟨ν', q1, q2, q3, q4, q5, q6⟩ := mGo (many := nI (sOA S 0 (nI (plW S b r)) W)) (w := w) (h := ot S w (plW S b r)) M4.1 (M4.2.1 _ (by omega)).2.2.1 M4.2.2.2.2.1 hg1 hg3 rk4.top hp c264 (by omega) (by omega) (t64nz _ (by omega) (by omega)) n hn
  refine ⟨ν', ?_, ⟨M4.same q6.Fm, ?_, ?_, q3, ?_, ?_⟩, q4, ?_, ?_, ?_⟩
  · unfold f_X9_hasNext_b89
    rw [if_pos (nI_lt hw (by omega)), c26, z_chkN (by omega) (by decide), z_ixN (by omega), z_letE, i_succ, ← e4, (mLeadsW V eH eW hH hW s4' h4 (by omega) w hw n (by omega)).1 c, z_bindS]
    dsimp only
    unfold f_X9_goesTo f_X9_goesTo_b25
    rw [c304, ifn, ifn, c264, z_chkN (by omega) (by decide), z_ixN (by omega), at4, mOpenAt' M4 (by omega) hW n (by omega), z_bindS]
    dsimp only
    rw [q1, z_bindS]
  · rw [q6.1 0 27 (by unfold Rw; omega) (by omega) (by omega)]; exact c274
  · rw [q6.1 0 30 (by unfold Rw; omega) (by omega) (by omega)]; exact c304
  · refine ⟨rk4.same (fun r k j hr q => ?_) (fun j hj => ?_), q2, ?_⟩
    · exact q6.1 k j (by unfold Rw at q ⊢; omega) (by unfold Rw at q; omega) (by unfold Rw at q; omega)
    · exact q6.1 18 j (by unfold Rw; omega) (by omega) (by omega)
    · rw [q6.1 18 r.length (by unfold Rw; omega) (by omega) (by omega), e4, sI1, if_pos ⟨rfl, rfl⟩]
  · intro j hj
    cases j with
    | zero =>
      show ν'.2 17 (r.length + 1) = shr S W b r * (27720 / Int32.toInt64 (nI (sOA S 0 (nI (plW S b r)) W)))
      rw [q5]
      have := rs4 0 (Nat.zero_le _)
      rw [Nat.sub_zero, List.drop_zero] at this
      rw [this]
    | succ j =>
      rw [List.length_cons, Nat.add_sub_add_right, List.drop_succ_cons]
      rw [List.length_cons] at hj
      rw [q6.2.1 _ (by omega)]
      exact rs4 j (by omega)
  · rw [q6.1 0 28 (by unfold Rw; omega) (by omega) (by omega), e4, sI1f (by decide)]
  · rw [q6.1 0 29 (by unfold Rw; omega) (by omega) (by omega), e4, sI1f (by decide)]
  · refine FM.tr ⟨fun k j q => ?_, fun _ _ => by rw [e4]; rfl⟩ q6.FM
    rw [e4, sI1, if_neg (by unfold FMp at q; omega)]
theorem mPopW {N : Nat} {S : zS} {H W g k b : Nat} {t0 : zT} (D : Md N S H W g 0 b t0) (hk : k ≤ 6) : ∀ (r : List Nat) (l m : Nat) (ν : z_M), okR W k r → (r.length < k ∨ W ≤ l) → l ≤ W → r.length + 60 ≤ m → HsW ν S H W g k b t0 r → ν.1 0 29 = 0 →
    (∀ p', nx (okW S b) W r l = some p' → ∃ ν', f_X9_hasNext_h70 (f_X9_hasNext_h14 m) m (nI W) (nI l) ν = some (1, ν') ∧ HsW ν' S H W g k b t0 p' ∧ ν'.1 18 p'.length = nI 0 ∧ ν'.1 0 28 = ν.1 0 28 ∧ ν'.1 0 29 = 0 ∧ FM ν ν') ∧ (nx (okW S b) W r l = none → ∃ ν', f_X9_hasNext_h70 (f_X9_hasNext_h14 m) m (nI W) (nI l) ν = some (0, ν') ∧ FM ν ν') := by
  obtain ⟨V, eH, eW, hH, hW, hb, hg1, hg3, hs, h4⟩ := D
  intro r
  induction r with
  | nil =>
    intro l m ν o hl hlH hm s c29
    obtain ⟨t1, t2⟩ := mTryW (r14 := f_X9_hasNext_h14 m) V eH eW hH hW s h4 (by simp) (W - l) l m (by omega) (by omega)
    refine ⟨fun p' e => ?_, fun e => ?_⟩
    · cases c : fc (okW S b []) (W - l) l with
      | none => rw [nx_end c] at e; cases e
      | some h =>
        rw [nx_some c] at e
        cases e
        obtain ⟨-, c2, c3, -⟩ := fc_some c
        obtain ⟨n', a1, a2⟩ := t1 h c
        obtain ⟨ν', b1, b2, b3, b4, b5, b6⟩ := mStepW (r14 := f_X9_hasNext_h14 m) V eH eW hH hW s hg1 hg3 h4 (by simp) h (by omega) c3 n' (by omega)
        exact ⟨ν', a2.trans b1, b2, b3, b4, b5.trans c29, b6⟩
    · cases c : fc (okW S b []) (W - l) l with
      | some h => rw [nx_some c] at e; cases e
      | none =>
        obtain ⟨n', a2⟩ := t2 c
        refine ⟨ν, ?_, FM.rf ν⟩
        have c26 : ν.1 0 26 = nI 0 := s.2.2.2.1
        rw [a2]
        unfold f_X9_hasNext_b89
        rw [if_neg (nI_nlt (Nat.le_refl _) (by omega)), c26, if_pos (show nI 0 = 0 from rfl)]
  | cons x q ih =>
    intro l m ν o hl hlH hm s c29
    have lq : (x :: q).length = q.length + 1 := rfl
    have hx : x < W := o.2 x List.mem_cons_self
    have ol := o.1
    rw [lq] at ol
    obtain ⟨t1, t2⟩ := mTryW (r14 := f_X9_hasNext_h14 m) V eH eW hH hW s h4 (by omega) (W - l) l m (by omega) (by omega)
    cases c : fc (okW S b (x :: q)) (W - l) l with
    | some h =>
      rw [nx_some c]
      obtain ⟨c1, c2, c3, -⟩ := fc_some c
      have hlen : (x :: q).length < k := by
        rcases hl with h' | h'
        · exact h'
        · omega
      obtain ⟨n', a1, a2⟩ := t1 h c
      obtain ⟨ν', b1, b2, b3, b4, b5, b6⟩ := mStepW (r14 := f_X9_hasNext_h14 m) V eH eW hH hW s hg1 hg3 h4 (by omega) h (by omega) c3 n' (by omega)
      refine ⟨fun p' e => ?_, fun e => (by cases e)⟩
      cases e
      exact ⟨ν', a2.trans b1, b2, b3, b4, b5.trans c29, b6⟩
    | none =>
      rw [nx_pop c]
      obtain ⟨n', a2⟩ := t2 c
      obtain ⟨M, c27, c30, c26, rk, rs⟩ := s
      rw [lq] at c26
      obtain ⟨m7, e7⟩ : ∃ y, y = z_sI ν 0 26 (nI q.length) := ⟨_, rfl⟩
      obtain ⟨m8, e8⟩ : ∃ y, y = z_sI m7 0 29 0 := ⟨_, rfl⟩
      have g8 : ∀ k j, ¬ (k = 0 ∧ j = 26) → ¬ (k = 0 ∧ j = 29) → m8.1 k j = ν.1 k j := fun k j a b => by rw [e8, sI1, if_neg b, e7, sI1, if_neg a]
      have l8 : m8.2 = ν.2 := by rw [e8, e7]; rfl
      have fm : FM ν m8 := ⟨fun k j a => g8 k j (by unfold FMp at a; omega) (by unfold FMp at a; omega), fun _ _ => by rw [l8]⟩
      have s8 : HsW m8 S H W g k b t0 q := ⟨M.same (fun k j a => g8 k j (by unfold Fm at a; omega) (by unfold Fm at a; omega)), by rw [g8 0 27 (by omega) (by omega)]; exact c27, by rw [g8 0 30 (by omega) (by omega)]; exact c30, by rw [e8, sI1, if_neg (by omega), e7, sI1, if_pos ⟨rfl, rfl⟩], rk.1.same (fun r k j _ a => g8 k j (by unfold Rw at a; omega) (by unfold Rw at a; omega)) (fun j _ => g8 18 j (by omega) (by omega)), fun j hj => by
        have := rs (j + 1) (by rw [lq]; omega)
        rw [lq, Nat.add_sub_add_right, List.drop_succ_cons] at this
        rw [l8]; exact this⟩
      have t18 : m7.1 18 q.length = nI (x + 1) := by rw [e7, sI1f (by decide)]; exact rk.2.2
      obtain ⟨m', rfl⟩ : ∃ m', m = m' + 1 := ⟨m - 1, by omega⟩
      have red : f_X9_hasNext_h70 (f_X9_hasNext_h14 (m' + 1)) (m' + 1) (nI W) (nI l) ν = f_X9_hasNext_h70 (f_X9_hasNext_h14 m') m' (nI W) (nI (x + 1)) m8 := by
        rw [a2]
        unfold f_X9_hasNext_b89
        rw [if_neg (nI_nlt (Nat.le_refl _) (by omega)), c26, if_neg (show ¬ nI (q.length + 1) = 0 from nI_ne (b := 0) (by omega) (by omega) (by omega)), i_pred (by omega), Nat.add_sub_cancel, z_letE, ← e7]
        have d30 : m7.1 0 30 = 1 := by rw [e7, sI1, if_neg (by omega)]; exact c30
        have d8 : m7.1 0 9 = nI W := by rw [e7, sI1, if_neg (by omega)]; exact M.2.2.2.1
        have d26 : m7.1 0 26 = nI q.length := by rw [e7, sI1, if_pos ⟨rfl, rfl⟩]
        have d27 : m7.1 0 27 = nI k := by rw [e7, sI1, if_neg (by omega)]; exact c27
        have d29 : m7.1 0 29 = 0 := by rw [e7, sI1, if_neg (by omega)]; exact c29
        rw [f_X9_hasNext_h14, d30, ifn, d8]
        unfold f_X9_hasNext_b32 f_X9_hasNext_b64
        rw [d26, d27, if_neg (nI_ne (by omega) (by omega) (by omega)), d29, ifz, z_chkN (by omega) (by decide), z_ixN (by omega), t18, z_letE, ← e8]
      rw [red]
      have oq : okR W k q := ⟨by omega, fun y hy => o.2 y (List.mem_cons_of_mem _ hy)⟩
      obtain ⟨j1, j2⟩ := ih (x + 1) m' m8 oq (Or.inl (by omega)) (by omega) (by omega) s8 (by rw [e8, sI1, if_pos ⟨rfl, rfl⟩])
      refine ⟨fun p' e => ?_, fun e => ?_⟩
      · obtain ⟨ν', b1, b2, b3, b4, b5, b6⟩ := j1 p' e
        exact ⟨ν', b1, b2, b3, by rw [b4, g8 0 28 (by omega) (by omega)], b5, fm.tr b6⟩
      · obtain ⟨ν', b1, b2⟩ := j2 e
        exact ⟨ν', b1, fm.tr b2⟩
theorem mHNW {N : Nat} {S : zS} {H W g k b : Nat} {t0 : zT} {r : List Nat} {ν : z_M} (D : Md N S H W g 0 b t0) (hk : k ≤ 6) (o : okR W k r) (s : HsW ν S H W g k b t0 r) (c28 : ν.1 0 28 = 1) (c18 : ν.1 18 r.length = nI 0) (c29 : ν.1 0 29 = 0) (n : Nat) (hn : 100 ≤ n) :
    (∀ p', nx (okW S b) W r (lst W k r) = some p' → ∃ ν', f_X9_hasNext n ν = some (1, ν') ∧ HsW ν' S H W g k b t0 p' ∧ ν'.1 18 p'.length = nI 0 ∧ ν'.1 0 28 = 1 ∧ ν'.1 0 29 = 0 ∧ FM ν ν') ∧ (nx (okW S b) W r (lst W k r) = none → ∃ ν', f_X9_hasNext n ν = some (0, ν') ∧ FM ν ν') := by
  obtain ⟨m, rfl⟩ : ∃ m, n = m + 1 := ⟨n - 1, by omega⟩
  have D' := D
  obtain ⟨V, eH, eW, hH, hW, hb, hg1, hg3, hs, h4⟩ := D
  obtain ⟨M, c27, c30, c26, rk, rs⟩ := s
  have hpk := o.1
  obtain ⟨m8, e8⟩ : ∃ y, y = z_sI ν 0 29 0 := ⟨_, rfl⟩
  have g8 : ∀ k j, ¬ (k = 0 ∧ j = 29) → m8.1 k j = ν.1 k j := fun k j b => by rw [e8, sI1, if_neg b]
  have l8 : m8.2 = ν.2 := by rw [e8]; rfl
  have fm : FM ν m8 := ⟨fun k j a => g8 k j (by unfold FMp at a; omega), fun _ _ => by rw [l8]⟩
  have s8 : HsW m8 S H W g k b t0 r := ⟨M.same (fun k j a => g8 k j (by unfold Fm at a; omega)), by rw [g8 0 27 (by omega)]; exact c27, by rw [g8 0 30 (by omega)]; exact c30, by rw [g8 0 26 (by omega)]; exact c26, rk.same (fun r k j _ a => g8 k j (by unfold Rw at a; omega)) (fun j _ => g8 18 j (by omega)), fun j hj => by rw [l8]; exact rs j hj⟩
  have red : f_X9_hasNext (m + 1) ν = f_X9_hasNext_h70 (f_X9_hasNext_h14 m) m (nI W) (nI (lst W k r)) m8 := by
    unfold f_X9_hasNext
    rw [c28, ifn, f_X9_hasNext_h14, c30, ifn, M.2.2.2.1]
    unfold f_X9_hasNext_b32 f_X9_hasNext_b51 f_X9_hasNext_b64 lst
    rw [c26, c27, z_letE, z_letE, ← e8]
    by_cases a : r.length = k
    · rw [a, if_pos rfl, if_neg (by omega)]
    · rw [if_neg (nI_ne (by omega) (by omega) a), c29, ifz, z_chkN (by omega) (by decide), z_ixN (by omega), c18, if_pos (by omega)]
  have lk := lst_ok W k r
  have ll : lst W k r ≤ W := by
    unfold lst
    by_cases a : r.length < k
    · rw [if_pos a]; omega
    · rw [if_neg a]; exact Nat.le_refl _
  obtain ⟨j1, j2⟩ := mPopW D' hk r (lst W k r) m m8 o lk ll (by omega) s8 (by rw [e8, sI1, if_pos ⟨rfl, rfl⟩])
  rw [red]
  refine ⟨fun p' e => ?_, fun e => ?_⟩
  · obtain ⟨ν', b1, b2, b3, b4, b5, b6⟩ := j1 p' e
    exact ⟨ν', b1, b2, b3, by rw [b4, g8 0 28 (by omega)]; exact c28, b5, fm.tr b6⟩
  · obtain ⟨ν', b1, b2⟩ := j2 e
    exact ⟨ν', b1, fm.tr b2⟩
