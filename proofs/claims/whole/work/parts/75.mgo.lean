/-! the reference goes a step, and finds the next route -/
def GF (d : Nat) (ν ν' : z_M) : Prop := (∀ k j, ¬ Rw (d + 1) k j → ¬ (k = 18 ∧ j = d + 1) → ¬ (k = 0 ∧ j = 26) → ν'.1 k j = ν.1 k j) ∧ (∀ i, i ≠ d + 1 → ν'.2 17 i = ν.2 17 i) ∧ ∀ k, k ≠ 17 → ν'.2 k = ν.2 k
theorem mGo {S : zS} {d g h w : Nat} {many : Int32} {ν : z_M} {t : zT} (hs : ∀ x, x < 8 → ν.1 2 x = S 0 x ∧ ν.1 3 x = S 1 x ∧ ν.1 4 x = S 2 x) (w7 : ν.1 7 w = S 7 w) (hg : ν.1 0 23 = nI g) (hg1 : 1 ≤ g) (hg3 : g ≤ 3) (T : RowM ν d t) (hd : d < 7) (c26 : ν.1 0 26 = nI d) (hh : h < 8) (hw : w < 12) (hm : ¬ Int32.toInt64 many = 0) (n : Nat) (hn : 20 ≤ n) :
    ∃ ν', f_X9_goesTo_b50 n (nI h) (nI w) many ν = some ((), ν') ∧ RowM ν' (d + 1) (tW S g h w t) ∧ ν'.1 0 26 = nI (d + 1) ∧ ν'.1 18 (d + 1) = nI 0 ∧ ν'.2 17 (d + 1) = ν.2 17 d * (27720 / Int32.toInt64 many) ∧ GF d ν ν' := by
  obtain ⟨ν1, q1, q2, q3, q4⟩ := mCopies (a := d) (c := d + 1) (by omega) (by omega) (by omega) n hn ν
  have T1 : RowM ν1 (d + 1) t := T.copy q4
  have f1 : ∀ k j, ¬ Rw (d + 1) k j → ν1.1 k j = ν.1 k j := fun k j z => by
    unfold Rw at z
    rw [q4, if_neg (by omega), if_neg (by omega), if_neg (by omega)]
  have c1 : ν1.1 0 26 = nI d := by rw [f1 0 26 (by unfold Rw; omega)]; exact c26
  obtain ⟨m2, e2⟩ : ∃ x, x = z_sI ν1 0 26 (nI (d + 1)) := ⟨_, rfl⟩
  have T2 : RowM m2 (d + 1) t := T1.same (fun k j z => by rw [e2, sI1, if_neg (by unfold Rw at z; omega)])
  have hs2 := hs h hh
  obtain ⟨m3, r1, r2, r3, r4⟩ := mVisit (r := d + 1) (ν := m2) (S := S) (by rw [e2, sI1f (by decide), f1 2 h (by unfold Rw; omega)]; exact hs2.1) (by rw [e2, sI1f (by decide), f1 3 h (by unfold Rw; omega)]; exact hs2.2.1) (by rw [e2, sI1f (by decide), f1 4 h (by unfold Rw; omega)]; exact hs2.2.2) T2 (by omega) (by rw [e2, sI1, if_neg (by omega), f1 0 23 (by unfold Rw; omega)]; exact hg) hg1 hg3 hh
  have f3 : ∀ k j, ¬ Rw (d + 1) k j → m3.1 k j = m2.1 k j := fun k j z => by
    unfold Rw at z
    exact r3 k j (by omega) (by omega) (by omega)
  have c3 : m3.1 0 26 = nI (d + 1) := by rw [f3 0 26 (by unfold Rw; omega), e2, sI1, if_pos ⟨rfl, rfl⟩]
  have w3 : m3.1 7 w = S 7 w := by rw [f3 7 w (by unfold Rw; omega), e2, sI1f (by decide), f1 7 w (by unfold Rw; omega)]; exact w7
  have t3 : m3.1 15 (d + 1) = t 4 1 := r2.2.2.2.1
  obtain ⟨m4, e4⟩ : ∃ x, x = z_sI m3 15 (d + 1) (t 4 1 + S 7 w) := ⟨_, rfl⟩
  have c4 : m4.1 0 26 = nI (d + 1) := by rw [e4, sI1f (by decide)]; exact c3
  have l3 : ∀ k i, m3.2 k i = ν1.2 k i := fun k i => by rw [r4, e2]; rfl
  have l4 : ∀ k i, m4.2 k i = ν1.2 k i := fun k i => by rw [e4, sI2]; exact l3 k i
  obtain ⟨m5, e5⟩ : ∃ x, x = z_sL m4 17 (d + 1) (ν.2 17 d * (27720 / Int32.toInt64 many)) := ⟨_, rfl⟩
  have c5 : m5.1 0 26 = nI (d + 1) := by rw [e5, sL1]; exact c4
  obtain ⟨m6, e6⟩ : ∃ x, x = z_sI m5 18 (d + 1) 0 := ⟨_, rfl⟩
  refine ⟨m6, ?_, ?_, ?_, ?_, ?_, fun k j z1 z2 z3 => ?_, fun i hi => ?_, fun k hk => ?_⟩
  · unfold f_X9_goesTo_b50
    rw [c26, i_succ, q1, z_bindS]
    dsimp only
    rw [c1, i_succ, z_letE, ← e2]
    have cc : m2.1 0 26 = nI (d + 1) := by rw [e2, sI1, if_pos ⟨rfl, rfl⟩]
    rw [cc, r1, z_bindS]
    dsimp only
    rw [c3, z_chkN (by omega) (by decide), z_chkN hw (by decide), z_chkN (by omega) (by decide), z_ixN (by omega), z_ixN (by omega), w3, t3, z_letE, ← e4, c4, z_chkN (by omega) (by decide)]
    unfold z_nzl
    rw [if_neg hm, z_chkN (by omega) (by decide), z_ixN (by omega), z_letE]
    have v : m4.2 17 (d + 1) = ν.2 17 d := by rw [l4, q2, if_pos rfl]
    rw [v, ← e5, c5, z_chkN (by omega) (by decide), z_ixN (by omega), z_letE, ← e6]
  · have T4 : RowM m4 (d + 1) (tW S g h w t) := by
      obtain ⟨a1, ⟨m, a2, a3, a4⟩, a5, a6, a7⟩ := r2
      refine ⟨fun x hx => ?_, ⟨m, a2, ?_, fun i hi => ?_⟩, ?_, ?_, ?_⟩
      · rw [e4, sI1f (by decide), sI1f (by decide), sI1f (by decide)]; exact a1 x hx
      · rw [e4, sI1f (by decide)]; exact a3
      · rw [e4, sI1f (by decide)]; exact a4 i hi
      · rw [e4, sI1f (by decide)]; exact a5
      · rw [e4, sI1, if_pos ⟨rfl, rfl⟩]; rfl
      · rw [e4, sI1f (by decide)]; exact a7
    exact T4.same (fun k j z => by rw [e6, sI1, if_neg (by unfold Rw at z; omega), e5, sL1])
  · rw [e6, sI1f (by decide)]; exact c5
  · rw [e6, sI1, if_pos ⟨rfl, rfl⟩]; rfl
  · rw [e6, sI2, e5, sL2, if_pos ⟨rfl, rfl⟩]
  · rw [e6, sI1, if_neg z2, e5, sL1, e4, sI1, if_neg (by unfold Rw at z1; omega), f3 k j z1, e2, sI1, if_neg z3, f1 k j z1]
  · rw [e6, sI2, e5, sL2, if_neg (fun z => hi z.2), l4, q2, if_neg hi]
  · rw [e6, sI2, e5]
    funext y
    rw [sL2, if_neg (fun z => hk z.1), l4, q3 k hk]
theorem GF.FM {d : Nat} {ν ν' : z_M} (h : GF d ν ν') : FM ν ν' := by
  refine ⟨fun k j q => h.1 k j ?_ ?_ ?_, h.2.2⟩
  · unfold FMp at q; unfold Rw; omega
  · unfold FMp at q; omega
  · unfold FMp at q; omega
theorem GF.Fm {d : Nat} {ν ν' : z_M} (h : GF d ν ν') : ∀ k j, Fm k j → ν'.1 k j = ν.1 k j := h.FM.toF
/-- a search by houses, standing at route p -/
def Hs (ν : z_M) (S : zS) (H W g sh k b : Nat) (t0 : zT) (p : List Nat) : Prop := MSt ν S H W g sh ∧ ν.1 0 27 = nI k ∧ ν.1 0 30 = 0 ∧ ν.1 0 26 = nI p.length ∧ RK ν (tR S g (fun a c => sLk S sh a c W) b t0) p
theorem tR_at {S : zS} {L b : Nat} {lk : Nat → Nat → Nat} {t0 : zT} (h : t0 4 0 = nI b) (p : List Nat) : tR S L lk b t0 p 4 0 = nI (pl b p) := by
  cases p with
  | nil => exact h
  | cons x p => rfl
theorem mLeads {ν : z_M} {S : zS} {H W g sh k b : Nat} {t0 : zT} {p : List Nat} (s : Hs ν S H W g sh k b t0 p) (hW : W ≤ 12) (hs : sh < 2 ^ 31) (h4 : t0 4 0 = nI b) (hp : p.length < 9) (c : Nat) (n : Nat) (hn : 13 ≤ n) : f_X9_leadsTo n (nI c) ν = some (if sLk S sh (pl b p) c W = 0 then -1 else nI c, ν) := by
  obtain ⟨M, c27, c30, c26, rk⟩ := s
  have at' : ν.1 9 p.length = nI (pl b p) := rk.top.2.2.1.trans (tR_at h4 p)
  have le := sLk_le S sh (pl b p) c W
  unfold f_X9_leadsTo
  rw [c26, z_chkN hp (by decide), z_ixN (by omega), at', z_letE, c30, ifz, mBetween M hW hs n hn, z_bindS]
  simp only [n_m1 (show sLk S sh (pl b p) c W < 2 ^ 30 by omega)]
  by_cases z : sLk S sh (pl b p) c W = 0
  · rw [if_pos z, if_pos z]
  · rw [if_neg z, if_neg z]
theorem mTry {ν : z_M} {S : zS} {H W g sh k b : Nat} {t0 : zT} {p : List Nat} {r14 : z_M → Option (Int32 × z_M)} (s : Hs ν S H W g sh k b t0 p) (hH : H ≤ 8) (hW : W ≤ 12) (hs : sh < 2 ^ 31) (h4 : t0 4 0 = nI b) (hp : p.length < 9) : ∀ (d l n : Nat), l + d = H → d + 30 ≤ n →
    (∀ h, fc (okL S sh W b p) d l = some h → ∃ n', n ≤ n' + d ∧ f_X9_hasNext_h70 r14 n (nI H) (nI l) ν = f_X9_hasNext_b89 r14 n' (nI H) (nI h) ν) ∧ (fc (okL S sh W b p) d l = none → ∃ n', f_X9_hasNext_h70 r14 n (nI H) (nI l) ν = f_X9_hasNext_b89 r14 n' (nI H) (nI H) ν) := by
  intro d
  induction d with
  | zero =>
    intro l n e hn
    obtain ⟨m, rfl⟩ : ∃ m, n = m + 1 := ⟨n - 1, by omega⟩
    obtain rfl : l = H := by omega
    refine ⟨fun h q => (by cases q), fun _ => ⟨m, ?_⟩⟩
    rw [f_X9_hasNext_h70, if_neg (nI_nlt (Nat.le_refl _) (by omega))]
  | succ d ih =>
    intro l n e hn
    obtain ⟨m, rfl⟩ : ∃ m, n = m + 1 := ⟨n - 1, by omega⟩
    obtain ⟨i1, i2⟩ := ih (l + 1) m (by omega) (by omega)
    rw [f_X9_hasNext_h70, if_pos (nI_lt (by omega) (by omega)), mLeads s hW hs h4 hp l m (by omega), z_bindS, fc]
    by_cases c : sLk S sh (pl b p) l W = 0
    · rw [okL_f.2 c]
      simp only [if_pos c, if_pos (show (-1 : Int32) < 0 by decide), i_succ, Bool.false_eq_true, if_false]
      refine ⟨fun h q => ?_, i2⟩
      obtain ⟨n', a1, a2⟩ := i1 h q
      exact ⟨n', by omega, a2⟩
    · rw [okL_t.2 c]
      simp only [if_neg c, if_neg (nI_pos (show l < 2 ^ 31 by omega)), if_true]
      refine ⟨fun h q => ?_, fun q => (by cases q)⟩
      cases q
      exact ⟨m, by omega, rfl⟩
theorem RK.all {ν : z_M} {T : List Nat → zT} : ∀ {p : List Nat}, RK ν T p → True := fun _ => trivial
/-- one step by houses -/
theorem mStep {ν : z_M} {S : zS} {H W g sh k b : Nat} {t0 : zT} {p : List Nat} {r14 : z_M → Option (Int32 × z_M)} (s : Hs ν S H W g sh k b t0 p) (hH : H ≤ 8) (hW : W ≤ 12) (hg1 : 1 ≤ g) (hg3 : g ≤ 3) (hs : sh < 2 ^ 31) (h4 : t0 4 0 = nI b) (hp : p.length < 7) (h : Nat) (hh : h < H) (c : sLk S sh (pl b p) h W ≠ 0) (n : Nat) (hn : 20 ≤ n) :
    ∃ ν', f_X9_hasNext_b89 r14 n (nI H) (nI h) ν = some (1, ν') ∧ Hs ν' S H W g sh k b t0 (h :: p) ∧ ν'.1 18 (p.length + 1) = nI 0 ∧ ν'.1 0 28 = ν.1 0 28 ∧ ν'.1 0 29 = ν.1 0 29 ∧ FM ν ν' := by
  obtain ⟨m4, e4⟩ : ∃ x, x = z_sI ν 18 p.length (nI (h + 1)) := ⟨_, rfl⟩
  have le := sLk_le S sh (pl b p) h W
  obtain ⟨M, c27, c30, c26, rk⟩ := s
  have s4 : Hs m4 S H W g sh k b t0 p := ⟨M.same (fun k j q => by rw [e4, sI1, if_neg (by unfold Fm at q; omega)]), by rw [e4, sI1f (by decide)]; exact c27, by rw [e4, sI1f (by decide)]; exact c30, by rw [e4, sI1f (by decide)]; exact c26, rk.same (fun r k j _ q => by rw [e4, sI1, if_neg (by unfold Rw at q; omega)]) (fun j hj => by rw [e4, sI1, if_neg (by omega)])⟩
  obtain ⟨M4, c274, c304, c264, rk4⟩ := s4
  have at4 : m4.1 9 p.length = nI (pl b p) := rk4.top.2.2.1.trans (tR_at h4 p)
  obtain ⟨ν', q1, q2, q3, q4, -, q6⟩ := mGo (many := 1) (w := sLk S sh (pl b p) h W - 1) (h := h) M4.1 (M4.2.1 _ (by omega)).2.2.1 M4.2.2.2.2.1 hg1 hg3 rk4.top hp c264 (by omega) (by omega) (by decide) n hn
  refine ⟨ν', ?_, ⟨M4.same q6.Fm, ?_, ?_, q3, ?_⟩, q4, ?_, ?_, ?_⟩
  · unfold f_X9_hasNext_b89
    rw [if_pos (nI_lt hh (by omega)), c26, z_chkN (by omega) (by decide), z_ixN (by omega), z_letE, i_succ, ← e4, mLeads ⟨M4, c274, c304, c264, rk4⟩ hW hs h4 (by omega) h n (by omega), z_bindS, if_neg c]
    dsimp only
    unfold f_X9_goesTo f_X9_goesTo_b25
    rw [c304, ifz, c264, z_chkN (by omega) (by decide), z_ixN (by omega), at4, mBetween M4 hW hs n (by omega), z_bindS]
    dsimp only
    rw [c304, ifz, i_pred (by omega), q1, z_bindS]
  · rw [q6.1 0 27 (by unfold Rw; omega) (by omega) (by omega)]; exact c274
  · rw [q6.1 0 30 (by unfold Rw; omega) (by omega) (by omega)]; exact c304
  · refine ⟨rk4.same (fun r k j hr q => ?_) (fun j hj => ?_), q2, ?_⟩
    · exact q6.1 k j (by unfold Rw at q ⊢; omega) (by unfold Rw at q; omega) (by unfold Rw at q; omega)
    · exact q6.1 18 j (by unfold Rw; omega) (by omega) (by omega)
    · rw [q6.1 18 p.length (by unfold Rw; omega) (by omega) (by omega), e4, sI1, if_pos ⟨rfl, rfl⟩]
  · rw [q6.1 0 28 (by unfold Rw; omega) (by omega) (by omega), e4, sI1f (by decide)]
  · rw [q6.1 0 29 (by unfold Rw; omega) (by omega) (by omega), e4, sI1f (by decide)]
  · refine FM.tr ⟨fun k j q => ?_, fun _ _ => by rw [e4]; rfl⟩ q6.FM
    rw [e4, sI1, if_neg (by unfold FMp at q; omega)]
