/-! told routes -/
def hN (x : Int32) : Nat := x.toNatClampNeg
def sNx (S : zS) (sh W H cur : Nat) (x : Int32) : Prop := x = nI (hN x) ∧ hN x < H ∧ sLk S sh cur (hN x) W ≠ 0
noncomputable def toR (S : zS) (sh W H : Nat) (xs : Nat → Int32) : Nat → Nat → Nat → Int32
  | 0, _, _ => -1
  | d + 1, i, cur => @ite _ (sNx S sh W H cur (xs i)) (Classical.propDecidable _) (toR S sh W H xs d (i + 1) (hN (xs i))) (nI i)
noncomputable def toP (S : zS) (sh W H b : Nat) (xs : Nat → Int32) : Nat → Nat → List Nat → List Nat
  | 0, _, p => p
  | d + 1, i, p => @ite _ (sNx S sh W H (pl b p) (xs i)) (Classical.propDecidable _) (toP S sh W H b xs d (i + 1) (hN (xs i) :: p)) p
theorem toR_s (S : zS) (sh W H : Nat) (xs : Nat → Int32) (d i cur : Nat) : toR S sh W H xs (d + 1) i cur = @ite _ (sNx S sh W H cur (xs i)) (Classical.propDecidable _) (toR S sh W H xs d (i + 1) (hN (xs i))) (nI i) := rfl
theorem toP_s (S : zS) (sh W H b : Nat) (xs : Nat → Int32) (d i : Nat) (p : List Nat) : toP S sh W H b xs (d + 1) i p = @ite _ (sNx S sh W H (pl b p) (xs i)) (Classical.propDecidable _) (toP S sh W H b xs d (i + 1) (hN (xs i) :: p)) p := rfl
theorem toR_val {S : zS} {sh W H : Nat} {xs : Nat → Int32} : ∀ (d i cur : Nat), toR S sh W H xs d i cur = -1 ∨ ∃ j, j < i + d ∧ toR S sh W H xs d i cur = nI j := by
  intro d
  induction d with
  | zero => intro i cur; exact Or.inl rfl
  | succ d ih =>
    intro i cur
    rw [toR_s]
    by_cases c : sNx S sh W H cur (xs i)
    · rw [if_pos c]
      rcases ih (i + 1) (hN (xs i)) with h | ⟨j, h1, h2⟩
      · exact Or.inl h
      · exact Or.inr ⟨j, by omega, h2⟩
    · rw [if_neg c]; exact Or.inr ⟨i, by omega, rfl⟩
theorem toP_len {S : zS} {sh W H b : Nat} {xs : Nat → Int32} : ∀ (d i : Nat) (p : List Nat), i + d < 2 ^ 31 → toR S sh W H xs d i (pl b p) = -1 → (toP S sh W H b xs d i p).length = p.length + d := by
  intro d
  induction d with
  | zero => intro i p _ _; rfl
  | succ d ih =>
    intro i p hi e
    rw [toR_s] at e
    rw [toP_s]
    by_cases c : sNx S sh W H (pl b p) (xs i)
    · rw [if_pos c] at e ⊢
      rw [ih (i + 1) (hN (xs i) :: p) (by omega) e]; simp; omega
    · rw [if_neg c] at e
      rw [nI_em1 (by omega)] at e; exact e.elim
theorem cTold {N : Nat} {ν0 : z_M} {S : zS} {H W L b s t m k : Nat} {t0 : zT} (dd : Sd N S H W L b t0) (hs : s < 8) (hm : m ≤ 160) (hk : k ≤ m) (hk40 : k ≤ 40) : ∀ (d i n : Nat) (p : List Nat) (μ : z_M), i + d = k → p.length = i → d + 60 ≤ n → RowD μ ν0 s t m → Wk μ S H W L 0 b t0 p → ∃ μ', f_X8_walkTold_h2 n (nI s) (nI k) (nI i) μ = some (toR S 0 W H (fun j => Int64.toInt32 (ν0.2 22 (160 * s + j))) d i (pl b p), μ') ∧ Wk μ' S H W L 0 b t0 (toP S 0 W H b (fun j => Int64.toInt32 (ν0.2 22 (160 * s + j))) d i p) ∧ FW μ μ' := by
  have dd' := dd
  obtain ⟨V, eH, eW, hH, hW, eb, hb, hL1, hL3, h00, h01, h02⟩ := dd
  intro d
  induction d with
  | zero =>
    intro i n p μ e hp hn D w
    obtain ⟨l, rfl⟩ : ∃ l, n = l + 1 := ⟨n - 1, by omega⟩
    rw [f_X8_walkTold_h2, if_neg (nI_nlt (by omega) (by omega))]
    exact ⟨μ, rfl, w, FW.rf μ⟩
  | succ d ih =>
    intro i n p μ e hp hn D w
    obtain ⟨l, rfl⟩ : ∃ l, n = l + 1 := ⟨n - 1, by omega⟩
    rw [f_X8_walkTold_h2, if_pos (nI_lt (by omega) (by omega)), cInt hs hm D (by omega), z_bindS, toR_s, toP_s]
    have c3 : μ.1 1 3 = nI H := (w.1.2.2.2 0 (by omega)).trans eH
    have hpl : pl b p < H := w.2.2.2.2.lt hb
    dsimp only
    generalize hx : Int64.toInt32 (ν0.2 22 (160 * s + i)) = x
    by_cases c : sNx S 0 W H (pl b p) x
    · obtain ⟨c1, c2, c4⟩ := c
      obtain ⟨-, st⟩ := cStep' dd' w (by omega) l (by omega) (hN x) (by omega)
      obtain ⟨μ1, q1, q2, q3⟩ := st c4
      rw [← c1] at q1
      rw [q1, z_bindS, if_neg (show ¬ ((1 : Int32), μ1).1 = 0 from o10.mp), i_succ, if_pos ⟨c1, c2, c4⟩, if_pos ⟨c1, c2, c4⟩]
      have D1 : RowD μ1 ν0 s t m := D.same (q3.KC.KX) (KY.rf ν0)
      obtain ⟨μ2, r1, r2, r3⟩ := ih (i + 1) l (hN x :: p) μ1 (by omega) (by simp [hp]) (by omega) D1 q2
      exact ⟨μ2, r1, r2, q3.tr r3⟩
    · have st : f_X7_stepTo l x μ = some (0, μ) := by
        rcases n3 x (n := H) (by omega) with ⟨h, hh, rfl⟩ | h | ⟨h, h1, h2, rfl⟩
        · obtain ⟨st, -⟩ := cStep' dd' w (by omega) l (by omega) h (by omega)
          have e1 : hN (nI h) = h := nI_clamp (by omega)
          apply st
          apply Classical.byContradiction
          intro z
          exact c ⟨by rw [e1], by rw [e1]; exact hh, by rw [e1]; exact z⟩
        · have e1 : f_X6_isHouse 1 x μ = 0 := by unfold f_X6_isHouse; rw [if_pos h]
          unfold f_X7_stepTo f_X7_wayTaken f_X7_wayTaken_b26 f_X7_wayTaken_b27
          rw [e1]; simp only [if_true, ite_self, z_letE]
        · have e1 : f_X6_isHouse 1 (nI h) μ = 0 := by
            unfold f_X6_isHouse
            rw [c3, if_neg (nI_pos h2), if_neg (nI_nlt h1 h2)]
          unfold f_X7_stepTo f_X7_wayTaken f_X7_wayTaken_b26 f_X7_wayTaken_b27
          rw [e1]; simp only [if_true, ite_self, z_letE]
      rw [st, z_bindS, if_neg c, if_neg c]
      exact ⟨μ, rfl, w, FW.rf μ⟩
/-- frame of a walk in the reference's long row -/
def F7 (ν ν' : z_M) : Prop := (∀ k j, ¬ Rw 7 k j → ν'.1 k j = ν.1 k j) ∧ ∀ k, k ≠ 17 → ν'.2 k = ν.2 k
theorem F7.tr {a b c : z_M} (h : F7 a b) (k : F7 b c) : F7 a c := ⟨fun x y q => (k.1 x y q).trans (h.1 x y q), fun x q => (k.2 x q).trans (h.2 x q)⟩
theorem F7.KM {a b : z_M} (h : F7 a b) : KM a b := by
  refine ⟨fun k j q => h.1 k j ?_, h.2 22 (by decide)⟩
  unfold LM at q
  unfold Rw
  rcases q with ⟨q0, q⟩ | q | q | q | q | q | q | q | q | q | ⟨q, -⟩ | q <;> omega
theorem F7.toF {a b : z_M} (h : F7 a b) : ∀ k j, Fm k j → b.1 k j = a.1 k j := fun k j q => h.1 k j (by unfold Fm at q; unfold Rw; omega)
theorem mTold {S : zS} {H W g b s k : Nat} {t0 : zT} {xs : Nat → Int32} (hH : H ≤ 8) (hW : W ≤ 12) (hg1 : 1 ≤ g) (hg3 : g ≤ 3) (hb : b < H) (h4 : t0 4 0 = nI b) (hs : s < 8) (hk : k ≤ 160) : ∀ (d i n : Nat) (p : List Nat) (ν : z_M), i + d = k → d + 60 ≤ n → (∀ j, Int64.toInt32 (ν.2 22 (160 * s + j)) = xs j) → MSt ν S H W g 0 → pl b p < H → RowM ν 7 (tR S g (fun a c => sLk S 0 a c W) b t0 p) → ∃ ν', f_X9_goesRoute_h23 n (nI s) (nI k) (nI i) ν = some (toR S 0 W H xs d i (pl b p), ν') ∧ RowM ν' 7 (tR S g (fun a c => sLk S 0 a c W) b t0 (toP S 0 W H b xs d i p)) ∧ F7 ν ν' := by
  intro d
  induction d with
  | zero =>
    intro i n p ν e hn hx M hp T
    obtain ⟨l, rfl⟩ : ∃ l, n = l + 1 := ⟨n - 1, by omega⟩
    rw [f_X9_goesRoute_h23, if_neg (nI_nlt (by omega) (by omega))]
    exact ⟨ν, rfl, T, fun _ _ _ => rfl, fun _ _ => rfl⟩
  | succ d ih =>
    intro i n p ν e hn hx M hp T
    obtain ⟨l, rfl⟩ : ∃ l, n = l + 1 := ⟨n - 1, by omega⟩
    rw [f_X9_goesRoute_h23, if_pos (nI_lt (by omega) (by omega)), mInt hs (by omega), z_bindS, toR_s, toP_s]
    dsimp only
    rw [hx i]
    have at7 : ν.1 9 7 = nI (pl b p) := T.2.2.1.trans (tR_at h4 p)
    rcases n3 (xs i) (n := H) (by omega) with ⟨h, hh, ex⟩ | h | ⟨h, h1, h2, ex⟩
    · rw [ex]
      have e1 : hN (nI h) = h := nI_clamp (by omega)
      have eh : f_X9_isHouse (nI h) ν = 1 := by
        unfold f_X9_isHouse
        rw [M.2.2.1, if_neg (nI_pos (by omega)), if_pos (nI_lt hh (by omega))]
      have le := sLk_le S 0 (pl b p) h W
      rw [eh, ifn, show z_ix 7 = 7 from rfl, at7, mBetween M hW (by omega) l (by omega), z_bindS]
      dsimp only
      unfold f_X9_goesRoute_b62
      simp only [n_m1 (show sLk S 0 (pl b p) h W < 2 ^ 30 by omega)]
      by_cases z : sLk S 0 (pl b p) h W = 0
      · have nn : ¬ sNx S 0 W H (pl b p) (nI h) := fun q => by
          have := q.2.2; rw [e1] at this; exact this z
        rw [if_pos z, if_neg nn, if_neg nn]
        exact ⟨ν, rfl, T, fun _ _ _ => rfl, fun _ _ => rfl⟩
      · have yy : sNx S 0 W H (pl b p) (nI h) := ⟨by rw [e1], by rw [e1]; exact hh, by rw [e1]; exact z⟩
        rw [if_neg z, if_pos yy, if_pos yy, i_pred (by omega), z_chkN (by omega) (by decide), show z_chk 7 9 = z_chk (nI 7) 9 from rfl, z_chkN (by omega) (by decide), z_ixN (by omega), (M.2.1 _ (show sLk S 0 (pl b p) h W - 1 < 12 by omega)).2.2.1, show z_ix 7 = 7 from rfl, T.2.2.2.1]
        obtain ⟨m5, e5⟩ : ∃ y, y = z_sI ν 15 7 (tR S g (fun a c => sLk S 0 a c W) b t0 p 4 1 + S 7 (sLk S 0 (pl b p) h W - 1)) := ⟨_, rfl⟩
        rw [z_letE, ← e5]
        obtain ⟨u, hu⟩ : ∃ u : zT, u = fun a i => if a = 4 ∧ i = 1 then tR S g (fun a c => sLk S 0 a c W) b t0 p 4 1 + S 7 (sLk S 0 (pl b p) h W - 1) else tR S g (fun a c => sLk S 0 a c W) b t0 p a i := ⟨_, rfl⟩
        have T5 : RowM m5 7 u := by
          obtain ⟨a1, ⟨m, a2, a3, a4⟩, a5, a6, a7⟩ := T
          refine ⟨fun x hx => ?_, ⟨m, a2, ?_, fun i hi => ?_⟩, ?_, ?_, ?_⟩
          · rw [e5, sI1f (by decide), sI1f (by decide), sI1f (by decide), hu]; exact a1 x hx
          · rw [e5, sI1f (by decide)]; exact a3
          · rw [e5, sI1f (by decide), hu]; exact a4 i hi
          · rw [e5, sI1f (by decide), hu]; exact a5
          · rw [e5, sI1, if_pos ⟨rfl, rfl⟩, hu]; rfl
          · rw [e5, sI1f (by decide), hu]; exact a7
        have hs2 := M.1 h (by omega)
        obtain ⟨m6, r1, r2, r3, r4⟩ := mVisit (r := 7) (ν := m5) (S := S) (by rw [e5, sI1f (by decide)]; exact hs2.1) (by rw [e5, sI1f (by decide)]; exact hs2.2.1) (by rw [e5, sI1f (by decide)]; exact hs2.2.2) T5 (by omega) (by rw [e5, sI1, if_neg (by omega)]; exact M.2.2.2.2.1) hg1 hg3 (show h < 8 by omega)
        have f7 : F7 ν m6 := by
          refine ⟨fun k j z => ?_, fun k _ => by rw [r4, e5]; rfl⟩
          rw [r3 k j (by unfold Rw at z; omega) (by unfold Rw at z; omega) (by unfold Rw at z; omega), e5, sI1, if_neg (by unfold Rw at z; omega)]
        have T6 : RowM m6 7 (tR S g (fun a c => sLk S 0 a c W) b t0 (h :: p)) := by
          rw [hu] at r2
          obtain ⟨a1, ⟨m, a2, a3, a4⟩, a5, a6, a7⟩ := r2
          exact ⟨a1, ⟨m, a2, a3, a4⟩, a5, a6, a7⟩
        have r1' : f_X9_visits 7 (nI h) m5 = some ((), m6) := r1
        rw [r1', z_bindS, i_succ, e1]
        obtain ⟨ν', k1, k2, k3⟩ := ih (i + 1) l (h :: p) m6 (by omega) (by omega) (fun j => by rw [f7.2 22 (by decide)]; exact hx j) (M.same f7.toF) hh T6
        exact ⟨ν', k1, k2, f7.tr k3⟩
    · have eh : f_X9_isHouse (xs i) ν = 0 := by unfold f_X9_isHouse; rw [if_pos h]
      have nn : ¬ sNx S 0 W H (pl b p) (xs i) := fun q => by
        rw [q.1] at h; exact absurd h (nI_pos (by have := q.2.1; omega))
      rw [eh, if_pos rfl, if_neg nn, if_neg nn]
      unfold f_X9_goesRoute_b62
      rw [if_pos (show (-1 : Int32) < 0 by decide)]
      exact ⟨ν, rfl, T, fun _ _ _ => rfl, fun _ _ => rfl⟩
    · have eh : f_X9_isHouse (xs i) ν = 0 := by
        unfold f_X9_isHouse
        rw [M.2.2.1, ex, if_neg (nI_pos h2), if_neg (nI_nlt h1 h2)]
      have nn : ¬ sNx S 0 W H (pl b p) (xs i) := fun q => by
        have q2 := q.2.1
        rw [ex, show hN (nI h) = h from nI_clamp h2] at q2; omega
      rw [eh, if_pos rfl, if_neg nn, if_neg nn]
      unfold f_X9_goesRoute_b62
      rw [if_pos (show (-1 : Int32) < 0 by decide)]
      exact ⟨ν, rfl, T, fun _ _ _ => rfl, fun _ _ => rfl⟩
