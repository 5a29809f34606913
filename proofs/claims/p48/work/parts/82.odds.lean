/-! the search: odds -/
theorem sOA_pos {S : zS} {sh : Nat} {h : Int32} : ∀ (n w : Nat), w < n → sO S sh w ∧ sOn S w h → 0 < sOA S sh h n := by
  intro n
  induction n with
  | zero => intro w hw; omega
  | succ n ih =>
    intro w hw c
    rw [sOA_s]
    by_cases z : w = n
    · subst z; rw [if_pos c]; omega
    · have := ih w (by omega) c; omega
theorem t64nz : ∀ n, n < 13 → 1 ≤ n → ¬ Int32.toInt64 (nI n) = 0 := by decide
/-- small counts as longs -/
def LI (n : Nat) : Int64 := Int32.toInt64 (nI n)
def pw : Nat → Int64
  | 0 => 1
  | d + 1 => 27720 * pw d
noncomputable def nC (S : zS) (x h : Nat) : Nat → Nat
  | 0 => 0
  | n + 1 => nC S x h n + @ite _ (sO S 0 n ∧ sOn S n (nI x) ∧ sOn S n (nI h)) (Classical.propDecidable _) 1 0
theorem nC_s (S : zS) (x h n : Nat) : nC S x h (n + 1) = nC S x h n + @ite _ (sO S 0 n ∧ sOn S n (nI x) ∧ sOn S n (nI h)) (Classical.propDecidable _) 1 0 := rfl
noncomputable def fac (S : zS) (W x h : Nat) : Int64 := if 0 < sOA S 0 (nI x) W then LI (nC S x h W) * (27720 / LI (sOA S 0 (nI x) W)) else 0
noncomputable def ow (S : zS) (W b : Nat) : List Nat → Int64
  | [] => 1
  | h :: p => ow S W b p * fac S W (pl b p) h
noncomputable def cC (S : zS) (g W b : Nat) (t0 : zT) (i : Nat) (set : Int32) (k : Nat) (p : List Nat) : Int64 := @ite _ ((p.length = k ∨ sOA S 0 (nI (pl b p)) W = 0) ∧ hrA S 0 g W b t0 i set p) (Classical.propDecidable _) (ow S W b p * pw (k - p.length)) 0
theorem cC_e (S : zS) (g W b : Nat) (t0 : zT) (i : Nat) (set : Int32) (k : Nat) (p : List Nat) : cC S g W b t0 i set k p = @ite _ ((p.length = k ∨ sOA S 0 (nI (pl b p)) W = 0) ∧ hrA S 0 g W b t0 i set p) (Classical.propDecidable _) (ow S W b p * pw (k - p.length)) 0 := rfl
theorem cBetween {W x h : Nat} {μ : z_M} {S : zS} (s1 : StC 1 μ S) (c4 : μ.1 1 4 = nI W) (hW : W ≤ 12) (n : Nat) (hn : 13 ≤ n) : f_X6_openWaysBetween 1 n (nI x) (nI h) μ = some (nI (nC S x h W), μ) := by
  have key : ∀ (d j n : Nat), j + d = 12 → d < n → f_X6_openWaysBetween_h5 1 n (nI x) (nI h) (nI (nC S x h (min j W))) (nI j) μ = some (nI (nC S x h W), μ) := by
    intro d
    induction d with
    | zero =>
      intro j n e hn
      obtain ⟨m, rfl⟩ : ∃ m, n = m + 1 := ⟨n - 1, by omega⟩
      obtain rfl : j = 12 := by omega
      rw [f_X6_openWaysBetween_h5, if_neg (by decide), show min 12 W = W by omega]
    | succ d ih =>
      intro j n e hn
      obtain ⟨m, rfl⟩ : ∃ m, n = m + 1 := ⟨n - 1, by omega⟩
      have k := ih (j + 1) m (by omega) (by omega)
      rw [f_X6_openWaysBetween_h5, if_pos (show nI j < 12 from nI_lt (b := 12) (by omega) (by omega)), cOpenAt s1 c4 hW (by omega), cOpenAt s1 c4 hW (by omega)]
      unfold f_X6_openWaysBetween_b35
      rw [i_succ, i_succ]
      by_cases c : j < W
      · rw [show min (j + 1) W = j + 1 by omega, nC_s] at k
        rw [show min j W = j by omega]
        by_cases o : sO S 0 j ∧ sOn S j (nI x)
        · rw [if_pos (⟨c, o.1, o.2⟩ : j < W ∧ sO S 0 j ∧ sOn S j (nI x)), ifn]
          by_cases o2 : sOn S j (nI h)
          · rw [if_pos (⟨c, o.1, o2⟩ : j < W ∧ sO S 0 j ∧ sOn S j (nI h)), ifn]
            rw [if_pos (⟨o.1, o.2, o2⟩ : sO S 0 j ∧ sOn S j (nI x) ∧ sOn S j (nI h))] at k
            exact k
          · rw [if_neg (fun q : j < W ∧ sO S 0 j ∧ sOn S j (nI h) => o2 q.2.2), ifz]
            rw [if_neg (fun q : sO S 0 j ∧ sOn S j (nI x) ∧ sOn S j (nI h) => o2 q.2.2)] at k
            exact k
        · rw [if_neg (fun q : j < W ∧ sO S 0 j ∧ sOn S j (nI x) => o q.2), ifz]
          rw [if_neg (fun q : sO S 0 j ∧ sOn S j (nI x) ∧ sOn S j (nI h) => o ⟨q.1, q.2.1⟩)] at k
          exact k
      · rw [show min (j + 1) W = min j W by omega] at k
        rw [if_neg (fun q : j < W ∧ sO S 0 j ∧ sOn S j (nI x) => c q.1), ifz]
        exact k
  have := key 12 0 n (by omega) (by omega)
  rw [show min 0 W = 0 by omega] at this
  exact this
theorem pl_place {μ : z_M} {S : zS} {H W L sh b : Nat} {t0 : zT} {p : List Nat} (w : Wk μ S H W L sh b t0 p) (eb : S 10 3 = nI b) (hp : p.length ≤ 6) {j : Nat} (hj : j ≤ p.length) : f_X7_placeAt (nI j - 1) μ = nI (pl b (p.drop (p.length - j))) := by
  unfold f_X7_placeAt
  cases j with
  | zero =>
    rw [if_pos (show nI 0 - 1 < 0 by decide), Nat.sub_zero, List.drop_length]
    exact (w.1.2.2.2 3 (by omega)).trans eb
  | succ j =>
    rw [i_pred (by omega), Nat.add_sub_cancel, if_neg (nI_pos (by omega)), g_getN (by omega) (by decide), w.2.2.2.2.c35 (by omega)]
    obtain ⟨x, e⟩ := drop_cons (show j < p.length by omega)
    unfold hsAt
    rw [e]; rfl
theorem cOddsW {μ : z_M} {S : zS} {H W L b k : Nat} {t0 : zT} {p : List Nat} (w : Wk μ S H W L 0 b t0 p) (eb : S 10 3 = nI b) (eW : S 10 1 = nI W) (hW : W ≤ 12) (hpk : p.length ≤ k) (hk : k ≤ 6) (n : Nat) (hn : 100 ≤ n) : f_X4_oddsOfWalk n (nI k) μ = some (ow S W b p * pw (k - p.length), μ) := by
  have c4 : μ.1 1 4 = nI W := (w.1.2.2.2 1 (by omega)).trans eW
  have tail : ∀ (d j n : Nat) (v : Int64), j + d = k → p.length ≤ j → d + 2 ≤ n → f_X4_oddsOfWalk_h5 n (nI k) v (nI j) μ = some (v * pw d, μ) := by
    intro d
    induction d with
    | zero =>
      intro j n v e hj hn
      obtain ⟨m, rfl⟩ : ∃ m, n = m + 1 := ⟨n - 1, by omega⟩
      rw [f_X4_oddsOfWalk_h5, if_neg (nI_nlt (by omega) (by omega))]
      show some (v, μ) = some (v * 1, μ)
      rw [Int64.mul_one]
    | succ d ih =>
      intro j n v e hj hn
      obtain ⟨m, rfl⟩ : ∃ m, n = m + 1 := ⟨n - 1, by omega⟩
      rw [f_X4_oddsOfWalk_h5, if_pos (nI_lt (by omega) (by omega))]
      unfold f_X7_visitsMade f_X4_oddsOfWalk_b95
      rw [w.2.2.1, if_neg (nI_nlt (by omega) (by omega)), z_letE, i_succ, ih (j + 1) m _ (by omega) (by omega) (by omega)]
      show some (v * 27720 * pw d, μ) = some (v * (27720 * pw d), μ)
      rw [Int64.mul_assoc]
  have key : ∀ (d j n : Nat), j + d = p.length → d + 50 ≤ n → f_X4_oddsOfWalk_h5 n (nI k) (ow S W b (p.drop (p.length - j))) (nI j) μ = some (ow S W b p * pw (k - p.length), μ) := by
    intro d
    induction d with
    | zero =>
      intro j n e hn
      obtain rfl : j = p.length := by omega
      rw [Nat.sub_self, List.drop_zero]
      exact tail (k - p.length) p.length n _ (by omega) (Nat.le_refl _) (by omega)
    | succ d ih =>
      intro j n e hn
      obtain ⟨m, rfl⟩ : ∃ m, n = m + 1 := ⟨n - 1, by omega⟩
      have k1 := ih (j + 1) m (by omega) (by omega)
      obtain ⟨x, ex⟩ := drop_cons (show j < p.length by omega)
      have hx : hsAt p j = x := by unfold hsAt; rw [ex]; rfl
      rw [ex] at k1
      have k1' : f_X4_oddsOfWalk_h5 m (nI k) (ow S W b (p.drop (p.length - j)) * fac S W (pl b (p.drop (p.length - j))) x) (nI (j + 1)) μ = some (ow S W b p * pw (k - p.length), μ) := k1
      rw [f_X4_oddsOfWalk_h5, if_pos (nI_lt (by omega) (by omega))]
      unfold f_X7_visitsMade f_X4_oddsOfWalk_b84 f_X4_oddsOfWalk_b95
      rw [w.2.2.1, if_pos (nI_lt (by omega) (by omega)), z_letE, pl_place w eb (by omega) (by omega), cOpenWaysAt w.1 c4 hW m (by omega), z_bindS]
      dsimp only
      have le := sOA_le S 0 (nI (pl b (p.drop (p.length - j)))) W
      unfold fac at k1'
      by_cases z : 0 < sOA S 0 (nI (pl b (p.drop (p.length - j)))) W
      · rw [if_pos z] at k1'
        rw [if_pos (show (0 : Int32) < nI (sOA S 0 (nI (pl b (p.drop (p.length - j)))) W) from nI_lt (a := 0) z (by omega))]
        have pa : f_X7_placeAt (nI j) μ = nI x := by
          unfold f_X7_placeAt
          rw [if_neg (nI_pos (by omega)), g_getN (by omega) (by decide), w.2.2.2.2.c35 (by omega), hx]
        rw [pa, cBetween w.1 c4 hW m (by omega), z_bindS]
        unfold z_nzl
        rw [if_neg (t64nz _ (by omega) (by omega)), z_letE, i_succ]
        exact k1'
      · rw [if_neg z] at k1'
        rw [if_neg (show ¬ (0 : Int32) < nI (sOA S 0 (nI (pl b (p.drop (p.length - j)))) W) from nI_nlt (b := sOA S 0 (nI (pl b (p.drop (p.length - j)))) W) (a := 0) (by omega) (by omega)), z_letE, i_succ]
        exact k1'
  have k0 := key p.length 0 n (by omega) (by omega)
  rw [Nat.sub_zero, List.drop_length] at k0
  exact k0
theorem cOdds {N : Nat} {S : zS} {H W L b k i : Nat} {t0 : zT} {set : Int32} (dd : Sd N S H W L b t0) (hk : k ≤ 6) (hi : i < 8) {l : List (List Nat)} (L1 : Ch (okL S 0 W b) 8 k [] l) (L2 : l.length < 600000) {μ : z_M} (w : Wk μ S H W L 0 b t0 []) : ∃ μ', f_X4_oddsToHear_h16 700000 (nI i) set (nI k) 0 1 0 μ = some (List.foldl (fun s p => s + cC S L W b t0 i set k p) 0 ([] :: l), μ') ∧ KC μ μ' := by
  obtain ⟨μ', u1, u2, -, -⟩ := cAll dd hk (fun n more c (s : Int64) m => f_X4_oddsToHear_h16 n (nI i) set (nI k) s more c m) (fun p s => s + cC S L W b t0 i set k p) id (fun _ _ _ => True) (fun _ _ _ _ _ _ => trivial) (fun n c s m _ => rfl) (fun n c p s m hn hc o w _ => by
    refine ⟨m, w, trivial, KC.rf m, ?_⟩
    have ol := o.1
    have eb : S 10 3 = nI b := dd.2.2.2.2.2.1
    have eW : S 10 1 = nI W := dd.2.2.1
    have hW : W ≤ 12 := dd.2.2.2.2.1
    have c4 : m.1 1 4 = nI W := (w.1.2.2.2 1 (by omega)).trans eW
    have le := sOA_le S 0 (nI (pl b p)) W
    have A := cHA dd w hk o hi set n (by omega)
    show f_X4_oddsToHear_h16 (n + 1) _ _ _ _ _ _ _ = _
    rw [f_X4_oddsToHear_h16, if_neg (show ¬ (1 : Int32) = 0 by decide), if_pos (show nI c < 1000000 from nI_lt (b := 1000000) hc (by omega))]
    unfold f_X7_visitsMade f_X4_oddsToHear_b56 f_X4_oddsToHear_b61 f_X4_oddsToHear_b87
    rw [w.2.2.1, cC_e]
    simp only [ifn, if_true, i_succ]
    have go : (p.length = k ∨ sOA S 0 (nI (pl b p)) W = 0) → z_bind (f_X4_hearsAll n (nI i) set m) (fun p3 => if p3.1 = 0 then z_bind (f_X7_becomeNext n (nI k) p3.2) (fun p2 => f_X4_oddsToHear_h16 n (nI i) set (nI k) s p2.1 (nI (c + 1)) p2.2) else z_bind (f_X4_oddsOfWalk n (nI k) p3.2) (fun p4 => z_let (s + p4.1) (fun x5 => z_bind (f_X7_becomeNext n (nI k) p4.2) (fun p2 => f_X4_oddsToHear_h16 n (nI i) set (nI k) x5 p2.1 (nI (c + 1)) p2.2)))) = z_bind (f_X7_becomeNext n (nI k) m) (fun r => f_X4_oddsToHear_h16 n (nI i) set (nI k) (s + @ite _ ((p.length = k ∨ sOA S 0 (nI (pl b p)) W = 0) ∧ hrA S 0 L W b t0 i set p) (Classical.propDecidable _) (ow S W b p * pw (k - p.length)) 0) r.1 (nI (c + 1)) r.2) := by
      intro e
      by_cases z : hrA S 0 L W b t0 i set p
      · rw [A.1 z, z_bindS]
        dsimp only
        rw [ifn, cOddsW w eb eW hW ol hk n (by omega), z_bindS, z_letE, if_pos ⟨e, z⟩]
      · rw [A.2 z, z_bindS]
        dsimp only
        rw [ifz, if_neg (fun q => z q.2), Int64.add_zero]
    by_cases z : p.length = k
    · rw [if_pos (show nI p.length = nI k by rw [z])]
      exact go (Or.inl z)
    · rw [if_neg (nI_ne (by omega) (by omega) z), cPlace w (by omega) eb, cOpenWaysAt w.1 c4 hW n (by omega), z_bindS]
      dsimp only
      by_cases y : sOA S 0 (nI (pl b p)) W = 0
      · rw [if_pos (show nI (sOA S 0 (nI (pl b p)) W) = 0 by rw [y]; rfl)]
        exact go (Or.inr y)
      · rw [if_neg (show ¬ nI (sOA S 0 (nI (pl b p)) W) = 0 from nI_ne (b := 0) (by omega) (by omega) y), if_neg (fun q => q.1.elim z y), Int64.add_zero]) l [] 0 0 700000 μ L1 (okR_nil H k) (by omega) (by omega) w trivial
  exact ⟨μ', u1, u2⟩
