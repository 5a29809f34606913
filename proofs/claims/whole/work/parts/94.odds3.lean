/-! odds -/
theorem mStartW {ν : z_M} {S : zS} {H W g b : Nat} (M : MSt ν S H W g 0) (T : RowM ν 0 (fun a i => if a = 0 then S 3 i else if a = 1 then ν.1 12 i else if a = 2 then S 4 i else if a = 3 then S 9 i else if i = 0 then S 10 3 else if i = 1 then ν.1 15 0 else ν.1 16 0)) (k n : Nat) (hn : 30 ≤ n) : ∃ ν1 ν2, f_X9_beginsRoutes n (nI k) 1 ν = some ((), ν1) ∧ (∀ m, f_X9_hasNext m ν1 = some (1, ν2)) ∧ HsW ν2 S H W g k b (t00 S false (ν.1 16 0)) [] ∧ ν2.1 18 0 = nI 0 ∧ ν2.1 0 28 = 1 ∧ ν2.1 0 29 = 0 ∧ KM ν ν2 := by
  obtain ⟨ν1, a1, a2, a3, a4⟩ := mBeginRoutes k 1 (Or.inr rfl) ν n (by omega)
  obtain ⟨ν2, e2⟩ : ∃ y, y = z_sI ν1 0 28 1 := ⟨_, rfl⟩
  have f : ∀ c i, c ≠ 12 → c ≠ 15 → c ≠ 18 → ¬ (c = 0 ∧ 26 ≤ i ∧ i ≤ 30) → ν2.1 c i = ν.1 c i := by
    intro c i h1 h2 h3 h4
    rw [e2, sI1, if_neg (by omega), a2, if_neg (by omega), if_neg (by omega), if_neg (by omega), if_neg (by omega), if_neg (by omega), if_neg (by omega), if_neg (by omega), if_neg (by omega)]
  have v : ∀ c i, ¬ (c = 0 ∧ i = 28) → ν2.1 c i = ν1.1 c i := fun c i h => by rw [e2, sI1, if_neg h]
  have h28 : ν1.1 0 28 = 0 := by
    rw [a2, if_neg (by omega), if_neg (by omega), if_neg (by omega), if_neg (by omega), if_neg (by omega), if_pos ⟨rfl, rfl⟩]
  have h29 : ν2.1 0 29 = 0 := by
    rw [v 0 29 (by omega), a2, if_neg (by omega), if_neg (by omega), if_neg (by omega), if_neg (by omega), if_pos ⟨rfl, rfl⟩]
  have h18 : ν2.1 18 0 = nI 0 := by
    rw [v 18 0 (by omega), a2, if_neg (by omega), if_neg (by omega), if_pos ⟨rfl, rfl⟩]; rfl
  have h27 : ν2.1 0 27 = nI k := by
    rw [v 0 27 (by omega), a2, if_neg (by omega), if_neg (by omega), if_neg (by omega), if_neg (by omega), if_neg (by omega), if_neg (by omega), if_pos ⟨rfl, rfl⟩]
  have h26 : ν2.1 0 26 = nI 0 := by
    rw [v 0 26 (by omega), a2, if_neg (by omega), if_neg (by omega), if_neg (by omega), if_neg (by omega), if_neg (by omega), if_neg (by omega), if_neg (by omega), if_pos ⟨rfl, rfl⟩]; rfl
  have h30 : ν2.1 0 30 = 1 := by
    rw [v 0 30 (by omega), a2, if_neg (by omega), if_neg (by omega), if_neg (by omega), if_pos ⟨rfl, rfl⟩]
  have h12 : ∀ i, i < 8 → ν2.1 12 i = 0 := fun i hi => by
    rw [v 12 i (by omega), a2, if_pos ⟨rfl, hi⟩]
  have h15 : ν2.1 15 0 = 0 := by
    rw [v 15 0 (by omega), a2, if_neg (by omega), if_pos ⟨rfl, rfl⟩]
  have l2 : ∀ c, c ≠ 17 → ν2.2 c = ν.2 c := fun c hc => by rw [e2]; exact a4 c hc
  refine ⟨ν1, ν2, a1, fun m => ?_, ⟨M.same (fun c i q => f c i (by unfold Fm at q; omega) (by unfold Fm at q; omega) (by unfold Fm at q; omega) (by unfold Fm at q; omega)), h27, h30, h26, ?_, fun j hj => ?_⟩, h18, by rw [e2, sI1, if_pos ⟨rfl, rfl⟩], h29, ⟨fun c i q => f c i (by unfold LM at q; omega) (by unfold LM at q; omega) (by unfold LM at q; omega) (by unfold LM at q; omega), l2 22 (by decide)⟩⟩
  · unfold f_X9_hasNext
    rw [h28, if_pos rfl, z_letE, ← e2]
  · obtain ⟨t1, ⟨m, t2, t3, t4⟩, t5, t6, t7⟩ := T
    show RowM ν2 0 (t00 S false (ν.1 16 0))
    refine ⟨fun i hi => ⟨?_, ?_, ?_⟩, ⟨m, t2, ?_, fun i hi => ?_⟩, ?_, ?_, ?_⟩
    · rw [f 10 _ (by omega) (by omega) (by omega) (by omega)]; exact (t1 i hi).1
    · rw [h12 _ (by omega)]; rfl
    · rw [f 11 _ (by omega) (by omega) (by omega) (by omega)]; exact (t1 i hi).2.2
    · rw [f 14 _ (by omega) (by omega) (by omega) (by omega)]; exact t3
    · rw [f 13 _ (by omega) (by omega) (by omega) (by omega)]; exact t4 i hi
    · rw [f 9 _ (by omega) (by omega) (by omega) (by omega)]; exact t5
    · rw [h15]; rfl
    · rw [f 16 _ (by omega) (by omega) (by omega) (by omega)]; rfl
  · have hj0 : j = 0 := Nat.le_zero.mp hj
    subst hj0
    show ν2.2 17 0 = 1
    rw [e2]; exact a3
theorem ag_odds {N : Nat} {μ ν : z_M} (R : Rr N μ ν) (x y z : Int32) : Ag N (fun n => f_X8_odds n x y z μ) (fun n => f_X9_odds n x y z ν) := by
  obtain ⟨S, H, W, g, O⟩ := R.1.op
  have O' := O
  obtain ⟨⟨s1, s2, V⟩, ⟨hH, hW, hg1, hg3⟩, ⟨eH, eW, eg⟩, ⟨c3, c4, c5, c6⟩, ⟨m8, m9, m10, mb, m23, m24⟩, hb⟩ := O
  unfold f_X8_odds f_X9_odds f_X8_troubleInThought f_X9_odds_b40
  rw [show f_X8_isCount z 1 4 μ = f_X9_isIn z (nI 1) (nI 4) ν from rfl, show f_X9_isIn z 1 4 ν = f_X9_isIn z (nI 1) (nI 4) ν from rfl]
  rcases dH c3 m8 hH x with ⟨e1, e2⟩ | ⟨i, hi, rfl, e1, e2⟩
  · refine ⟨Int32.toInt64 (-1), _, _, ⟨0, ?_⟩, ⟨0, ?_⟩, R.refuse 1⟩
    · simp only [e1, if_true, z_letE, ne0_1, if_false, refC1]
    · simp only [e2, if_true, refM1, z_bindS]
  have bad6 : ∀ {a c : Nat → Option (Int64 × z_M)}, (a 0 = some (Int32.toInt64 (-6), z_sI μ 49 6 (μ.1 49 6 + 1))) → (c 0 = some (Int32.toInt64 (-6), z_sI ν 1 6 (ν.1 1 6 + 1))) → Ag N a c := by
    intro a c h1 h2
    exact ⟨Int32.toInt64 (-6), _, _, ⟨0, h1⟩, ⟨0, h2⟩, R.refuse 6⟩
  rcases dSet μ ν y with ⟨f1, f2⟩ | ⟨v, hv, rfl, f1, f2⟩
  · exact bad6 (by simp only [e1, f1, ifn, if_true, z_letE, ne0_6, if_false, refC6]) (by simp only [e2, f2, ifn, if_true, refM6, z_bindS])
  rcases dIn ν z 1 4 (by omega) (by omega) with f3 | ⟨k, -, hk, rfl, f3⟩
  · exact bad6 (by simp only [e1, f1, f3, ifn, if_true, z_letE, ne0_6, if_false, refC6]) (by simp only [e2, f2, f3, ifn, if_true, refM6, z_bindS])
  rcases hasBird c6 mb hH hb with ⟨b1, b2⟩ | ⟨b1, b2, b, hb1, hb2⟩
  · exact bad6 (by simp only [e1, f1, f3, b1, ifn, if_true, z_letE, ne0_6, if_false, refC6]) (by simp only [e2, f2, f3, ifn, show z_ix 0 = 0 from rfl, if_pos b2, refM6, z_bindS])
  obtain ⟨μ0, a1, a2, a3, a4⟩ := cStart (b := b) (sp := ν.1 16 0) R O' 700000 (by omega)
  obtain ⟨ν1, ν2, d1, d2, d3, d4, d5, d6, d7⟩ := mStartW (b := b) (MSt.of O') (row0 s2) k 700000 (by omega)
  obtain ⟨l, L1, L2⟩ := Ch_n (ok := okL S 0 W b) (show k ≤ 6 by omega)
  have dd : Sd N S H W g b (t00 S false (ν.1 16 0)) := Sd.of V eH eW hH hW hb2 hb1 hg1 hg3
  obtain ⟨μ', u1, u2⟩ := cOdds (set := nI v) dd (show k ≤ 6 by omega) (show i < 8 by omega) L1 L2 a2
  obtain ⟨lw, M1, M2, -⟩ := Ch_all (okW S b) W k
  have M3 : lw.length < 600000 := by
    have h3 : (W + 1) ^ k ≤ 13 ^ k := Nat.pow_le_pow_left (by omega) k
    have h4 : 13 ^ k ≤ 13 ^ 4 := Nat.pow_le_pow_right (by decide) hk
    have h5 : (13 : Nat) ^ 4 = 28561 := by decide
    omega
  obtain ⟨ν', v1, v2⟩ := mOdds (set := nI v) (Md.of V eH eW hH hW hb2 hb1 hg1 hg3 (show 0 < 2 ^ 31 by omega) : Md N S H W g 0 b (t00 S false (ν.1 16 0))) (show k ≤ 6 by omega) (show i < 8 by omega) lw [] 0 699999 ν2 M1 (okR_nil W k) (by omega) d3 d4 d5 d6
  rw [ch_total L1, tot_eq V eH eW hH hW hb1] at u1
  rw [ch_total M1] at v1
  refine ⟨tot (okW S b) W (cM S g W b (t00 S false (ν.1 16 0)) i (nI v) k) k [], μ', ν', ⟨700000, ?_⟩, ⟨700000, ?_⟩, R.think (a3.tr u2) (d7.tr v2)⟩
  · unfold f_X4_oddsToHear
    simp only [e1, f1, f3, b1, ifn, if_true, z_letE, a1, z_bindS, u1]
  · simp only [e2, f2, f3, ifn, show z_ix 0 = 0 from rfl, if_neg b2, d1, z_bindS]
    rw [show f_X9_odds_h57 700000 = f_X9_odds_h57 (699999 + 1) from rfl, f_X9_odds_h57, d2, z_bindS, if_neg (show ¬ (1 : Int32) = 0 by decide)]
    exact v1
