/-! searches begin; what is in reach; the fewest visits -/
theorem cStart {N H W g b : Nat} {μ ν : z_M} {S : zS} {sp : Int32} (R : Rr N μ ν) (O : RSo N μ ν S H W g) (n : Nat) (hn : 20 ≤ n) : ∃ μ', f_X7_begin n μ = some ((), μ') ∧ Wk μ' S H W g 0 b (t00 S false sp) [] ∧ KC μ μ' ∧ (∀ k, k ≠ 31 → k ≠ 33 → k ≠ 39 → μ'.1 k = μ.1 k) := by
  obtain ⟨⟨s1, s2, V⟩, ⟨hH, hW, hg1, hg3⟩, ⟨eH, eW, eg⟩, ⟨c3, c4, c5, c6⟩, ⟨m8, m9, m10, mb, m23, m24⟩, hb⟩ := O
  obtain ⟨μ0, q1, q2, q3, q4⟩ := cBegin' (sh := 0) (b := b) (sp := sp) R s1 V eH eW eg hH hW (by omega) n hn
  refine ⟨μ0, ?_, q2, q3, q4⟩
  unfold f_X7_begin
  have q1' : f_X7_beginWithout n 0 μ = some ((), μ0) := q1
  rw [q1', z_bindS]
theorem mStart {ν : z_M} {S : zS} {H W g sh b : Nat} (M : MSt ν S H W g sh) (T : RowM ν 0 (fun a i => if a = 0 then S 3 i else if a = 1 then ν.1 12 i else if a = 2 then S 4 i else if a = 3 then S 9 i else if i = 0 then S 10 3 else if i = 1 then ν.1 15 0 else ν.1 16 0)) (k n : Nat) (hn : 30 ≤ n) : ∃ ν1 ν2, f_X9_beginsRoutes n (nI k) 0 ν = some ((), ν1) ∧ (∀ m, f_X9_hasNext m ν1 = some (1, ν2)) ∧ Hs ν2 S H W g sh k b (t00 S false (ν.1 16 0)) [] ∧ ν2.1 18 0 = nI 0 ∧ ν2.1 0 28 = 1 ∧ ν2.1 0 29 = 0 ∧ KM ν ν2 ∧ (∀ c i, c ≠ 12 → c ≠ 15 → c ≠ 18 → ¬ (c = 0 ∧ 26 ≤ i ∧ i ≤ 30) → ν2.1 c i = ν.1 c i) ∧ ∀ c, c ≠ 17 → ν2.2 c = ν.2 c := by
  obtain ⟨ν1, a1, a2, a3, a4⟩ := mBeginRoutes k 0 (Or.inl rfl) ν n (by omega)
  obtain ⟨ν2, e2⟩ : ∃ y, y = z_sI ν1 0 28 1 := ⟨_, rfl⟩
  have f : ∀ c i, c ≠ 12 → c ≠ 15 → c ≠ 18 → ¬ (c = 0 ∧ 26 ≤ i ∧ i ≤ 30) → ν2.1 c i = ν.1 c i := by
    intro c i h1 h2 h3 h4
    rw [e2, sI1, if_neg (by omega), a2, if_neg (by omega), if_neg (by omega), if_neg (by omega), if_neg (by omega), if_neg (by omega), if_neg (by omega), if_neg (by omega), if_neg (by omega)]
  have v : ∀ c i, ¬ (c = 0 ∧ i = 28) → ν2.1 c i = ν1.1 c i := fun c i h => by rw [e2, sI1, if_neg h]
  have h28 : ν1.1 0 28 = 0 := by
    rw [a2, if_neg (by omega), if_neg (by omega), if_neg (by omega), if_neg (by omega), if_neg (by omega), if_pos ⟨rfl, rfl⟩]
  have h29 : ν2.1 0 29 = 0 := by
    rw [v 0 29 (by omega), a2, if_neg (by omega), if_neg (by omega), if_neg (by omega), if_neg (by omega), if_pos ⟨rfl, rfl⟩]
  have h18 : ν2.1 18 0 = nI 0 := by
    rw [v 18 0 (by omega), a2, if_neg (by omega), if_neg (by omega), if_pos ⟨rfl, rfl⟩]; rfl
  have h27 : ν2.1 0 27 = nI k := by
    rw [v 0 27 (by omega), a2, if_neg (by omega), if_neg (by omega), if_neg (by omega), if_neg (by omega), if_neg (by omega), if_neg (by omega), if_pos ⟨rfl, rfl⟩]
  have h26 : ν2.1 0 26 = nI 0 := by
    rw [v 0 26 (by omega), a2, if_neg (by omega), if_neg (by omega), if_neg (by omega), if_neg (by omega), if_neg (by omega), if_neg (by omega), if_neg (by omega), if_pos ⟨rfl, rfl⟩]; rfl
  have h30 : ν2.1 0 30 = 0 := by
    rw [v 0 30 (by omega), a2, if_neg (by omega), if_neg (by omega), if_neg (by omega), if_pos ⟨rfl, rfl⟩]
  have h12 : ∀ i, i < 8 → ν2.1 12 i = 0 := fun i hi => by
    rw [v 12 i (by omega), a2, if_pos ⟨rfl, hi⟩]
  have h15 : ν2.1 15 0 = 0 := by
    rw [v 15 0 (by omega), a2, if_neg (by omega), if_pos ⟨rfl, rfl⟩]
  have l2 : ∀ c, c ≠ 17 → ν2.2 c = ν.2 c := fun c hc => by rw [e2]; exact a4 c hc
  refine ⟨ν1, ν2, a1, fun m => ?_, ⟨M.same (fun c i q => f c i (by unfold Fm at q; omega) (by unfold Fm at q; omega) (by unfold Fm at q; omega) (by unfold Fm at q; omega)), h27, h30, h26, ?_⟩, h18, by rw [e2, sI1, if_pos ⟨rfl, rfl⟩], h29, ⟨fun c i q => f c i (by unfold LM at q; omega) (by unfold LM at q; omega) (by unfold LM at q; omega) (by unfold LM at q; omega), l2 22 (by decide)⟩, f, l2⟩
  · unfold f_X9_hasNext
    rw [h28, if_pos rfl, z_letE, ← e2]
  · obtain ⟨t1, ⟨m, t2, t3, t4⟩, t5, t6, t7⟩ := T
    show RowM ν2 0 (t00 S false (ν.1 16 0))
    refine ⟨fun i hi => ⟨?_, ?_, ?_⟩, ⟨m, t2, ?_, fun i hi => ?_⟩, ?_, ?_, ?_⟩
    · rw [f 10 _ (by omega) (by omega) (by omega) (by omega)]; exact (t1 i hi).1
    · rw [h12 _ (by omega)]; rfl
    · rw [f 11 _ (by omega) (by omega) (by omega) (by omega)]; exact (t1 i hi).2.2
    · rw [f 14 _ (by omega) (by omega) (by omega) (by omega)]; exact t3
    · rw [f 13 _ (by omega) (by omega) (by omega) (by omega)]; exact t4 i hi
    · rw [f 9 _ (by omega) (by omega) (by omega) (by omega)]; exact t5
    · rw [h15]; rfl
    · rw [f 16 _ (by omega) (by omega) (by omega) (by omega)]; rfl
theorem Md.of {N : Nat} {S : zS} {H W g b sh : Nat} {sp : Int32} (V : Vd N S) (eH : S 10 0 = nI H) (eW : S 10 1 = nI W) (hH : H ≤ 8) (hW : W ≤ 12) (eb : S 10 3 = nI b) (hb : b < H) (h1 : 1 ≤ g) (h3 : g ≤ 3) (hs : sh < 2 ^ 31) : Md N S H W g sh b (t00 S false sp) := ⟨V, eH, eW, hH, hW, hb, h1, h3, hs, eb⟩
theorem Hs.heard {ν : z_M} {S : zS} {H W g sh k b : Nat} {t0 : zT} {p : List Nat} (s : Hs ν S H W g sh k b t0 p) {h : Nat} (hh : h < 8) : ν.1 12 (8 * p.length + h) = tR S g (fun a c => sLk S sh a c W) b t0 p 1 h := (s.2.2.2.2.top.1 h hh).2.1
theorem Ch_n {ok : List Nat → Nat → Bool} {k : Nat} (hk : k ≤ 6) : ∃ l, Ch ok 8 k [] l ∧ l.length < 600000 := by
  obtain ⟨l, h1, h2, -⟩ := Ch_all ok 8 k
  refine ⟨l, h1, ?_⟩
  have h3 : (8 + 1) ^ k ≤ 9 ^ 6 := Nat.pow_le_pow_right (by decide) hk
  have h4 : (9 : Nat) ^ 6 = 531441 := by decide
  omega
theorem okR_nil (H k : Nat) : okR H k [] := ⟨Nat.zero_le _, fun _ h => nomatch h⟩
noncomputable def stR (S : zS) (g W b : Nat) (t0 : zT) (i : Nat) (p : List Nat) (s : Int32) : Int32 := s ||| tR S g (fun a c => sLk S 0 a c W) b t0 p 1 i
/-- what is in reach -/
theorem ag_reach {N : Nat} {μ ν : z_M} (R : Rr N μ ν) (x y : Int32) : Ag N (fun n => f_X8_reach n x y μ) (fun n => f_X9_reach n x y ν) := by
  obtain ⟨S, H, W, g, O⟩ := R.1.op
  have O' := O
  obtain ⟨⟨s1, s2, V⟩, ⟨hH, hW, hg1, hg3⟩, ⟨eH, eW, eg⟩, ⟨c3, c4, c5, c6⟩, ⟨m8, m9, m10, mb, m23, m24⟩, hb⟩ := O
  unfold f_X8_reach f_X9_reach f_X8_troubleInThought f_X9_reach_b33
  have cs : f_X8_isSet 0 μ = 1 := rfl
  rw [show f_X8_isCount y 0 6 μ = f_X9_isIn y (nI 0) (nI 6) ν from rfl, show f_X9_isIn y 0 6 ν = f_X9_isIn y (nI 0) (nI 6) ν from rfl]
  rcases dH c3 m8 hH x with ⟨e1, e2⟩ | ⟨i, hi, rfl, e1, e2⟩
  · refine ⟨-1, _, _, ⟨0, ?_⟩, ⟨0, ?_⟩, R.refuse 1⟩
    · simp only [e1, if_true, z_letE, ne0_1, if_false, refC1]
    · simp only [e2, if_true, refM1, z_bindS]
  · rcases dIn ν y 0 6 (by omega) (by omega) with e3 | ⟨k, -, hk, rfl, e3⟩
    · refine ⟨-6, _, _, ⟨0, ?_⟩, ⟨0, ?_⟩, R.refuse 6⟩
      · simp only [e1, e3, cs, ifn, if_true, z_letE, ne0_6, if_false, refC6]
      · simp only [e2, e3, ifn, if_true, refM6, z_bindS, z_letE]
    · rcases hasBird c6 mb hH hb with ⟨b1, b2⟩ | ⟨b1, b2, b, hb1, hb2⟩
      · refine ⟨-6, _, _, ⟨0, ?_⟩, ⟨0, ?_⟩, R.refuse 6⟩
        · simp only [e1, e3, cs, ifn, if_true, z_letE, ne0_6, if_false, refC6, b1]
        · simp only [e2, e3, ifn, if_true, refM6, z_bindS, z_letE, show z_ix 0 = 0 from rfl, if_pos b2]
      · obtain ⟨μ0, a1, a2, a3, a4⟩ := cStart (b := b) (sp := ν.1 16 0) R O' 700000 (by omega)
        obtain ⟨ν1, ν2, d1, d2, d3, d4, d5, d6, d7, d8, d9⟩ := mStart (b := b) (MSt.of O') (row0 s2) k 700000 (by omega)
        obtain ⟨l, L1, L2⟩ := Ch_n (ok := okL S 0 W b) hk
        have dd : Sd N S H W g b (t00 S false (ν.1 16 0)) := Sd.of V eH eW hH hW hb2 hb1 hg1 hg3
        have hd : ∀ p : List Nat, okR H k p → p.length ≤ 40 := fun p o => by have := o.1; omega
        obtain ⟨μ', u1, u2, -, -⟩ := cAll dd hk (fun n more c s m => f_X4_wordsInReach_h15 n (nI i) (nI k) s more c m) (stR S g W b (t00 S false (ν.1 16 0)) i) id (fun _ _ _ => True) (fun _ _ _ _ _ _ => trivial) (fun n c s m _ => rfl) (fun n c p s m hn hc o w _ => by
          refine ⟨m, w, trivial, KC.rf m, ?_⟩
          show f_X4_wordsInReach_h15 (n + 1) _ _ _ _ _ _ = _
          rw [f_X4_wordsInReach_h15, if_neg (by decide), if_pos (show nI c < 1000000 from nI_lt (b := 1000000) hc (by omega)), cHeard w.2.2.2.2 hH (fun _ => rfl) w.2.2.1 (hd p o) (show i < 2 ^ 31 by omega) n (by have := o.1; omega), z_bindS, z_letE]
          rw [i_succ]; rfl) l [] 0 0 700000 μ0 L1 (okR_nil H k) (by omega) (by omega) a2 trivial
        obtain ⟨n', ν', v1, v2, v3, -⟩ := mAll (Md.of V eH eW hH hW hb2 hb1 hg1 hg3 (show 0 < 2 ^ 31 by omega) : Md N S H W g 0 b (t00 S false (ν.1 16 0))) hk (fun n s m => f_X9_reach_h48 n (nI i) s m) (fun n s p => z_chk ((8 * (p.1 0 26)) + nI i) 72 (z_let ((s ||| (p.1 12 (z_ix ((8 * (p.1 0 26)) + nI i)))) : Int32) (fun x5 => f_X9_reach_h48 n (nI i) x5 p))) (fun _ s m => some (s, m)) (stR S g W b (t00 S false (ν.1 16 0)) i) (fun _ _ => True) (fun _ => True) (fun _ _ => False) (fun _ _ _ _ _ => trivial) (fun n s m => rfl) (fun n p s m hn o _ w c29 _ => by
          refine ⟨m, w, trivial, rfl, rfl, fun z => z.elim, fun _ => c29, KM.rf m, ?_⟩
          have := o.1
          simp only [w.2.2.2.1, i8_h]
          rw [z_chkN (by omega) (by decide), z_ixN (by omega), w.heard (by omega), z_letE]; rfl) (fun _ _ _ _ _ _ _ _ => trivial) (fun _ _ _ _ z => z.elim) l.length l [] 0 699999 ν2 (Nat.le_refl _) L1 (okR_nil H k) trivial (by omega) d3 d4 d5 d6 trivial
        refine ⟨List.foldl (fun s p => stR S g W b (t00 S false (ν.1 16 0)) i p s) 0 ([] :: l), μ', ν', ⟨700000, ?_⟩, ⟨700000, ?_⟩, R.think (a3.tr u2) (d7.tr v3)⟩
        · unfold f_X4_wordsInReach
          simp only [e1, e3, cs, ifn, if_true, z_letE, b1, a1, z_bindS]
          have u1' : f_X4_wordsInReach_h15 700000 (nI i) (nI k) 0 1 0 μ0 = _ := u1
          rw [u1', z_bindS]; rfl
        · simp only [e2, e3, ifn, if_true, z_bindS, show z_ix 0 = 0 from rfl, if_neg b2, d1]
          rw [show f_X9_reach_h48 700000 = f_X9_reach_h48 (699999 + 1) from rfl, f_X9_reach_h48, d2, z_bindS, if_neg (show ¬ (1 : Int32) = 0 by decide)]
          exact v1
