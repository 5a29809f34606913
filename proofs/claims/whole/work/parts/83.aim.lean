/-! aim and round -/
theorem cQuick {N : Nat} {S : zS} {H W L b k : Nat} {t0 : zT} (dd : Sd N S H W L b t0) (hk : k ≤ 6) (bk : Nat) (hbk : bk < 2) (hr df set : Int32) {l : List (List Nat)} (L1 : Ch (okL S 0 W b) 8 k [] l) (L2 : l.length < 600000) {μ : z_M} (w : Wk μ S H W L 0 b t0 []) (q0 : μ.1 42 3 = 0) : ∃ μ', f_X4_quickest_h18 700000 hr df set (nI k) (nI bk) 1 0 μ = some ((), μ') ∧ KC μ μ' ∧ QC (tR S L (fun a c => sLk S 0 a c W) b t0) (List.foldl (fun o p => stQ S L W b t0 bk hr df set p o) none ([] :: l)) μ' ∧ StC 1 μ' S := by
  obtain ⟨μ', u1, u2, ⟨i', -, u3⟩, u4⟩ := cAll dd hk (fun n more c (_ : Option (List Nat)) m => f_X4_quickest_h18 n hr df set (nI k) (nI bk) more c m) (stQ S L W b t0 bk hr df set) (fun _ => ()) (fun i o μ => QC (tR S L (fun a c => sLk S 0 a c W) b t0) o μ ∧ ∃ c, c ≤ i ∧ μ.1 42 3 = nI c) (fun i o μ μ' f h => ⟨h.1.same (fun k hk => f.1 k (by omega) (by omega) (by omega) (by omega) (by omega)), by rw [f.1 42 (by omega) (by omega) (by omega) (by omega) (by omega)]; exact h.2⟩) (fun n c o m h => rfl) (fun n c p o m hn hc ok w h => by
    have ol := ok.1
    obtain ⟨q, c0, hc0, ec0⟩ := h
    have eb : S 10 3 = nI b := dd.2.2.2.2.2.1
    have hb := dd.2.2.2.2.2.2.1
    have hH := dd.2.2.2.1
    have A := cQuicker w (by omega) q
    have B := cIHB dd w hk ok hr df set n
    have pb : (f_X7_place m = f_X6_birdAt 1 m) = (pl b p = b) := by
      have hp : pl b p < 8 := Nat.lt_of_lt_of_le (pl_lt hb ok.2) hH
      rw [cPlace w (by omega) eb]
      show (nI (pl b p) = m.1 1 6) = _
      rw [show m.1 1 6 = nI b from (w.1.2.2.2 3 (by omega)).trans eb, nI_eqE (by omega) (by omega)]
    have stay : stQ S L W b t0 bk hr df set p o = o → ∃ μ1, Wk μ1 S H W L 0 b t0 p ∧ (QC (tR S L (fun a c => sLk S 0 a c W) b t0) (stQ S L W b t0 bk hr df set p o) μ1 ∧ ∃ c', c' ≤ c + 1 ∧ μ1.1 42 3 = nI c') ∧ KC m μ1 ∧ z_bind (f_X7_becomeNext n (nI k) m) (fun p3 => f_X4_quickest_h18 n hr df set (nI k) (nI bk) p3.1 (nI c + 1) p3.2) = z_bind (f_X7_becomeNext n (nI k) μ1) (fun r => f_X4_quickest_h18 n hr df set (nI k) (nI bk) r.1 (nI (c + 1)) r.2) := by
      intro e
      exact ⟨m, w, ⟨by rw [e]; exact q, c0, by omega, ec0⟩, KC.rf m, by rw [i_succ]⟩
    -- a route that may be better
    have go : (bk = 0 ∨ pl b p = b) → ∃ μ1, Wk μ1 S H W L 0 b t0 p ∧ (QC (tR S L (fun a c => sLk S 0 a c W) b t0) (stQ S L W b t0 bk hr df set p o) μ1 ∧ ∃ c', c' ≤ c + 1 ∧ μ1.1 42 3 = nI c') ∧ KC m μ1 ∧ f_X4_quickest_b57 (f_X4_quickest_h18 n) n hr df set (nI k) (nI bk) (nI c) 1 m = z_bind (f_X7_becomeNext n (nI k) μ1) (fun r => f_X4_quickest_h18 n hr df set (nI k) (nI bk) r.1 (nI (c + 1)) r.2) := by
      intro hE
      unfold f_X4_quickest_b57 f_X4_quickest_b95
      rw [ifn]
      by_cases z1 : bqT (tR S L (fun a c => sLk S 0 a c W) b t0) p o
      · rw [A.1 z1, ifn]
        by_cases z2 : HB S L W b t0 hr df set p 8
        · rw [(cIHB dd w hk ok hr df set n (by omega)).1 z2, z_bindS]
          dsimp only
          rw [ifn, z_letE]
          obtain ⟨m5, e5⟩ : ∃ y, y = z_sI m 42 3 (m.1 42 3 + 1) := ⟨_, rfl⟩
          rw [← e5]
          have f5 : FQ m m5 := by rw [e5]; exact (FQ.rf m).sI (by omega)
          obtain ⟨m6, k1, k2, k3, k4, k5, k6⟩ := cKeepR (w.FQ f5) (by omega) n (by omega)
          rw [k1, z_bindS]
          have e3 : m6.1 42 3 = nI (c0 + 1) := by
            rw [k3 3 (by omega) (by omega), e5, sI1, if_pos ⟨rfl, rfl⟩, ec0, i_succ]
          refine ⟨m6, (w.FQ f5).FQ k2, ⟨?_, c0 + 1, by omega, e3⟩, (f5.tr k2).KC, by rw [i_succ]⟩
          unfold stQ
          rw [if_pos (show _ ∧ _ from ⟨hE, z1, z2⟩)]
          exact ⟨by omega, by rw [e3]; exact nI_ne (b := 0) (by omega) (by omega) (by omega), k4, k5, k6⟩
        · rw [(cIHB dd w hk ok hr df set n (by omega)).2 z2, z_bindS]
          dsimp only
          rw [ifz]
          exact stay (by unfold stQ; exact if_neg (fun q => z2 q.2.2))
      · rw [A.2 z1, ifz]
        exact stay (by unfold stQ; exact if_neg (fun q => z1 q.2.1))
    show ∃ μ1, _ ∧ _ ∧ _ ∧ f_X4_quickest_h18 (n + 1) _ _ _ _ _ _ _ _ = _
    rw [f_X4_quickest_h18, if_neg (show ¬ (1 : Int32) = 0 by decide), if_pos (show nI c < 1000000 from nI_lt (b := 1000000) hc (by omega))]
    unfold f_X4_quickest_b52
    by_cases z : bk = 0
    · rw [if_pos (show nI bk = 0 by rw [z]; rfl)]
      exact go (Or.inl z)
    · rw [if_neg (show ¬ nI bk = 0 from nI_ne (b := 0) (by omega) (by omega) z)]
      by_cases z2 : pl b p = b
      · rw [if_pos (by rw [pb]; exact z2)]
        exact go (Or.inr z2)
      · rw [if_neg (by rw [pb]; exact z2)]
        unfold f_X4_quickest_b57 f_X4_quickest_b95
        rw [ifz]
        exact stay (by unfold stQ; exact if_neg (fun q => q.1.elim z z2))) l [] none 0 700000 μ L1 (okR_nil H k) (by omega) (by omega) w ⟨q0, 0, by omega, q0⟩
  exact ⟨μ', u1, u2, u3.1, u4⟩
/-- both tell the same of the best -/
theorem told_eq {T : List Nat → zT} {o : Option (List Nat)} {μ ν : z_M} (q : QC T o μ) (r : QM T o ν) (x : Int32) (hx : ¬ x < 0) : f_X9_toldOf x ν = some (f_X4_told x μ, ν) := by
  obtain ⟨j, hj, rfl⟩ := nI_of hx
  unfold f_X9_toldOf f_X4_told
  cases o with
  | none =>
    have q' : μ.1 42 3 = 0 := q
    have r' : ν.1 0 47 = -1 := r
    rw [if_pos q', r', if_pos (by decide)]
  | some p =>
    obtain ⟨h1, h2, h3, h4, h5⟩ := q
    obtain ⟨g1, g2, g3, g4⟩ := r
    rw [if_neg h2, g3, if_neg (nI_pos (by omega)), g2, h3, h4]
    by_cases z0 : nI j = 0
    · rw [if_pos z0, if_pos z0]
    · rw [if_neg z0, if_neg z0]
      by_cases z1 : nI j = 1
      · rw [if_pos z1, if_pos z1]
      · rw [if_neg z1, if_neg z1]
        have j2 : 2 ≤ j := by
          apply Classical.byContradiction
          intro c
          rcases (show j = 0 ∨ j = 1 by omega) with rfl | rfl
          · exact z0 rfl
          · exact z1 rfl
        have e2 : nI j - 2 = nI (j - 2) := nI_sub (b := 2) j2
        rw [if_neg (show ¬ nI j < 2 from nI_nlt (a := j) (b := 2) j2 (by omega)), e2]
        by_cases z2 : j - 2 < p.length
        · rw [if_pos (nI_lt z2 (by omega)), if_pos (nI_lt z2 (by omega)), z_chkN (by omega) (by decide), z_ixN (by omega), g_getN (by omega) (by decide), g4 _ z2, h5 _ z2]
        · rw [if_neg (nI_nlt (by omega) (by omega)), if_neg (nI_nlt (by omega) (by omega))]
theorem bit1_is : ∀ a, a < 8 → ∀ h, h < 8 → ((¬ (((1 : Int32) <<< (nI a &&& 31)) >>> (nI h &&& 31)) &&& 1 = 0) ↔ h = a) := by decide
theorem and_or_z {s a c : Int32} (h : s &&& (a ||| c) = 0) : s &&& a = 0 := by
  have e : s &&& a = (s &&& (a ||| c)) &&& a := by
    apply Int32.toBitVec_inj.1
    simp only [Int32.toBitVec_and, Int32.toBitVec_or]
    apply BitVec.eq_of_getLsbD_eq
    intro i hi
    simp only [BitVec.getLsbD_and, BitVec.getLsbD_or]
    cases s.toBitVec.getLsbD i <;> cases a.toBitVec.getLsbD i <;> cases c.toBitVec.getLsbD i <;> rfl
  rw [e, h]
  exact Int32.zero_and
theorem hrN_ext {S : zS} {sh g W b : Nat} {t0 : zT} {i : Nat} {set : Int32} : ∀ (es p : List Nat), hrN S sh g W b t0 i set (es ++ p) → hrN S sh g W b t0 i set p := by
  intro es
  induction es with
  | nil => intro p h; exact h
  | cons x es ih =>
    intro p h
    apply ih
    unfold hrN at h ⊢
    rw [List.cons_append] at h
    unfold tR at h
    rw [tW1] at h
    by_cases c : i = x
    · rw [if_pos c] at h
      rw [c]
      exact and_or_z h
    · rw [if_neg c] at h; exact h
theorem HB_aim {S : zS} {g W b : Nat} {t0 : zT} {a c : Nat} {set : Int32} {p : List Nat} (ha : a < 8) (hc : c < 8) : HB S g W b t0 ((1 : Int32) <<< (nI a &&& 31)) ((1 : Int32) <<< (nI c &&& 31)) set p 8 ↔ hrA S 0 g W b t0 a set p ∧ hrN S 0 g W b t0 c set p := by
  constructor
  · intro h
    exact ⟨(h a ha).1 ((bit1_is a ha a ha).2 rfl), (h c hc).2 ((bit1_is c hc c hc).2 rfl)⟩
  · rintro ⟨h1, h2⟩ h hh
    refine ⟨fun z => ?_, fun z => ?_⟩
    · rw [(bit1_is a ha h hh).1 z]; exact h1
    · rw [(bit1_is c hc h hh).1 z]; exact h2
theorem ag_aim {N : Nat} {μ ν : z_M} (R : Rr N μ ν) (x1 x2 x3 x4 x5 : Int32) : Ag N (fun n => f_X8_aim n x1 x2 x3 x4 x5 μ) (fun n => f_X9_aim n x1 x2 x3 x4 x5 ν) := by
  obtain ⟨S, H, W, g, O⟩ := R.1.op
  have O' := O
  obtain ⟨⟨s1, s2, V⟩, ⟨hH, hW, hg1, hg3⟩, ⟨eH, eW, eg⟩, ⟨c3, c4, c5, c6⟩, ⟨m8, m9, m10, mb, m23, m24⟩, hb⟩ := O
  unfold f_X8_aim f_X9_aim f_X8_troubleInSeeking f_X8_aim_b22 f_X9_aim_b16 f_X9_aim_b61
  rw [show f_X8_isCount x4 1 6 μ = f_X9_isIn x4 (nI 1) (nI 6) ν from rfl, show f_X9_isIn x4 1 6 ν = f_X9_isIn x4 (nI 1) (nI 6) ν from rfl]
  have bad1 : ∀ {a b : Nat → Option (Int32 × z_M)}, (a 0 = z_let (f_X8_refuseApart (-1) μ) (fun p1 => some (p1.1, p1.2))) → (b 0 = z_bind (f_X9_noTen (-1) ν) (fun p1 => some (p1.1, p1.2))) → Ag N a b := by
    intro a b h1 h2
    exact ⟨-1 - 10, _, _, ⟨0, by rw [h1, refA1, z_letE]⟩, ⟨0, by rw [h2, refN1, z_bindS]⟩, R.refuse 1⟩
  rcases dH c3 m8 hH x1 with ⟨e1, e2⟩ | ⟨i, hi, rfl, e1, e2⟩
  · exact bad1 (by simp only [e1, if_true]) (by simp only [e2, if_true])
  rcases dH c3 m8 hH x2 with ⟨e3, e4⟩ | ⟨j, hj, rfl, e3, e4⟩
  · exact bad1 (by simp only [e1, e3, if_true, ifn]) (by simp only [e2, e4, if_true, ifn])
  by_cases c5 : x5 < 0
  · refine ⟨-5 - 10, _, _, ⟨0, ?_⟩, ⟨0, ?_⟩, R.refuse 5⟩
    · simp only [e1, e3, ifn, if_pos c5, z_letE, ne0_5, if_false, refA5]
    · simp only [e2, e4, ifn, if_pos c5, refN5, z_bindS]
  have bad6 : ∀ {a b : Nat → Option (Int32 × z_M)}, (a 0 = some (-6 - 10, z_sI μ 49 6 (μ.1 49 6 + 1))) → (b 0 = some (-6 - 10, z_sI ν 1 6 (ν.1 1 6 + 1))) → Ag N a b := by
    intro a b h1 h2
    exact ⟨-6 - 10, _, _, ⟨0, h1⟩, ⟨0, h2⟩, R.refuse 6⟩
  rcases dSet μ ν x3 with ⟨f1, f2⟩ | ⟨v, hv, rfl, f1, f2⟩
  · exact bad6 (by simp only [e1, e3, ifn, if_neg c5, f1, if_true, z_letE, ne0_6, if_false, refA6]) (by simp only [e2, e4, ifn, if_neg c5, f2, if_true, refN6, z_bindS])
  rcases dIn ν x4 1 6 (by omega) (by omega) with f3 | ⟨k, -, hk, rfl, f3⟩
  · exact bad6 (by simp only [e1, e3, ifn, if_neg c5, f1, f3, if_true, z_letE, ne0_6, if_false, refA6]) (by simp only [e2, e4, ifn, if_neg c5, f2, f3, if_true, refN6, z_bindS])
  rcases hasBird c6 mb hH hb with ⟨b1, b2⟩ | ⟨b1, b2, b, hb1, hb2⟩
  · exact bad6 (by simp only [e1, e3, ifn, if_neg c5, f1, f3, b1, if_true, z_letE, ne0_6, if_false, refA6]) (by simp only [e2, e4, ifn, if_neg c5, f2, f3, show z_ix 0 = 0 from rfl, if_pos b2, refN6, z_bindS])
  obtain ⟨μ9, e9⟩ : ∃ y, y = z_sI μ 42 3 0 := ⟨_, rfl⟩
  obtain ⟨ν9, n9⟩ : ∃ y, y = z_sI ν 0 47 (-1) := ⟨_, rfl⟩
  have k9 : KC μ μ9 := by rw [e9]; exact (KC.rf μ).sI (by unfold LC; omega)
  have fx9 : FX ν ν9 := by rw [n9]; exact (FX.rf ν).sI (by omega)
  have R9 : Rr N μ9 ν := R.think k9 (KM.rf ν)
  have O9 : RSo N μ9 ν S H W g := by
    have h : ∀ q j, q ≠ 42 → μ9.1 q j = μ.1 q j := fun q j hq => by rw [e9, sI1f hq]
    exact ⟨⟨s1.same (fun j => h 3 j (by decide)) (fun j => h 5 j (by decide)) (fun j => h 7 j (by decide)) (fun j => h 1 j (by decide)), s2, V⟩, ⟨hH, hW, hg1, hg3⟩, ⟨eH, eW, eg⟩, ⟨by rw [h 1 3 (by decide)]; exact O'.2.2.2.1.1, by rw [h 1 4 (by decide)]; exact O'.2.2.2.1.2.1, by rw [h 1 5 (by decide)]; exact O'.2.2.2.1.2.2.1, by rw [h 1 6 (by decide)]; exact c6⟩, ⟨m8, m9, m10, mb, m23, m24⟩, hb⟩
  obtain ⟨μ0, a1, a2, a3, a4⟩ := cStart (b := b) (sp := ν9.1 16 0) R9 O9 700000 (by omega)
  have M9 : MSt ν9 S H W g 0 := (MSt.of O').same (fun k j q => fx9.1 k j (by unfold Fm at q; omega) (by unfold Fm at q; omega))
  have T9 : RowM ν9 0 (fun a i => if a = 0 then S 3 i else if a = 1 then ν9.1 12 i else if a = 2 then S 4 i else if a = 3 then S 9 i else if i = 0 then S 10 3 else if i = 1 then ν9.1 15 0 else ν9.1 16 0) := row0 (s2.same fx9.KM)
  obtain ⟨ν1, ν2, d1, d2, d3, d4, d5, d6, d7, d8, d9⟩ := mStart (b := b) M9 T9 k 700000 (by omega)
  obtain ⟨l, L1, L2⟩ := Ch_n (ok := okL S 0 W b) hk
  have dd : Sd N S H W g b (t00 S false (ν9.1 16 0)) := Sd.of V eH eW hH hW hb2 hb1 hg1 hg3
  obtain ⟨μ', u1, u2, u3, -⟩ := cQuick dd hk 0 (by omega) ((1 : Int32) <<< (nI i &&& 31)) ((1 : Int32) <<< (nI j &&& 31)) (nI v) L1 L2 a2 (by rw [a4 42 (by omega) (by omega) (by omega), e9, sI1, if_pos ⟨rfl, rfl⟩])
  have st1 : ∀ p o, stQ S g W b (t00 S false (ν9.1 16 0)) 0 ((1 : Int32) <<< (nI i &&& 31)) ((1 : Int32) <<< (nI j &&& 31)) (nI v) p o = @ite _ (bqT (tR S g (fun a c => sLk S 0 a c W) b (t00 S false (ν9.1 16 0))) p o ∧ hrA S 0 g W b (t00 S false (ν9.1 16 0)) i (nI v) p ∧ hrN S 0 g W b (t00 S false (ν9.1 16 0)) j (nI v) p) (Classical.propDecidable _) (some p) o := by
    intro p o
    unfold stQ
    by_cases z : bqT (tR S g (fun a c => sLk S 0 a c W) b (t00 S false (ν9.1 16 0))) p o ∧ hrA S 0 g W b (t00 S false (ν9.1 16 0)) i (nI v) p ∧ hrN S 0 g W b (t00 S false (ν9.1 16 0)) j (nI v) p
    · rw [if_pos z, if_pos ⟨Or.inl rfl, z.1, (HB_aim (by omega) (by omega)).2 z.2⟩]
    · rw [if_neg z, if_neg (fun q => z ⟨q.2.1, (HB_aim (by omega) (by omega)).1 q.2.2⟩)]
  obtain ⟨n', ν', v1, v2, v3, v4⟩ := mAll (Md.of V eH eW hH hW hb2 hb1 hg1 hg3 (show 0 < 2 ^ 31 by omega) : Md N S H W g 0 b (t00 S false (ν9.1 16 0))) hk (fun n (_ : Option (List Nat)) m => f_X9_aim_h80 n (nI i) (nI j) (nI v) x5 m) (fun n _ p => z_chk ((8 * (p.1 0 26)) + nI j) 72 (if ((p.1 12 (z_ix ((8 * (p.1 0 26)) + nI j))) &&& nI v) = 0 then (f_X9_aim_b112 (f_X9_aim_h80 n) n (nI i) (nI j) (nI v) x5 0 p) else (f_X9_aim_b112 (f_X9_aim_h80 n) n (nI i) (nI j) (nI v) x5 1 p))) (fun n _ p => z_bind (f_X9_toldOf x5 p) (fun p7 => some (p7.1, p7.2))) (stQ S g W b (t00 S false (ν9.1 16 0)) 0 ((1 : Int32) <<< (nI i &&& 31)) ((1 : Int32) <<< (nI j &&& 31)) (nI v)) (fun o m => QM (tR S g (fun a c => sLk S 0 a c W) b (t00 S false (ν9.1 16 0))) o m) (fun _ => True) (fun p _ => ¬ hrN S 0 g W b (t00 S false (ν9.1 16 0)) j (nI v) p) (fun o m m' f q => q.same ⟨f.1 0 46 (by unfold FMp; omega), f.1 0 47 (by unfold FMp; omega), fun j => f.1 25 j (by unfold FMp; omega)⟩) (fun n o m => rfl) (fun n p o m hn ok _ w c29 q => by
    have ol := ok.1
    have c26 := w.2.2.2.1
    simp only [c26, i8_h]
    rw [z_chkN (by omega) (by decide), z_ixN (by omega), w.heard (by omega)]
    unfold f_X9_aim_b112
    rw [z_boolE (Or.inl rfl), z_boolE (Or.inr rfl), z_letE, z_letE]
    by_cases z : hrN S 0 g W b (t00 S false (ν9.1 16 0)) j (nI v) p
    · rw [if_pos (show tR S g (fun a c => sLk S 0 a c W) b (t00 S false (ν9.1 16 0)) p 1 j &&& nI v = 0 by rw [Int32.and_comm]; exact z)]
      obtain ⟨m8, e8⟩ : ∃ y, y = z_sI m 0 29 0 := ⟨_, rfl⟩
      rw [← e8]
      have fx : FX m m8 := by rw [e8]; exact (FX.rf m).sI (by omega)
      have w8 := w.FX fx
      have q8 : QM (tR S g (fun a c => sLk S 0 a c W) b (t00 S false (ν9.1 16 0))) o m8 := q.same ⟨by rw [e8, sI1, if_neg (by omega)], by rw [e8, sI1, if_neg (by omega)], fun j => by rw [e8, sI1, if_neg (by omega)]⟩
      have e29 : m8.1 0 29 = 0 := by rw [e8, sI1, if_pos ⟨rfl, rfl⟩]
      have B := mBetter w8 (by omega) q8
      simp only [e29, if_true, w8.2.2.2.1, i8_h]
      rw [z_chkN (by omega) (by decide), z_ixN (by omega), w8.heard (by omega)]
      have stay : stQ S g W b (t00 S false (ν9.1 16 0)) 0 ((1 : Int32) <<< (nI i &&& 31)) ((1 : Int32) <<< (nI j &&& 31)) (nI v) p o = o → ∃ m1, Hs m1 S H W g 0 k b (t00 S false (ν9.1 16 0)) p ∧ QM (tR S g (fun a c => sLk S 0 a c W) b (t00 S false (ν9.1 16 0))) (stQ S g W b (t00 S false (ν9.1 16 0)) 0 ((1 : Int32) <<< (nI i &&& 31)) ((1 : Int32) <<< (nI j &&& 31)) (nI v) p o) m1 ∧ m1.1 18 p.length = m.1 18 p.length ∧ m1.1 0 28 = m.1 0 28 ∧ (¬ hrN S 0 g W b (t00 S false (ν9.1 16 0)) j (nI v) p → ¬ m1.1 0 29 = 0) ∧ (¬ ¬ hrN S 0 g W b (t00 S false (ν9.1 16 0)) j (nI v) p → m1.1 0 29 = 0) ∧ KM m m1 ∧ f_X9_aim_h80 n (nI i) (nI j) (nI v) x5 m8 = f_X9_aim_h80 n (nI i) (nI j) (nI v) x5 m1 := by
        intro e
        exact ⟨m8, w8, by rw [e]; exact q8, fx.c18 _, fx.c28, fun q => absurd z q, fun _ => e29, fx.KM, rfl⟩
      by_cases z1 : hrA S 0 g W b (t00 S false (ν9.1 16 0)) i (nI v) p
      · rw [if_pos (show nI v &&& (tR S g (fun a c => sLk S 0 a c W) b (t00 S false (ν9.1 16 0)) p 1 i ^^^ (-1)) = 0 from z1)]
        by_cases z2 : bqT (tR S g (fun a c => sLk S 0 a c W) b (t00 S false (ν9.1 16 0))) p o
        · rw [B.1 z2, z_bindS]
          dsimp only
          rw [ifn]
          obtain ⟨m9, k1, k2, k3, k4⟩ := mTake w8 hb2 (by omega) n (by omega)
          rw [k1, z_bindS]
          refine ⟨m9, w8.FX k2, by rw [st1, if_pos ⟨z2, z1, z⟩]; exact k4, (fx.tr k2).c18 _, (fx.tr k2).c28, fun q => absurd z q, fun _ => by rw [k3 29 (by omega) (by omega)]; exact e29, (fx.tr k2).KM, rfl⟩
        · rw [B.2 z2, z_bindS]
          dsimp only
          rw [ifz]
          exact stay (by rw [st1]; exact if_neg (fun q => z2 q.1))
      · rw [if_neg (show ¬ nI v &&& (tR S g (fun a c => sLk S 0 a c W) b (t00 S false (ν9.1 16 0)) p 1 i ^^^ (-1)) = 0 from z1)]
        exact stay (by rw [st1]; exact if_neg (fun q => z1 q.2.1))
    · rw [if_neg (show ¬ tR S g (fun a c => sLk S 0 a c W) b (t00 S false (ν9.1 16 0)) p 1 j &&& nI v = 0 by rw [Int32.and_comm]; exact z)]
      obtain ⟨m8, e8⟩ : ∃ y, y = z_sI m 0 29 1 := ⟨_, rfl⟩
      rw [← e8]
      have fx : FX m m8 := by rw [e8]; exact (FX.rf m).sI (by omega)
      have e29 : m8.1 0 29 = 1 := by rw [e8, sI1, if_pos ⟨rfl, rfl⟩]
      rw [e29, ifn]
      exact ⟨m8, w.FX fx, by rw [st1, if_neg (fun q => z q.2.2)]; exact q.same ⟨by rw [e8, sI1, if_neg (by omega)], by rw [e8, sI1, if_neg (by omega)], fun j => by rw [e8, sI1, if_neg (by omega)]⟩, fx.c18 _, fx.c28, fun _ => by rw [e29]; decide, fun q => absurd z q, fx.KM, rfl⟩) (fun _ _ _ _ _ _ _ _ => trivial) (fun p o h es z => by
    rw [st1 (h :: es ++ p)]
    exact if_neg (fun q => z (hrN_ext (h :: es) p q.2.2))) l.length l [] none 699999 ν2 (Nat.le_refl _) L1 (okR_nil H k) trivial (by omega) d3 d4 d5 d6 (by
      show ν2.1 0 47 = -1
      rw [d8 0 47 (by omega) (by omega) (by omega) (by omega), n9, sI1, if_pos ⟨rfl, rfl⟩])
  refine ⟨f_X4_told x5 μ', μ', ν', ⟨700000, ?_⟩, ⟨700000, ?_⟩, R.think ((k9.tr a3).tr u2) ((fx9.KM.tr d7).tr v3)⟩
  · unfold f_X4_quickest
    simp only [e1, e3, ifn, if_neg c5, f1, f3, b1, if_true, z_letE]
    rw [← e9, a1, z_bindS]
    have u1' : f_X4_quickest_h18 700000 ((1 : Int32) <<< (nI i &&& 31)) ((1 : Int32) <<< (nI j &&& 31)) (nI v) (nI k) 0 1 0 μ0 = some ((), μ') := u1
    rw [u1', z_bindS]
  · simp only [e2, e4, ifn, if_neg c5, f2, f3, show z_ix 0 = 0 from rfl, if_neg b2, z_letE]
    rw [← n9, d1, z_bindS]
    dsimp only
    rw [show f_X9_aim_h80 700000 = f_X9_aim_h80 (699999 + 1) from rfl, f_X9_aim_h80, d2, z_bindS, if_neg (show ¬ (1 : Int32) = 0 by decide)]
    refine v1.trans ?_
    show z_bind (f_X9_toldOf x5 ν') _ = _
    rw [told_eq u3 v4 x5 c5, z_bindS]
