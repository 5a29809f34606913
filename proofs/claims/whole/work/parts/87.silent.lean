/-! without some ways -/
theorem tR_sp {S : zS} {L : Nat} {lk : Nat → Nat → Nat} {b : Nat} {fr : Bool} {sp : Int32} : ∀ (p : List Nat) (a i : Nat), a < 4 → tR S L lk b (t00 S fr sp) p a i = tR S L lk b (t00 S fr 0) p a i := by
  intro p
  induction p with
  | nil =>
    intro a i ha
    show t00 S fr sp a i = t00 S fr 0 a i
    unfold t00
    rcases (show a = 0 ∨ a = 1 ∨ a = 2 ∨ a = 3 by omega) with rfl | rfl | rfl | rfl <;> rfl
  | cons h p ih =>
    intro a i ha
    unfold tR
    rcases (show a = 0 ∨ a = 1 ∨ a = 2 ∨ a = 3 by omega) with rfl | rfl | rfl | rfl
    · rw [tW0, tW0, ih 0 h (by omega), ih 3 _ (by omega), ih 0 i (by omega)]
    · rw [tW1, tW1, ih 1 h (by omega), ih 3 _ (by omega), ih 1 i (by omega)]
    · rw [tW2, tW2, ih 2 h (by omega), ih 2 i (by omega)]
    · cases i with
      | zero => rw [tW30, tW30, ih 3 _ (by omega), ih 0 h (by omega), ih 2 h (by omega)]
      | succ i => rw [tW3s, tW3s, ih 3 i (by omega)]
theorem hrN_sp {S : zS} {sh g W b : Nat} {fr : Bool} {sp : Int32} {i : Nat} {set : Int32} {p : List Nat} : hrN S sh g W b (t00 S fr sp) i set p ↔ hrN S sh g W b (t00 S fr 0) i set p := by
  unfold hrN
  rw [tR_sp p 1 i (by omega)]
/-- all routes, with some ways shut -/
noncomputable def rts (S : zS) (v W b k : Nat) : List (List Nat) := Classical.epsilon (fun l => Ch (okL S v W b) 8 k [] l ∧ l.length < 600000)
theorem rts_ok (S : zS) (v W b : Nat) {k : Nat} (hk : k ≤ 6) : Ch (okL S v W b) 8 k [] (rts S v W b k) ∧ (rts S v W b k).length < 600000 := Classical.epsilon_spec (p := fun l => Ch (okL S v W b) 8 k [] l ∧ l.length < 600000) (Ch_n hk)
def Sil (S : zS) (g W b k i : Nat) (set : Int32) (v : Nat) : Prop := ∀ q ∈ [] :: rts S v W b k, hrN S v g W b (t00 S false 0) i set q
theorem cSilL {N : Nat} {S : zS} {H W L sh b k i : Nat} {t0 : zT} {set : Int32} (dd : Sd N S H W L b t0) (hk : k ≤ 6) (hi : i < 8) : ∀ (l : List (List Nat)) (p : List Nat) (c n : Nat) (μ : z_M), Ch (okL S sh W b) 8 k p l → okR H k p → c + l.length < 1000000 → l.length + 220 ≤ n → Wk μ S H W L sh b t0 p → ∃ μ', KC μ μ' ∧ (((∀ q ∈ p :: l, hrN S sh L W b t0 i set q) ∧ f_X4_isSilentWithout_h14 n (nI i) set (nI k) 1 (nI c) μ = some (1, μ')) ∨ ((¬ ∀ q ∈ p :: l, hrN S sh L W b t0 i set q) ∧ f_X4_isSilentWithout_h14 n (nI i) set (nI k) 1 (nI c) μ = some (0, μ'))) := by
  intro l
  induction l with
  | nil =>
    intro p c n μ hc o hl hn w
    obtain ⟨m, rfl⟩ : ∃ m, n = m + 2 := ⟨n - 2, by omega⟩
    simp only [List.length_nil] at hl hn
    have A := cHN dd w hk o hi set (m + 1) (by omega)
    obtain ⟨-, b2⟩ := cBN dd w hk o.1 (m + 1) (by omega)
    obtain ⟨μ2, c1, c2, c3⟩ := b2 hc
    by_cases z : hrN S sh L W b t0 i set p
    · refine ⟨μ2, c3.KC, Or.inl ⟨fun q hq => ?_, ?_⟩⟩
      · rcases List.mem_cons.mp hq with rfl | hq
        · exact z
        · cases hq
      · rw [f_X4_isSilentWithout_h14, if_neg (show ¬ (1 : Int32) = 0 by decide), if_pos (show nI c < 1000000 from nI_lt (b := 1000000) (by omega) (by omega)), A.1 z, z_bindS, if_pos rfl, c1, z_bindS]
        rw [f_X4_isSilentWithout_h14, if_pos rfl]
    · refine ⟨μ, KC.rf μ, Or.inr ⟨fun q => z (q p (List.mem_cons_self ..)), ?_⟩⟩
      rw [f_X4_isSilentWithout_h14, if_neg (show ¬ (1 : Int32) = 0 by decide), if_pos (show nI c < 1000000 from nI_lt (b := 1000000) (by omega) (by omega)), A.2 z, z_bindS, if_neg (show ¬ (1 : Int32) = 0 by decide)]
  | cons p' l ih =>
    intro p c n μ hc o hl hn w
    obtain ⟨m, rfl⟩ : ∃ m, n = m + 1 := ⟨n - 1, by omega⟩
    simp only [List.length_cons] at hl hn
    have A := cHN dd w hk o hi set m (by omega)
    obtain ⟨b1, -⟩ := cBN dd w hk o.1 m (by omega)
    obtain ⟨hc1, hc2⟩ := hc
    obtain ⟨μ2, c1, c2, c3⟩ := b1 p' hc1
    have dd' := dd
    obtain ⟨V, eH, eW, hH, hW, eb, hb, -⟩ := dd
    have o' := nx_okH V eH eW hH hW hb o (lst_ok 8 k p) hc1
    by_cases z : hrN S sh L W b t0 i set p
    · obtain ⟨μ3, d1, d2⟩ := ih p' (c + 1) m μ2 hc2 o' (by omega) (by omega) c2
      refine ⟨μ3, c3.KC.tr d1, ?_⟩
      rw [f_X4_isSilentWithout_h14, if_neg (show ¬ (1 : Int32) = 0 by decide), if_pos (show nI c < 1000000 from nI_lt (b := 1000000) (by omega) (by omega)), A.1 z, z_bindS, if_pos rfl, c1, z_bindS, i_succ]
      rcases d2 with ⟨d2, d3⟩ | ⟨d2, d3⟩
      · exact Or.inl ⟨fun q hq => (by
          rcases List.mem_cons.mp hq with rfl | hq
          · exact z
          · exact d2 q hq), d3⟩
      · exact Or.inr ⟨fun y => d2 (fun q hq => y q (List.mem_cons_of_mem _ hq)), d3⟩
    · refine ⟨μ, KC.rf μ, Or.inr ⟨fun q => z (q p (List.mem_cons_self ..)), ?_⟩⟩
      rw [f_X4_isSilentWithout_h14, if_neg (show ¬ (1 : Int32) = 0 by decide), if_pos (show nI c < 1000000 from nI_lt (b := 1000000) (by omega) (by omega)), A.2 z, z_bindS, if_neg (show ¬ (1 : Int32) = 0 by decide)]
theorem cSil {N : Nat} {μ ν : z_M} {S : zS} {H W g b k i v : Nat} {set : Int32} (R : Rr N μ ν) (s1 : StC 1 μ S) (V : Vd N S) (eH : S 10 0 = nI H) (eW : S 10 1 = nI W) (eg : S 10 2 = nI g) (hH : H ≤ 8) (hW : W ≤ 12) (hg1 : 1 ≤ g) (hg3 : g ≤ 3) (hb1 : b < H) (hb2 : S 10 3 = nI b) (hk : k ≤ 6) (hi : i < 8) (hv : v < 2 ^ 31) (n : Nat) (hn : 610000 ≤ n) : ∃ μ', KC μ μ' ∧ ((Sil S g W b k i set v ∧ f_X4_isSilentWithout n (nI v) (nI i) set (nI k) μ = some (1, μ')) ∨ (¬ Sil S g W b k i set v ∧ f_X4_isSilentWithout n (nI v) (nI i) set (nI k) μ = some (0, μ'))) := by
  obtain ⟨μ0, q1, q2, q3, q4⟩ := cBegin' (sh := v) (b := b) (sp := 0) R s1 V eH eW eg hH hW hv n (by omega)
  have dd : Sd N S H W g b (t00 S false 0) := Sd.of V eH eW hH hW hb2 hb1 hg1 hg3
  obtain ⟨L1, L2⟩ := rts_ok S v W b hk
  obtain ⟨μ', u1, u2⟩ := cSilL (set := set) dd hk hi (rts S v W b k) [] 0 n μ0 L1 (okR_nil H k) (by omega) (by omega) q2
  refine ⟨μ', q3.tr u1, ?_⟩
  unfold f_X4_isSilentWithout
  rw [q1, z_bindS]
  exact u2
theorem mCanL {N : Nat} {S : zS} {H W g sh b k i : Nat} {t0 : zT} {set : Int32} (D : Md N S H W g sh b t0) (hk : k ≤ 6) (hi : i < 8) : ∀ (l : List (List Nat)) (p : List Nat) (n : Nat) (ν : z_M), Ch (okL S sh W b) 8 k p l → okR H k p → l.length + 120 ≤ n → Hs ν S H W g sh k b t0 p → ν.1 18 p.length = nI 0 → ν.1 0 28 = 1 → ν.1 0 29 = 0 → ∃ ν', KM ν ν' ∧ (((∀ q ∈ p :: l, hrN S sh g W b t0 i set q) ∧ (z_chk ((8 * (ν.1 0 26)) + nI i) 72 (if ((ν.1 12 (z_ix ((8 * (ν.1 0 26)) + nI i))) &&& set) = 0 then (f_X9_canHear_h6 n (nI i) set ν) else (some ((1 : Int32), ν)))) = some (0, ν')) ∨ ((¬ ∀ q ∈ p :: l, hrN S sh g W b t0 i set q) ∧ (z_chk ((8 * (ν.1 0 26)) + nI i) 72 (if ((ν.1 12 (z_ix ((8 * (ν.1 0 26)) + nI i))) &&& set) = 0 then (f_X9_canHear_h6 n (nI i) set ν) else (some ((1 : Int32), ν)))) = some (1, ν'))) := by
  intro l
  induction l with
  | nil =>
    intro p n ν hc o hn w c18 c28 c29
    have ol := o.1
    obtain ⟨m, rfl⟩ : ∃ m, n = m + 1 := ⟨n - 1, by omega⟩
    simp only [List.length_nil] at hn
    obtain ⟨-, b2⟩ := mHN D hk o w c28 c18 False ⟨fun q => q.elim, fun _ => c29⟩ m (by omega)
    have e : nx (okL S sh W b) 8 p (@ite _ (p.length = k ∨ False) (Classical.propDecidable _) 8 0) = none := by
      have hc' : nx (okL S sh W b) 8 p (lst 8 k p) = none := hc
      unfold lst at hc'
      by_cases z2 : p.length = k
      · rw [if_pos (Or.inl z2)]; rw [if_neg (by omega)] at hc'; exact hc'
      · rw [if_neg (fun x => x.elim z2 id)]; rw [if_pos (by omega)] at hc'; exact hc'
    obtain ⟨ν', c1, c2⟩ := b2 e
    simp only [w.2.2.2.1, i8_h]
    rw [z_chkN (by omega) (by decide), z_ixN (by omega), w.heard hi]
    by_cases z : hrN S sh g W b t0 i set p
    · refine ⟨ν', c2.KM, Or.inl ⟨fun q hq => ?_, ?_⟩⟩
      · rcases List.mem_cons.mp hq with rfl | hq
        · exact z
        · cases hq
      · rw [if_pos (show tR S g (fun a c => sLk S sh a c W) b t0 p 1 i &&& set = 0 by rw [Int32.and_comm]; exact z), f_X9_canHear_h6, c1, z_bindS, if_pos rfl]
    · refine ⟨ν, KM.rf ν, Or.inr ⟨fun q => z (q p (List.mem_cons_self ..)), ?_⟩⟩
      rw [if_neg (show ¬ tR S g (fun a c => sLk S sh a c W) b t0 p 1 i &&& set = 0 by rw [Int32.and_comm]; exact z)]
  | cons p' l ih =>
    intro p n ν hc o hn w c18 c28 c29
    have ol := o.1
    obtain ⟨m, rfl⟩ : ∃ m, n = m + 1 := ⟨n - 1, by omega⟩
    simp only [List.length_cons] at hn
    obtain ⟨b1, -⟩ := mHN D hk o w c28 c18 False ⟨fun q => q.elim, fun _ => c29⟩ m (by omega)
    obtain ⟨hc1, hc2⟩ := hc
    have e : nx (okL S sh W b) 8 p (@ite _ (p.length = k ∨ False) (Classical.propDecidable _) 8 0) = some p' := by
      unfold lst at hc1
      by_cases z2 : p.length = k
      · rw [if_pos (Or.inl z2)]; rw [if_neg (by omega)] at hc1; exact hc1
      · rw [if_neg (fun x => x.elim z2 id)]; rw [if_pos (by omega)] at hc1; exact hc1
    obtain ⟨ν', c1, c2, c3, c4, c5, c6⟩ := b1 p' e
    have D' := D
    obtain ⟨V, eH, eW, hH, hW, hb, hg1, hg3, hs, h4⟩ := D
    have o' := nx_okH V eH eW hH hW hb o (lst_ok 8 k p) hc1
    simp only [w.2.2.2.1, i8_h]
    rw [z_chkN (by omega) (by decide), z_ixN (by omega), w.heard hi]
    by_cases z : hrN S sh g W b t0 i set p
    · obtain ⟨ν3, d1, d2⟩ := ih p' m ν' hc2 o' (by omega) c2 c3 c4 c5
      refine ⟨ν3, c6.KM.tr d1, ?_⟩
      rw [if_pos (show tR S g (fun a c => sLk S sh a c W) b t0 p 1 i &&& set = 0 by rw [Int32.and_comm]; exact z), f_X9_canHear_h6, c1, z_bindS, if_neg (show ¬ (1 : Int32) = 0 by decide)]
      rcases d2 with ⟨d2, d3⟩ | ⟨d2, d3⟩
      · exact Or.inl ⟨fun q hq => (by
          rcases List.mem_cons.mp hq with rfl | hq
          · exact z
          · exact d2 q hq), d3⟩
      · exact Or.inr ⟨fun y => d2 (fun q hq => y q (List.mem_cons_of_mem _ hq)), d3⟩
    · refine ⟨ν, KM.rf ν, Or.inr ⟨fun q => z (q p (List.mem_cons_self ..)), ?_⟩⟩
      rw [if_neg (show ¬ tR S g (fun a c => sLk S sh a c W) b t0 p 1 i &&& set = 0 by rw [Int32.and_comm]; exact z)]
theorem mCan {N : Nat} {ν : z_M} {S : zS} {H W g b k i v : Nat} {set : Int32} (V : Vd N S) (eH : S 10 0 = nI H) (eW : S 10 1 = nI W) (hH : H ≤ 8) (hW : W ≤ 12) (hg1 : 1 ≤ g) (hg3 : g ≤ 3) (hb1 : b < H) (hb2 : S 10 3 = nI b) (hk : k ≤ 6) (hi : i < 8) (hv : v < 2 ^ 31) (M : MSt ν S H W g v) (T : RowM ν 0 (fun a i => if a = 0 then S 3 i else if a = 1 then ν.1 12 i else if a = 2 then S 4 i else if a = 3 then S 9 i else if i = 0 then S 10 3 else if i = 1 then ν.1 15 0 else ν.1 16 0)) (n : Nat) (hn : 610000 ≤ n) : ∃ ν', KM ν ν' ∧ ((Sil S g W b k i set v ∧ f_X9_canHear n (nI i) set (nI k) ν = some (0, ν')) ∨ (¬ Sil S g W b k i set v ∧ f_X9_canHear n (nI i) set (nI k) ν = some (1, ν'))) := by
  obtain ⟨m, rfl⟩ : ∃ m, n = m + 1 := ⟨n - 1, by omega⟩
  obtain ⟨ν1, ν2, d1, d2, d3, d4, d5, d6, d7, d8, d9⟩ := mStart (b := b) M T k (m + 1) (by omega)
  have D : Md N S H W g v b (t00 S false (ν.1 16 0)) := Md.of V eH eW hH hW hb2 hb1 hg1 hg3 hv
  obtain ⟨L1, L2⟩ := rts_ok S v W b hk
  obtain ⟨ν', u1, u2⟩ := mCanL (set := set) D hk hi (rts S v W b k) [] m ν2 L1 (okR_nil H k) (by omega) d3 d4 d5 d6
  refine ⟨ν', d7.tr u1, ?_⟩
  have sp : (∀ q ∈ [] :: rts S v W b k, hrN S v g W b (t00 S false (ν.1 16 0)) i set q) ↔ Sil S g W b k i set v :=
    ⟨fun h q hq => hrN_sp.1 (h q hq), fun h q hq => hrN_sp.2 (h q hq)⟩
  rw [sp] at u2
  unfold f_X9_canHear
  rw [d1, z_bindS]
  dsimp only
  rw [f_X9_canHear_h6, d2, z_bindS, if_neg (show ¬ (1 : Int32) = 0 by decide)]
  exact u2
