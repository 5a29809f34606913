/-! the class: the street -/
def LX (k j : Nat) : Prop := (k = 0 ∧ (j = 9 ∨ j = 10)) ∨ k = 8 ∨ k = 10 ∨ k = 12 ∨ k = 14 ∨ k = 25 ∨ k = 27 ∨ (k = 28 ∧ j = 1) ∨ k = 30 ∨ (k = 41 ∧ j = 0) ∨ k = 49
def KX (μ μ' : z_M) : Prop := (∀ k j, LX k j → μ'.1 k j = μ.1 k j) ∧ μ'.2 = μ.2
theorem KX.rf (μ : z_M) : KX μ μ := ⟨fun _ _ _ => rfl, rfl⟩
theorem KX.tr {a b c : z_M} (h : KX a b) (k : KX b c) : KX a c := ⟨fun x y z => (k.1 x y z).trans (h.1 x y z), k.2.trans h.2⟩
theorem KX.sI {a b : z_M} (h : KX a b) {k j : Nat} {v : Int32} (hk : ¬ LX k j) : KX a (z_sI b k j v) := by
  refine ⟨fun x y z => ?_, h.2⟩
  rw [sI1, if_neg (fun e => hk (by rw [← e.1, ← e.2]; exact z))]
  exact h.1 x y z
theorem KX.clr {a b : z_M} (h : KX a b) {k n : Nat} (hk : ∀ j, ¬ LX k j) : KX a (g_clr k n b) := by
  refine ⟨fun x y z => ?_, h.2⟩
  show (if x = k ∧ y < n then 0 else b.1 x y) = _
  rw [if_neg (fun e => hk y (by rw [← e.1]; exact z))]
  exact h.1 x y z
theorem KC.KX {a b : z_M} (h : KC a b) : KX a b := ⟨fun k j q => h.1 k j (by unfold LX at q; unfold LC; rcases q with q | q | q | q | q | q | q | q | q | q | q <;> simp [q]), h.2⟩
theorem cAns0 {q h : Nat} {sp : Int32} {μ : z_M} {S : zS} (s1 : StC q μ S) (hh : h < 8) : f_X6_answerAfter q (nI h) sp 0 0 μ = s_ans S h sp (S 3 h) (S 4 h) := by
  rw [cAns s1 hh, or0, add0]
theorem z_or (a b : Nat) : nI a ||| nI b = nI (a ||| b) := by
  apply Int32.toBitVec_inj.1
  show BitVec.ofNat 32 a ||| BitVec.ofNat 32 b = BitVec.ofNat 32 (a ||| b)
  apply BitVec.eq_of_getLsbD_eq
  intro i hi
  simp [hi]
theorem z_and (a b : Nat) : nI a &&& nI b = nI (a &&& b) := by
  apply Int32.toBitVec_inj.1
  show BitVec.ofNat 32 a &&& BitVec.ofNat 32 b = BitVec.ofNat 32 (a &&& b)
  apply BitVec.eq_of_getLsbD_eq
  intro i hi
  simp [hi]
theorem zB_or {x y : Int32} (hx : zB x 256) (hy : zB y 256) : zB (x ||| y) 256 := by
  obtain ⟨a, ha, rfl⟩ := hx
  obtain ⟨b, hb, rfl⟩ := hy
  exact ⟨a ||| b, Nat.or_lt_two_pow (n := 8) ha hb, z_or a b⟩
theorem zB_255 (x : Int32) : zB (x &&& 255) 256 := pk_andE x 8 (by decide)
theorem z_255 {x : Int32} (hx : zB x 256) : x &&& 255 = x := by
  obtain ⟨a, ha, rfl⟩ := hx
  rw [pk_andN (by omega) 8 (by decide), Nat.mod_eq_of_lt ha]
theorem zB_and {x y : Int32} (hx : zB x 256) : zB (x &&& y) 256 := by
  rw [← z_255 hx, Int32.and_assoc, Int32.and_comm 255 y, ← Int32.and_assoc]
  exact zB_255 _
theorem zB_0 {n : Nat} (h : 0 < n) : zB 0 n := ⟨0, h, rfl⟩
theorem zB_ite {C : Prop} {hC : Decidable C} {x y : Int32} {n : Nat} (hx : zB x n) (hy : zB y n) : zB (@ite _ C hC x y) n := by
  by_cases c : C
  · rw [if_pos c]; exact hx
  · rw [if_neg c]; exact hy
theorem zB_shy {N : Nat} {S : zS} {h : Nat} {sp : Int32} (V : Vd N S) (hh : h < 8) : zB (s_shy S h sp) 256 := by
  have q := (V.2.2.2.2.1 h hh).2.1
  exact zB_ite q (zB_and q)
theorem zB_ans {N : Nat} {S : zS} {h : Nat} {sp kn vs : Int32} (V : Vd N S) (hh : h < 8) (h1 : zB sp 256) (h2 : zB kn 256) : zB (s_ans S h sp kn vs) 256 := by
  have q := (V.2.2.2.2.1 h hh).2.1
  unfold s_ans
  exact zB_ite (zB_0 (by omega)) (zB_ite (zB_or q h2) (zB_ite (zB_or (zB_or q h2) h1) (zB_ite (zB_shy V hh) (zB_ite (zB_255 _) (zB_ite (zB_ite (zB_0 (by omega)) q) q)))))
theorem Vd.H1 {N : Nat} {S : zS} (V : Vd N S) : ∀ h, h < 8 → zB (S 0 h) 7 ∧ zB (S 1 h) 256 ∧ zB (S 2 h) 256 ∧ zB (S 3 h) 256 ∧ zB (S 4 h) N := V.2.2.2.2.1
theorem Vd.B1 {N : Nat} {S : zS} (V : Vd N S) : ∀ i, i < 3 → zB (S 9 i) 256 := V.2.2.2.2.2.2.2
/-- another street: the same counts and ways, houses' facts still in their bounds -/
theorem Vd.mk' {N M : Nat} {S S' : zS} (V : Vd N S) (e0 : S' 10 0 = S 10 0) (e1 : S' 10 1 = S 10 1) (h3 : ∃ g, 1 ≤ g ∧ g ≤ 3 ∧ S' 10 2 = nI g) (h4 : S' 10 3 = -1 ∨ zB (S' 10 3) (sH S)) (h5 : ∀ h, h < 8 → zB (S' 0 h) 7 ∧ zB (S' 1 h) 256 ∧ zB (S' 2 h) 256 ∧ zB (S' 3 h) 256 ∧ zB (S' 4 h) M) (h6 : ∀ w, S' 5 w = S 5 w ∧ S' 6 w = S 6 w ∧ S' 7 w = S 7 w) (h7 : ∀ w, w < 12 → zB (S' 8 w) 2) (h8 : ∀ i, i < 3 → zB (S' 9 i) 256) : Vd M S' := by
  have d1 : sH S' = sH S := by unfold sH; rw [e0]
  have d2 : sW S' = sW S := by unfold sW; rw [e1]
  refine ⟨by rw [e0]; exact V.1, by rw [e1]; exact V.2.1, h3, by rw [d1]; exact h4, h5, fun x hx => ?_, h7, h8⟩
  rw [d2] at hx
  rw [(h6 x).1, (h6 x).2.1, (h6 x).2.2, d1]; exact V.2.2.2.2.2.1 x hx
theorem Vd.said {N : Nat} {S : zS} {x : Nat} {v : Int32} (V : Vd N S) (hv : zB v 256) : Vd N (sU S 1 x v) := by
  refine V.mk' rfl rfl V.2.2.1 V.2.2.2.1 (fun h hh => ?_) (fun w => ⟨rfl, rfl, rfl⟩) V.2.2.2.2.2.2.1 V.B1
  obtain ⟨a, b, c, d, e⟩ := V.H1 h hh
  refine ⟨a, ?_, c, d, e⟩
  rw [sUE]; exact zB_ite hv b
theorem Vd.shut {N : Nat} {S : zS} {x : Nat} {v : Int32} (V : Vd N S) (hv : zB v 2) : Vd N (sU S 8 x v) := by
  refine V.mk' rfl rfl V.2.2.1 V.2.2.2.1 V.H1 (fun w => ⟨rfl, rfl, rfl⟩) (fun w hw => ?_) V.B1
  rw [sUE]; exact zB_ite hv (V.2.2.2.2.2.2.1 w hw)
theorem Vd.clr {N : Nat} {S : zS} (V : Vd N S) : Vd N (sB0 S) := V.mk' rfl rfl V.2.2.1 V.2.2.2.1 V.H1 (fun w => ⟨rfl, rfl, rfl⟩) V.2.2.2.2.2.2.1 (fun i hi => zB_0 (by omega))
theorem Vd.lag {N g : Nat} {S : zS} (V : Vd N S) (h1 : 1 ≤ g) (h3 : g ≤ 3) : Vd N (sU S 10 2 (nI g)) := V.mk' rfl rfl ⟨g, h1, h3, rfl⟩ V.2.2.2.1 V.H1 (fun w => ⟨rfl, rfl, rfl⟩) V.2.2.2.2.2.2.1 V.B1
theorem Vd.bird {N : Nat} {S : zS} {v : Int32} (V : Vd N S) (h : zB v (sH S)) : Vd N (sU S 10 3 v) := V.mk' rfl rfl V.2.2.1 (Or.inr h) V.H1 (fun w => ⟨rfl, rfl, rfl⟩) V.2.2.2.2.2.2.1 V.B1
theorem Vd.gone {N : Nat} {S : zS} {v : Int32} (V : Vd N S) : Vd N (sU S 10 4 v) := V.mk' rfl rfl V.2.2.1 V.2.2.2.1 V.H1 (fun w => ⟨rfl, rfl, rfl⟩) V.2.2.2.2.2.2.1 V.B1
theorem Vd.visit {N g h : Nat} {S : zS} (V : Vd N S) (h1 : 1 ≤ g) (h3 : g ≤ 3) (hh : h < sH S) (h8 : h < 8) : Vd (N + 1) (sV S g h) := by
  have b := V.B1 (g - 1) (by omega)
  refine V.mk' rfl rfl V.2.2.1 (Or.inr ⟨h, hh, rfl⟩) (fun x hx => ?_) (fun w => ⟨rfl, rfl, rfl⟩) V.2.2.2.2.2.2.1 (fun i hi => ?_)
  · obtain ⟨a1, a2, a3, a4, a5⟩ := V.H1 x hx
    refine ⟨a1, a2, a3, ?_, ?_⟩
    · show zB (if 3 = 3 ∧ x = h then _ else if 3 = 4 ∧ x = h then _ else if 3 = 9 then _ else _) 256
      by_cases e : x = h
      · subst e; rw [if_pos ⟨rfl, rfl⟩]; exact zB_or a4 b
      · rw [if_neg (fun q => e q.2), if_neg (by omega), if_neg (by omega), if_neg (by omega), if_neg (by omega)]; exact a4
    · show zB (if 4 = 3 ∧ x = h then _ else if 4 = 4 ∧ x = h then _ else if 4 = 9 then _ else _) (N + 1)
      by_cases e : x = h
      · subst e; rw [if_neg (by omega), if_pos ⟨rfl, rfl⟩]
        obtain ⟨j, hj, e5⟩ := a5
        exact ⟨j + 1, by omega, by rw [e5, i_succ]⟩
      · rw [if_neg (by omega), if_neg (fun q => e q.2), if_neg (by omega), if_neg (by omega), if_neg (by omega)]; exact a5.mono (by omega)
  · show zB (if 9 = 3 ∧ i = h then _ else if 9 = 4 ∧ i = h then _ else if 9 = 9 then _ else _) 256
    rw [if_neg (by omega), if_neg (by omega), if_pos rfl]
    obtain ⟨a1, a2, a3, a4, a5⟩ := V.H1 h h8
    by_cases e : i = 0
    · rw [if_pos e]; exact zB_ans V h8 b a4
    · rw [if_neg e]; exact V.B1 (i - 1) (by omega)
theorem LX.ne {k j : Nat} (z : LX k j) : k ≠ 1 ∧ k ≠ 3 ∧ k ≠ 5 ∧ k ≠ 7 := by
  unfold LX at z
  rcases z with ⟨z, -⟩ | z | z | z | z | z | z | ⟨z, -⟩ | z | ⟨z, -⟩ | z <;> omega
theorem ifn {α : Type} {a b : α} : (if (1 : Int32) = 0 then a else b) = b := if_neg o10.mp
theorem ifz {α : Type} {a b : α} : (if (0 : Int32) = 0 then a else b) = a := if_pos rfl
/-- a house more -/
def sAH (S : zS) (H : Nat) (k s a : Int32) : zS := sU (sU (sU (sU (sU (sU S 0 H k) 1 H s) 2 H a) 3 H 0) 4 H 0) 10 0 (nI (H + 1))
theorem Vd.addHouse {N H : Nat} {S : zS} {k s a : Int32} (V : Vd N S) (hN : 0 < N) (hH : H < 8) (e : S 10 0 = nI H) (hk : zB k 7) (hs : zB s 256) (ha : zB a 256) : Vd N (sAH S H k s a) := by
  have d0 : sH S = H := sH_of e (by omega)
  have d1 : sH (sAH S H k s a) = H + 1 := sH_of rfl (by omega)
  have d2 : sW (sAH S H k s a) = sW S := rfl
  obtain ⟨h1, h2, h3, h4, h5, h6, h7, h8⟩ := V
  rw [d0] at h4
  refine ⟨⟨H + 1, by omega, rfl⟩, h2, h3, ?_, fun x hx => ?_, fun x hx => ?_, h7, h8⟩
  · rw [d1]
    rcases h4 with h | h
    · exact Or.inl h
    · exact Or.inr (h.mono (by omega))
  · obtain ⟨b0, b1, b2, b3, b4⟩ := h5 x hx
    by_cases ex : x = H
    · subst ex
      refine ⟨?_, ?_, ?_, ?_, ?_⟩ <;> simp only [sAH, sUE] <;> simp [hk, hs, ha, zB_0, hN]
    · refine ⟨?_, ?_, ?_, ?_, ?_⟩ <;> simp only [sAH, sUE] <;> simp [ex, b0, b1, b2, b3, b4]
  · rw [d2] at hx
    obtain ⟨b0, b1, b2, b3⟩ := h6 x hx
    rw [d1]
    rw [d0] at b0 b1
    exact ⟨b0.mono (by omega), b1.mono (by omega), b2, b3⟩
theorem cAddHouse {q H : Nat} {μ : z_M} {S : zS} {k s a : Int32} (s1 : StC q μ S) (hH : H < 8) (e : S 10 0 = nI H) : ∃ μ', f_X6_addHouse q k s a μ = (nI H, μ') ∧ StC q μ' (sAH S H k s a) ∧ (∀ k, k ≠ q → k ≠ q + 2 → μ'.1 k = μ.1 k) ∧ μ'.2 = μ.2 := by
  have e3 : μ.1 q 3 = nI H := (s1.2.2.2 0 (by omega)).trans e
  unfold f_X6_addHouse
  simp only [z_letE, e3, cP0 hH, cP1 hH, cP2 hH, cP3 hH, cP4 hH]
  have t := ((((s1.setH (k := 0) (v := k) (by omega) hH).setH (k := 1) (v := s) (by omega) hH).setH (k := 2) (v := a) (by omega) hH).setH (k := 3) (v := 0) (by omega) hH).setH (k := 4) (v := 0) (by omega) hH
  have r : (z_sI (z_sI (z_sI (z_sI (z_sI μ (q + 2) (5 * H + 0) k) (q + 2) (5 * H + 1) s) (q + 2) (5 * H + 2) a) (q + 2) (5 * H + 3) 0) (q + 2) (5 * H + 4) 0).1 q 3 = nI H := (t.2.2.2 0 (by omega)).trans (by simp only [sUE]; simpa using e)
  rw [r, i_succ]
  refine ⟨_, rfl, t.setN (x := 0) (by omega), fun y h1 h2 => ?_, rfl⟩
  rw [sI1f h1, sI1f h2, sI1f h2, sI1f h2, sI1f h2, sI1f h2]
/-- a way more -/
def sAW (S : zS) (W : Nat) (a b m : Int32) : zS := sU (sU (sU (sU (sU S 5 W a) 6 W b) 7 W m) 8 W 0) 10 1 (nI (W + 1))
theorem Vd.addWay {N H W : Nat} {S : zS} {a b m : Int32} (V : Vd N S) (hH : sH S = H) (hW : W < 12) (e : S 10 1 = nI W) (ha : zB a H) (hb : zB b H) (hne : a ≠ b) (hm : zB m 61) : Vd N (sAW S W a b m) := by
  have d0 : sW S = W := sW_of e (by omega)
  have d1 : sW (sAW S W a b m) = W + 1 := sW_of rfl (by omega)
  have d2 : sH (sAW S W a b m) = sH S := rfl
  obtain ⟨h1, h2, h3, h4, h5, h6, h7, h8⟩ := V
  refine ⟨h1, ⟨W + 1, by omega, rfl⟩, h3, h4, h5, fun x hx => ?_, fun x hx => ?_, h8⟩
  · rw [d1] at hx
    rw [d2, hH]
    by_cases ex : x = W
    · subst ex
      refine ⟨?_, ?_, ?_, ?_⟩ <;> simp only [sAW, sUE] <;> simp [ha, hb, hne, hm]
    · obtain ⟨b0, b1, b2, b3⟩ := h6 x (by omega)
      rw [hH] at b0 b1
      refine ⟨?_, ?_, ?_, ?_⟩ <;> simp only [sAW, sUE] <;> simp [ex, b0, b1, b2, b3]
  · by_cases ex : x = W
    · subst ex; simp only [sAW, sUE]; simp [zB_0]
    · have := h7 x hx
      simp only [sAW, sUE]; simp [ex, this]
theorem cAddWay {q W : Nat} {μ : z_M} {S : zS} {a b m : Int32} (s1 : StC q μ S) (hW : W < 12) (e : S 10 1 = nI W) : ∃ μ', f_X6_addWay q a b m μ = (nI W, μ') ∧ StC q μ' (sAW S W a b m) ∧ (∀ k, k ≠ q → k ≠ q + 4 → μ'.1 k = μ.1 k) ∧ μ'.2 = μ.2 := by
  have e3 : μ.1 q 4 = nI W := (s1.2.2.2 1 (by omega)).trans e
  unfold f_X6_addWay
  simp only [z_letE, e3, cV0 hW, cV1 hW, cV2 hW, cV3 hW]
  have t := (((s1.setW (k := 0) (v := a) (by omega) hW).setW (k := 1) (v := b) (by omega) hW).setW (k := 2) (v := m) (by omega) hW).setW (k := 3) (v := 0) (by omega) hW
  have r : (z_sI (z_sI (z_sI (z_sI μ (q + 4) (4 * W + 0) a) (q + 4) (4 * W + 1) b) (q + 4) (4 * W + 2) m) (q + 4) (4 * W + 3) 0).1 q 4 = nI W := (t.2.2.2 1 (by omega)).trans (by simp only [sUE]; simpa using e)
  rw [r, i_succ]
  refine ⟨_, rfl, t.setN (x := 1) (by omega), fun y h1 h2 => ?_, rfl⟩
  rw [sI1f h1, sI1f h2, sI1f h2, sI1f h2, sI1f h2]
theorem z_sl : ∀ n, n < 32 → ((nI n &&& 31).toBitVec.smod 32).toNat = n := by decide +kernel
theorem zbit {n w : Nat} (hn : n < 2 ^ 31) (hw : w < 32) : (nI n >>> (nI w &&& 31)) &&& 1 = nI (n / 2 ^ w % 2) := by
  rw [pk_shrN hn _ w (z_sl w hw), pk_andN (Nat.lt_of_le_of_lt (Nat.div_le_self _ _) (by omega)) 1 (by decide)]
theorem zbit0 {n w : Nat} (hn : n < 2 ^ 31) (hw : w < 32) : ((nI n >>> (nI w &&& 31)) &&& 1 = 0) = (n.testBit w = false) := by
  rw [zbit hn hw, Nat.testBit_eq_decide_div_mod_eq, nI_eq0 (by omega)]
  have := Nat.mod_two_eq_zero_or_one (n / 2 ^ w)
  rcases this with h | h <;> simp [h]
/-- an open way, some more shut -/
def sO (S : zS) (sh w : Nat) : Prop := S 8 w = 0 ∧ sh.testBit w = false
def sOn (S : zS) (w : Nat) (h : Int32) : Prop := S 5 w = h ∨ S 6 w = h
theorem sO0 (S : zS) (w : Nat) : sO S 0 w ↔ S 8 w = 0 := by unfold sO; simp
theorem cIsWay {q W w : Nat} {μ : z_M} (c4 : μ.1 q 4 = nI W) (hW : W ≤ 12) (hw : w < 2 ^ 31) : f_X6_isWay q (nI w) μ = if w < W then 1 else 0 := by
  unfold f_X6_isWay
  rw [c4, if_neg (nI_pos hw)]
  by_cases h : w < W
  · rw [if_pos (nI_lt h (by omega)), if_pos h]
  · rw [if_neg (nI_nlt (by omega) hw), if_neg h]
theorem cOpenAt {q W w : Nat} {μ : z_M} {S : zS} {h : Int32} (s1 : StC q μ S) (c4 : μ.1 q 4 = nI W) (hW : W ≤ 12) (hw : w < 12) : f_X6_isOpenAt q (nI w) h μ = (@ite _ (w < W ∧ sO S 0 w ∧ sOn S w h) (Classical.propDecidable _) 1 0) := by
  unfold f_X6_isOpenAt f_X6_isOpenAt_b20 f_X6_isOpenAt_b25
  rw [cIsWay c4 hW (by omega), cW0 s1 hw, cW1 s1 hw, cW3 s1 hw]
  simp only [sO0, sOn]
  by_cases h1 : w < W
  · by_cases h2 : S 8 w = 0
    · by_cases h3 : S 5 w = h
      · simp [h1, h2, h3]
      · by_cases h4 : S 6 w = h <;> simp [h1, h2, h3, h4]
    · simp [h1, h2]
  · simp [h1]
theorem cOpen {q W w : Nat} {μ : z_M} {S : zS} (s1 : StC q μ S) (c4 : μ.1 q 4 = nI W) (hW : W ≤ 12) (hw : w < 12) : f_X6_isOpen q (nI w) μ = (@ite _ (w < W ∧ sO S 0 w) (Classical.propDecidable _) 1 0) := by
  unfold f_X6_isOpen
  rw [cIsWay c4 hW (by omega), cW3 s1 hw]
  simp only [sO0]
  by_cases h1 : w < W
  · by_cases h2 : S 8 w = 0 <;> simp [h1, h2]
  · simp [h1]
/-- how many open ways are at a house, of the first n -/
noncomputable def sOA (S : zS) (sh : Nat) (h : Int32) : Nat → Nat
  | 0 => 0
  | n + 1 => sOA S sh h n + @ite _ (sO S sh n ∧ sOn S n h) (Classical.propDecidable _) 1 0
theorem sOA_s (S : zS) (sh : Nat) (h : Int32) (n : Nat) : sOA S sh h (n + 1) = sOA S sh h n + @ite _ (sO S sh n ∧ sOn S n h) (Classical.propDecidable _) 1 0 := rfl
theorem sOA_le (S : zS) (sh : Nat) (h : Int32) (n : Nat) : sOA S sh h n ≤ n := by
  induction n with
  | zero => exact Nat.le_refl 0
  | succ n ih =>
    rw [sOA_s]
    by_cases c : sO S sh n ∧ sOn S n h
    · rw [if_pos c]; omega
    · rw [if_neg c]; omega
theorem cOpenWaysAt {q W : Nat} {μ : z_M} {S : zS} {h : Int32} (s1 : StC q μ S) (c4 : μ.1 q 4 = nI W) (hW : W ≤ 12) (n : Nat) (hn : 13 ≤ n) : f_X6_openWaysAt q n h μ = some (nI (sOA S 0 h W), μ) := by
  have key : ∀ (d j n : Nat), j + d = 12 → d < n → f_X6_openWaysAt_h4 q n h (nI (sOA S 0 h (min j W))) (nI j) μ = some (nI (sOA S 0 h W), μ) := by
    intro d
    induction d with
    | zero =>
      intro j n e hn
      obtain ⟨m, rfl⟩ : ∃ m, n = m + 1 := ⟨n - 1, by omega⟩
      unfold f_X6_openWaysAt_h4
      rw [if_neg (show ¬ nI j < (12 : Int32) from nI_nlt (b := 12) (by omega) (by omega)), show min j W = W by omega]
    | succ d ih =>
      intro j n e hn
      obtain ⟨m, rfl⟩ : ∃ m, n = m + 1 := ⟨n - 1, by omega⟩
      unfold f_X6_openWaysAt_h4 f_X6_openWaysAt_b22
      rw [if_pos (show nI j < (12 : Int32) from nI_lt (b := 12) (by omega) (by omega)), cOpenAt s1 c4 hW (by omega), i_succ, i_succ]
      have k := ih (j + 1) m (by omega) (by omega)
      by_cases c : j < W
      · rw [show min (j + 1) W = j + 1 by omega] at k
        rw [show min j W = j by omega]
        rw [sOA_s S 0 h j] at k
        by_cases c2 : sO S 0 j ∧ sOn S j h
        · rw [if_pos c2] at k
          rw [if_pos (⟨c, c2⟩ : j < W ∧ sO S 0 j ∧ sOn S j h), ifn]; exact k
        · rw [if_neg c2] at k
          rw [if_neg (fun z : j < W ∧ sO S 0 j ∧ sOn S j h => c2 z.2), ifz]; exact k
      · rw [show min (j + 1) W = min j W by omega] at k
        rw [if_neg (fun z : j < W ∧ sO S 0 j ∧ sOn S j h => c z.1), ifz]; exact k
  have k := key 12 0 n (by omega) (by omega)
  rw [show min 0 W = 0 by omega] at k
  exact k
theorem refC (t : Nat) (h1 : 1 ≤ t) (h7 : t ≤ 7) (μ : z_M) : f_X8_refuse (-(nI t)) μ = (-(nI t), z_sI μ 49 t (μ.1 49 t + 1)) := by
  rcases (show t = 1 ∨ t = 2 ∨ t = 3 ∨ t = 4 ∨ t = 5 ∨ t = 6 ∨ t = 7 by omega) with rfl | rfl | rfl | rfl | rfl | rfl | rfl <;> rfl
theorem refNe (t : Nat) (h1 : 1 ≤ t) (h7 : t ≤ 7) : ¬ (-(nI t) = 0) := by
  rcases (show t = 1 ∨ t = 2 ∨ t = 3 ∨ t = 4 ∨ t = 5 ∨ t = 6 ∨ t = 7 by omega) with rfl | rfl | rfl | rfl | rfl | rfl | rfl <;> decide
theorem nI_of_toInt {x : Int32} {n : Nat} (hn : n < 2 ^ 31) (h : x.toInt = n) : x = nI n := by
  apply Int32.toInt_inj.1
  rw [h, nI_toInt hn]
theorem nI_div {a b : Nat} (ha : a < 2 ^ 31) (hb : b < 2 ^ 31) : nI a / nI b = nI (a / b) := by
  apply nI_of_toInt (Nat.lt_of_le_of_lt (Nat.div_le_self _ _) ha)
  rw [Int32.toInt_div, nI_toInt ha, nI_toInt hb, ← Int.ofNat_tdiv]
  have h1 := Nat.div_le_self a b
  generalize a / b = c at h1 ⊢
  rw [Int.bmod_eq_of_le] <;> omega
theorem nI_sub {a b : Nat} (h : b ≤ a) : nI a - nI b = nI (a - b) := by
  have e : nI a = nI (a - b) + nI b := by rw [nI_add, Nat.sub_add_cancel h]
  rw [e, Int32.add_sub_cancel]
theorem z_remN {a b : Nat} (ha : a < 2 ^ 31) (hb : b < 2 ^ 31) : z_rem (nI a) (nI b) = nI (a % b) := by
  unfold z_rem
  rw [nI_div ha hb, nI_mulN, nI_sub (Nat.div_mul_le_self a b)]
  congr 1
  rw [Nat.mod_eq_sub_div_mul]
def pcs (n : Nat) : Nat → Nat
  | 0 => 0
  | k + 1 => pcs n k + n / 2 ^ k % 2
def pc (n : Nat) : Nat := pcs n 31
def bcN (n : Nat) : Bool := decide (f_J6_bitCount_0f7a4 (nI n) (fun _ _ => 0, fun _ _ => 0) = nI (pc n))
theorem bc_all : (List.range 4096).all bcN = true := by decide +kernel
theorem cBits {v : Nat} (hv : v < 4096) (μ : z_M) : f_J6_bitCount_0f7a4 (nI v) μ = nI (pc v) := by
  have h := List.all_eq_true.mp bc_all v (List.mem_range.mpr hv)
  exact of_decide_eq_true h
theorem z_bit1 {j : Nat} (hj : j < 31) : (1 : Int32) <<< (nI j &&& 31) = nI (2 ^ j) := by
  have h := pk_shlN (n := 1) (nI j &&& 31) j (z_sl j (by omega)) (by rw [Nat.one_mul]; exact Nat.pow_lt_pow_right (by omega) (by omega))
  rw [Nat.one_mul] at h
  exact h
/-- the open ways as bits, of the first n -/
noncomputable def sMk (S : zS) : Nat → Nat
  | 0 => 0
  | n + 1 => sMk S n ||| @ite _ (sO S 0 n) (Classical.propDecidable _) (2 ^ n) 0
theorem sMk_s (S : zS) (n : Nat) : sMk S (n + 1) = sMk S n ||| @ite _ (sO S 0 n) (Classical.propDecidable _) (2 ^ n) 0 := rfl
theorem sMk_lt (S : zS) (n : Nat) : sMk S n < 2 ^ n := by
  induction n with
  | zero => exact Nat.one_pos
  | succ n ih =>
    rw [sMk_s]
    refine Nat.or_lt_two_pow (Nat.lt_of_lt_of_le ih (Nat.pow_le_pow_right (by omega) (by omega))) ?_
    by_cases c : sO S 0 n
    · rw [if_pos c]; exact Nat.pow_lt_pow_right (by omega) (by omega)
    · rw [if_neg c]; exact Nat.two_pow_pos _
def pcN (n : Nat) : Bool := (List.range (2 ^ n)).all (fun m => pc (m ||| 2 ^ n) == pc m + 1)
theorem pcN_all : (List.range 12).all pcN = true := by decide +kernel
theorem pc_or {m n : Nat} (hn : n < 12) (hm : m < 2 ^ n) : pc (m ||| 2 ^ n) = pc m + 1 := by
  have h := List.all_eq_true.mp (List.all_eq_true.mp pcN_all n (List.mem_range.mpr hn)) m (List.mem_range.mpr hm)
  exact eq_of_beq h
def sSh (S : zS) : Nat → Nat
  | 0 => 0
  | n + 1 => sSh S n + (S 8 n).toNatClampNeg
theorem mk_sh {S : zS} (h : ∀ w, w < 12 → zB (S 8 w) 2) : ∀ n, n ≤ 12 → pc (sMk S n) + sSh S n = n := by
  intro n
  induction n with
  | zero => intro _; show pc 0 + 0 = 0; decide
  | succ n ih =>
    intro hn
    have k := ih (by omega)
    obtain ⟨v, hv, ev⟩ := h n (by omega)
    rw [sMk_s, show sSh S (n + 1) = sSh S n + (S 8 n).toNatClampNeg from rfl, ev, nI_clamp (by omega)]
    rcases (show v = 0 ∨ v = 1 by omega) with rfl | rfl
    · rw [if_pos ((sO0 S n).2 ev), pc_or (by omega) (sMk_lt S n)]; omega
    · rw [if_neg (fun z => by have := (sO0 S n).1 z; rw [ev] at this; exact absurd this (by decide)), Nat.or_zero]; omega
theorem cOpenWays {q W : Nat} {μ : z_M} {S : zS} (s1 : StC q μ S) (c4 : μ.1 q 4 = nI W) (hW : W ≤ 12) (n : Nat) (hn : 13 ≤ n) : f_X6_openWays q n μ = some (nI (sMk S W), μ) := by
  have key : ∀ (d j n : Nat), j + d = 12 → d < n → f_X6_openWays_h4 q n (nI (sMk S (min j W))) (nI j) μ = some (nI (sMk S W), μ) := by
    intro d
    induction d with
    | zero =>
      intro j n e hn
      obtain ⟨m, rfl⟩ : ∃ m, n = m + 1 := ⟨n - 1, by omega⟩
      unfold f_X6_openWays_h4
      rw [if_neg (show ¬ nI j < (12 : Int32) from nI_nlt (b := 12) (by omega) (by omega)), show min j W = W by omega]
    | succ d ih =>
      intro j n e hn
      obtain ⟨m, rfl⟩ : ∃ m, n = m + 1 := ⟨n - 1, by omega⟩
      unfold f_X6_openWays_h4 f_X6_openWays_b24
      rw [if_pos (show nI j < (12 : Int32) from nI_lt (b := 12) (by omega) (by omega)), cOpen s1 c4 hW (by omega), i_succ, z_letE, z_bit1 (by omega), z_or]
      have k := ih (j + 1) m (by omega) (by omega)
      by_cases c : j < W
      · rw [show min (j + 1) W = j + 1 by omega, sMk_s] at k
        rw [show min j W = j by omega]
        by_cases c2 : sO S 0 j
        · rw [if_pos c2] at k
          rw [if_pos (⟨c, c2⟩ : j < W ∧ sO S 0 j), ifn]; exact k
        · rw [if_neg c2, Nat.or_zero] at k
          rw [if_neg (fun z : j < W ∧ sO S 0 j => c2 z.2), ifz]; exact k
      · rw [show min (j + 1) W = min j W by omega] at k
        rw [if_neg (fun z : j < W ∧ sO S 0 j => c z.1), ifz]; exact k
  have k := key 12 0 n (by omega) (by omega)
  rw [show min 0 W = 0 by omega] at k
  exact k
