/-! the bird goes a route in truth -/
theorem Cs.fr {μ μ' : z_M} {S : zS} {H W g b : Nat} (C : Cs μ S H W g b) (k : ∀ k, k ≠ 49 → μ'.1 k = μ.1 k) : Cs μ' S H W g b := by
  obtain ⟨s1, V, e, h, hb, z⟩ := C
  exact ⟨s1.same (fun j => by rw [k 3 (by omega)]) (fun j => by rw [k 5 (by omega)]) (fun j => by rw [k 7 (by omega)]) (fun j => by rw [k 1 (by omega)]), V, e, h, hb, by rw [k 41 (by omega)]; exact z⟩
def sVG (S : zS) (w g x : Nat) : zS := sV (sU S 10 4 (S 10 4 + S 7 w)) g x
theorem cGoBy {N : Nat} {μ : z_M} {S : zS} {g w x : Nat} (s1 : StC 1 μ S) (V : Vd N S) (eg : S 10 2 = nI g) (hg1 : 1 ≤ g) (hg3 : g ≤ 3) (hw : w < 12) (hx : x < 8) (eo : (S 5 w = S 10 3 ∧ S 6 w = nI x) ∨ (¬ S 5 w = S 10 3 ∧ S 5 w = nI x)) (n : Nat) : ∃ μ', f_X6_goBy 1 (n + 3) (nI w) μ = some (S 9 (g - 1), μ') ∧ StC 1 μ' (sVG S w g x) ∧ (∀ k, k ≠ 1 → k ≠ 3 → k ≠ 7 → μ'.1 k = μ.1 k) := by
  have t1 := s1.setN (x := 4) (v := S 10 4 + S 7 w) (by omega)
  obtain ⟨μ', q1, q2, q3, -⟩ := cVisit (μ := z_sI μ 1 7 (S 10 4 + S 7 w)) t1 (show S 10 2 = nI g from eg) hg1 hg3 hx n
  have c7 : μ.1 1 7 = S 10 4 := s1.2.2.2 4 (by omega)
  refine ⟨μ', ?_, q2, fun k h1 h3 h7 => by rw [q3 k h1 h3 h7, sI1f h1]⟩
  unfold f_X6_goBy
  rw [z_letE, c7, cW2 s1 hw]
  have u0 : f_X6_ofWay 1 (nI w) 0 (z_sI μ 1 7 (S 10 4 + S 7 w)) = S 5 w := (cW0 (S := sU S 10 4 (S 10 4 + S 7 w)) t1 hw)
  have u1 : f_X6_ofWay 1 (nI w) 1 (z_sI μ 1 7 (S 10 4 + S 7 w)) = S 6 w := (cW1 (S := sU S 10 4 (S 10 4 + S 7 w)) t1 hw)
  have u6 : (z_sI μ 1 7 (S 10 4 + S 7 w)).1 1 6 = S 10 3 := t1.2.2.2 3 (by omega)
  rw [u0, u1, u6]
  unfold f_X6_goBy_b44
  have q1' : f_X6_visit 1 (n + 3) (nI x) (z_sI μ 1 7 (S 10 4 + S 7 w)) = some (S 9 (g - 1), μ') := q1
  rcases eo with ⟨e1, e2⟩ | ⟨e1, e2⟩
  · rw [if_pos e1, e2, q1', z_bindS]
  · rw [if_neg e1, e2, q1', z_bindS]
theorem Cs.go {μ μ' : z_M} {S : zS} {H W g b w x : Nat} (C : Cs μ S H W g b) (hx : x < H) (s : StC 1 μ' (sVG S w g x)) (f : ∀ k, k ≠ 1 → k ≠ 3 → k ≠ 7 → μ'.1 k = μ.1 k) : Cs μ' (sVG S w g x) H W g x := by
  obtain ⟨s1, ⟨N, V⟩, ⟨eH, eW, eg⟩, ⟨hH, hW, hg1, hg3⟩, ⟨eb, hb⟩, z⟩ := C
  refine ⟨s, ⟨N + 1, ?_⟩, ⟨eH, eW, eg⟩, ⟨hH, hW, hg1, hg3⟩, ⟨rfl, hx⟩, by rw [f 41 (by omega) (by omega) (by omega)]; exact z⟩
  have V1 : Vd N (sU S 10 4 (S 10 4 + S 7 w)) := V.gone
  exact V1.visit hg1 hg3 (by rw [show sH (sU S 10 4 (S 10 4 + S 7 w)) = sH S from rfl, sH_of eH hH]; exact hx) (by omega)
theorem isW_y {μ : z_M} {W w : Nat} (c4 : μ.1 1 4 = nI W) (hW : W ≤ 12) (hw : w < W) : f_X6_isWay 1 (nI w) μ = 1 := by
  rw [cIsWay c4 hW (by omega), if_pos hw]
theorem cGo {μ : z_M} {S : zS} {H W g b w x : Nat} (C : Cs μ S H W g b) (hw : w < W) (o1 : sO S 0 w) (o2 : sOn S w (nI b)) (hx : x < H) (eo : (S 5 w = nI b ∧ S 6 w = nI x) ∨ (¬ S 5 w = nI b ∧ S 5 w = nI x)) (n : Nat) : ∃ μ', f_X8_go (n + 3) (nI w) μ = some (S 9 (g - 1), μ') ∧ Cs μ' (sVG S w g x) H W g x ∧ (∀ k, k ≠ 1 → k ≠ 3 → k ≠ 7 → μ'.1 k = μ.1 k) := by
  have C' := C
  obtain ⟨s1, ⟨N, V⟩, ⟨eH, eW, eg⟩, ⟨hH, hW, hg1, hg3⟩, ⟨eb, hb⟩, z⟩ := C
  obtain ⟨μ', q1, q2, q3⟩ := cGoBy s1 V eg hg1 hg3 (show w < 12 by omega) (show x < 8 by omega) (by rw [eb]; exact eo) n
  refine ⟨μ', ?_, C'.go hx q2 q3, q3⟩
  unfold f_X8_go f_X6_canGoBy
  rw [isW_y C'.c4 hW hw, ifn, bird_y C'.c6 C'.b8, ifn, C'.c6, cOpenAt s1 C'.c4 hW (show w < 12 by omega), if_pos (show _ ∧ _ from ⟨hw, o1, o2⟩)]
  simp only [ifn]
  rw [q1, z_bindS]
/-- a go that may be refused -/
theorem bGo {μ : z_M} {S : zS} {H W g b w : Nat} (C : Cs μ S H W g b) (hw : w < W) (n : Nat) : ∃ r μ' S' b', f_X8_go (n + 3) (nI w) μ = some (r, μ') ∧ Cs μ' S' H W g b' := by
  have C' := C
  obtain ⟨s1, ⟨N, V⟩, ⟨eH, eW, eg⟩, ⟨hH, hW, hg1, hg3⟩, ⟨eb, hb⟩, z⟩ := C
  obtain ⟨z5, z6, zne, z7⟩ := V.2.2.2.2.2.1 w (by rw [sW_of eW hW]; exact hw)
  rw [sH_of eH hH] at z5 z6
  obtain ⟨x5, hx5, y5⟩ := z5
  obtain ⟨x6, hx6, y6⟩ := z6
  by_cases c : sO S 0 w ∧ sOn S w (nI b)
  · by_cases e : S 5 w = nI b
    · obtain ⟨μ', q1, q2, -⟩ := cGo C' hw c.1 c.2 hx6 (Or.inl ⟨e, y6⟩) n
      exact ⟨_, μ', _, _, q1, q2⟩
    · obtain ⟨μ', q1, q2, -⟩ := cGo C' hw c.1 c.2 hx5 (Or.inr ⟨e, y5⟩) n
      exact ⟨_, μ', _, _, q1, q2⟩
  · refine ⟨-6, z_sI μ 49 6 (μ.1 49 6 + 1), S, b, ?_, C'.fr (fun k hk => sI1f hk)⟩
    unfold f_X8_go f_X6_canGoBy
    rw [isW_y C'.c4 hW hw, ifn, bird_y C'.c6 C'.b8, ifn, C'.c6, cOpenAt s1 C'.c4 hW (show w < 12 by omega), if_neg (fun z : w < W ∧ sO S 0 w ∧ sOn S w (nI b) => c z.2)]
    simp only [if_true]
    rw [refC6, z_letE]
theorem sLk_congr {S S' : zS} (h : ∀ w, S' 5 w = S 5 w ∧ S' 6 w = S 6 w ∧ S' 7 w = S 7 w ∧ S' 8 w = S 8 w) (sh a b : Nat) : ∀ n, sLk S' sh a b n = sLk S sh a b n := by
  intro n
  induction n with
  | zero => rfl
  | succ n ih =>
    have e : (sO S' sh n ∧ sBt S' n a b ∧ (sLk S sh a b n = 0 ∨ S' 7 n < S' 7 (sLk S sh a b n - 1))) = (sO S sh n ∧ sBt S n a b ∧ (sLk S sh a b n = 0 ∨ S 7 n < S 7 (sLk S sh a b n - 1))) := by
      unfold sO sBt
      rw [(h n).1, (h n).2.1, (h n).2.2.1, (h n).2.2.2, (h (sLk S sh a b n - 1)).2.2.1]
    rw [sLk_s, sLk_s, ih, e]
/-- how the street stands behind a route q gone in truth from S -/
def Sm (S S' : zS) (g W b : Nat) (q : List Nat) : Prop :=
  (∀ a i, a < 3 → S' a i = S a i) ∧ (∀ w, S' 5 w = S 5 w ∧ S' 6 w = S 6 w ∧ S' 7 w = S 7 w ∧ S' 8 w = S 8 w) ∧ (∀ i, S' 3 i = tR S g (fun a c => sLk S 0 a c W) b (t00 S false 0) q 0 i) ∧ (∀ i, S' 4 i = tR S g (fun a c => sLk S 0 a c W) b (t00 S false 0) q 2 i) ∧ (∀ i, S' 9 i = tR S g (fun a c => sLk S 0 a c W) b (t00 S false 0) q 3 i) ∧ S' 10 4 = S 10 4 + tR S g (fun a c => sLk S 0 a c W) b (t00 S false 0) q 4 1
theorem Sm.nil (S : zS) (g W b : Nat) : Sm S S g W b [] := ⟨fun _ _ _ => rfl, fun _ => ⟨rfl, rfl, rfl, rfl⟩, fun _ => rfl, fun _ => rfl, fun _ => rfl, (add0 _).symm⟩
theorem s_ans_congr {S S' : zS} {h : Nat} (e : ∀ a i, a < 3 → S' a i = S a i) (sp kn vs : Int32) : s_ans S' h sp kn vs = s_ans S h sp kn vs := by
  unfold s_ans s_shy
  rw [e 0 h (by omega), e 1 h (by omega), e 2 h (by omega)]
theorem Sm.step {S S' : zS} {g W b x : Nat} {q : List Nat} (m : Sm S S' g W b q) : Sm S (sVG S' (sLk S 0 (pl b q) x W - 1) g x) g W b (x :: q) := by
  obtain ⟨m1, m2, m3, m4, m5, m6⟩ := m
  generalize hT : tR S g (fun a c => sLk S 0 a c W) b (t00 S false 0) q = T at m3 m4 m5 m6
  have hT' : tR S g (fun a c => sLk S 0 a c W) b (t00 S false 0) (x :: q) = tW S g x (sLk S 0 (pl b q) x W - 1) T := by rw [← hT]; rfl
  generalize sLk S 0 (pl b q) x W - 1 = w at hT'
  unfold Sm
  rw [hT']
  refine ⟨fun a i ha => ?_, fun v => ?_, fun i => ?_, fun i => ?_, fun i => ?_, ?_⟩
  · have e : sVG S' w g x a i = S' a i := by
      unfold sVG sV
      rw [if_neg (by omega), if_neg (by omega), if_neg (by omega), if_neg (by omega), if_neg (by omega), sUE, if_neg (by omega)]
    rw [e]; exact m1 a i ha
  · exact m2 v
  · rw [tW0]
    show (if 3 = 3 ∧ i = x then S' 3 x ||| S' 9 (g - 1) else _) = _
    by_cases c : i = x
    · rw [if_pos ⟨rfl, c⟩, if_pos c, m3, m5]
    · rw [if_neg (fun z => c z.2), if_neg c]
      exact m3 i
  · rw [tW2]
    show (if 4 = 4 ∧ i = x then S' 4 x + 1 else S' 4 i) = _
    by_cases c : i = x
    · rw [if_pos ⟨rfl, c⟩, if_pos c, m4]
    · rw [if_neg (fun z => c z.2), if_neg c]
      exact m4 i
  · show (if i = 0 then s_ans (sU S' 10 4 (S' 10 4 + S' 7 w)) x (S' 9 (g - 1)) (S' 3 x) (S' 4 x) else S' 9 (i - 1)) = _
    cases i with
    | zero =>
      rw [if_pos rfl, tW30, s_ans_congr (S := S) (fun a i ha => by rw [sUE, if_neg (by omega)]; exact m1 a i ha), m3, m4, m5]
    | succ i =>
      rw [if_neg (by omega), tW3s, Nat.add_sub_cancel]
      exact m5 i
  · rw [tW41]
    show S' 10 4 + S' 7 w = _
    rw [m6, (m2 w).2.2.1, Int32.add_assoc]
/-- from house to house by the way between them -/
theorem cStepGo {μ : z_M} {S S' : zS} {H W g b x : Nat} {q : List Nat} (C : Cs μ S' H W g (pl b q)) (m : Sm S S' g W b q) (hx : x < H) (ok : sLk S 0 (pl b q) x W ≠ 0) : ∃ w μ1 r μ2, f_X8_where μ = nI (pl b q) ∧ f_X8_between 700000 (nI (pl b q)) (nI x) μ = some (nI w, μ1) ∧ f_X8_go 700000 (nI w) μ1 = some (r, μ2) ∧ ¬ r < 0 ∧ Cs μ2 (sVG S' (sLk S 0 (pl b q) x W - 1) g x) H W g x := by
  have hpl := C.2.2.2.2.1.2
  obtain ⟨hH, hW, hg1, hg3⟩ := C.2.2.2.1
  obtain ⟨μ1, a1, a2, a3, a4⟩ := C.start 700000 (by omega)
  have lk := sLk_congr m.2.1 0 (pl b q) x W
  have le := sLk_le S 0 (pl b q) x W
  obtain ⟨o1, bt⟩ := sLk_bt S' 0 (pl b q) x W (by rw [lk]; exact ok)
  rw [lk] at o1 bt
  have C1 := C.kc a3
  obtain ⟨N, V⟩ := C.2.1
  have hw : sLk S 0 (pl b q) x W - 1 < W := by omega
  have on : sOn S' (sLk S 0 (pl b q) x W - 1) (nI (pl b q)) := by
    rcases bt with h | h
    · exact Or.inl h.1
    · exact Or.inr h.2
  have eo : (S' 5 (sLk S 0 (pl b q) x W - 1) = nI (pl b q) ∧ S' 6 (sLk S 0 (pl b q) x W - 1) = nI x) ∨ (¬ S' 5 (sLk S 0 (pl b q) x W - 1) = nI (pl b q) ∧ S' 5 (sLk S 0 (pl b q) x W - 1) = nI x) := by
    rcases bt with h | h
    · exact Or.inl h
    · by_cases e : S' 5 (sLk S 0 (pl b q) x W - 1) = nI (pl b q)
      · exact Or.inl ⟨e, by rw [h.2, ← e, h.1]⟩
      · exact Or.inr ⟨e, h.1⟩
  obtain ⟨μ2, q1, q2, -⟩ := cGo C1 hw o1 on hx eo 699997
  refine ⟨sLk S 0 (pl b q) x W - 1, μ1, S' 9 (g - 1), μ2, C.c6, ?_, q1, ?_, q2⟩
  · unfold f_X8_between
    rw [isH_y C.c3 hH hpl, ifn, isH_y C.c3 hH hx, ifn, a1, z_bindS]
    dsimp only
    rw [cTaken C1.c3 hH a2.2.1 hpl hx, lk, i_pred (by omega)]
  · obtain ⟨y, hy, ey⟩ := V.B1 (g - 1) (by omega)
    rw [ey]; exact nI_pos (by omega)
theorem cStatus4 {μ : z_M} {S : zS} (s : StC 1 μ S) (n : Nat) : f_X8_status n 4 μ = some (S 10 4, μ) := by
  have e : f_X8_status n 4 μ = some (μ.1 1 7, μ) := rfl
  rw [e, show μ.1 1 7 = S 10 4 from s.2.2.2 4 (by omega)]
theorem cStatus1 {μ : z_M} {S : zS} {H W g b : Nat} (C : Cs μ S H W g b) (n : Nat) : f_X8_status n 1 μ = some (nI W, μ) := by
  have e : f_X8_status n 1 μ = some (μ.1 1 4, μ) := rfl
  rw [e, C.c4]
theorem cHouseOf {μ : z_M} {S : zS} {H W g b i : Nat} (C : Cs μ S H W g b) (hi : i < H) : f_X8_houseOf (nI i) 0 μ = (S 0 i, μ) ∧ f_X8_houseOf (nI i) 1 μ = (S 1 i, μ) ∧ f_X8_houseOf (nI i) 3 μ = (S 3 i, μ) := by
  have hH := C.2.2.2.1.1
  have h8 : i < 8 := by omega
  unfold f_X8_houseOf f_X8_houseOf_b25
  rw [isH_y C.c3 hH hi]
  simp only [ifn]
  refine ⟨?_, ?_, ?_⟩
  · rw [cO0 C.1 h8]; rfl
  · rw [cO1 C.1 h8]; rfl
  · rw [cO3 C.1 h8]; rfl
theorem cAnswer {μ : z_M} {S : zS} {H W g b i : Nat} (C : Cs μ S H W g b) (hi : i < H) : f_X8_answer (nI i) 0 μ = (s_ans S i 0 (S 3 i) (S 4 i), μ) := by
  have hH := C.2.2.2.1.1
  unfold f_X8_answer
  rw [isH_y C.c3 hH hi, ifn, show f_X8_isSet 0 μ = 1 from rfl, ifn, cAns0 C.1 (show i < 8 by omega)]
theorem cKnown {S S' : zS} {g W b i : Nat} {q : List Nat} (m : Sm S S' g W b q) : S' 3 i = S 3 i ||| hdV S g W b q i := by
  rw [m.2.2.1]
  exact tR_known (fun j => (or0 _).symm) q i
