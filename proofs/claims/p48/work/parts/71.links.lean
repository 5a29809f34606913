/-! the links -/
def sBt (S : zS) (w a b : Nat) : Prop := (S 5 w = nI a ∧ S 6 w = nI b) ∨ (S 5 w = nI b ∧ S 6 w = nI a)
noncomputable def sLk (S : zS) (sh a b : Nat) : Nat → Nat
  | 0 => 0
  | n + 1 => @ite _ (sO S sh n ∧ sBt S n a b ∧ (sLk S sh a b n = 0 ∨ S 7 n < S 7 (sLk S sh a b n - 1))) (Classical.propDecidable _) (n + 1) (sLk S sh a b n)
theorem sLk_s (S : zS) (sh a b n : Nat) : sLk S sh a b (n + 1) = @ite _ (sO S sh n ∧ sBt S n a b ∧ (sLk S sh a b n = 0 ∨ S 7 n < S 7 (sLk S sh a b n - 1))) (Classical.propDecidable _) (n + 1) (sLk S sh a b n) := rfl
theorem sBt_symm (S : zS) (w a b : Nat) : sBt S w a b = sBt S w b a := by unfold sBt; exact propext Or.comm
theorem sLk_symm (S : zS) (sh a b : Nat) : ∀ n, sLk S sh a b n = sLk S sh b a n := by
  intro n
  induction n with
  | zero => rfl
  | succ n ih => rw [sLk_s, sLk_s, ih, sBt_symm S n a b]
theorem sLk_le (S : zS) (sh a b : Nat) : ∀ n, sLk S sh a b n ≤ n := by
  intro n
  induction n with
  | zero => exact Nat.le_refl 0
  | succ n ih =>
    rw [sLk_s]
    by_cases c : sO S sh n ∧ sBt S n a b ∧ (sLk S sh a b n = 0 ∨ S 7 n < S 7 (sLk S sh a b n - 1))
    · rw [if_pos c]; omega
    · rw [if_neg c]; omega
/-- a way taken leads between the two -/
theorem sLk_bt (S : zS) (sh a b : Nat) : ∀ n, sLk S sh a b n ≠ 0 → sO S sh (sLk S sh a b n - 1) ∧ sBt S (sLk S sh a b n - 1) a b := by
  intro n
  induction n with
  | zero => intro h; exact absurd rfl h
  | succ n ih =>
    intro h
    rw [sLk_s] at h ⊢
    by_cases c : sO S sh n ∧ sBt S n a b ∧ (sLk S sh a b n = 0 ∨ S 7 n < S 7 (sLk S sh a b n - 1))
    · rw [if_pos c] at h ⊢; exact ⟨c.1, c.2.1⟩
    · rw [if_neg c] at h ⊢; exact ih h
theorem n_m1 {v : Nat} (h : v < 2 ^ 30) : (nI v - 1 < 0) = (v = 0) := by
  apply propext
  constructor
  · intro c
    by_cases z : v = 0
    · exact z
    · rw [i_pred (by omega)] at c; exact absurd c (nI_pos (by omega))
  · rintro rfl; decide
/-- the class's links after its first n ways -/
def LkI (μ : z_M) (S : zS) (sh n : Nat) : Prop := ∀ a b, a < 8 → b < 8 → μ.1 33 (8 * a + b) = nI (sLk S sh a b n)
theorem cTaken {H a b sh n : Nat} {μ : z_M} {S : zS} (c3 : μ.1 1 3 = nI H) (hH : H ≤ 8) (L : LkI μ S sh n) (ha : a < H) (hb : b < H) : f_X7_wayTaken (nI a) (nI b) μ = nI (sLk S sh a b n) - 1 := by
  unfold f_X7_wayTaken f_X7_wayTaken_b27
  have e : ∀ x, x < H → f_X6_isHouse 1 (nI x) μ = 1 := fun x hx => by
    unfold f_X6_isHouse
    rw [c3, if_neg (nI_pos (by omega)), if_pos (nI_lt hx (by omega))]
  rw [e a ha, e b hb, ifn, ifn, ifn, i8_r, g_getN (by omega) (by decide), L a b (by omega) (by omega)]
theorem cLink {H W w x y sh : Nat} {μ : z_M} {S : zS} (s1 : StC 1 μ S) (c3 : μ.1 1 3 = nI H) (hH : H ≤ 8) (hW : W ≤ 12) (hw : w < W) (L : LkI μ S sh w) (e5 : S 5 w = nI x) (e6 : S 6 w = nI y) (hx : x < H) (hy : y < H) (hxy : x ≠ y) (o : sO S sh w) : LkI (f_X7_link (nI w) (nI x) (nI y) μ) S sh (w + 1) ∧ (∀ k, k ≠ 33 → (f_X7_link (nI w) (nI x) (nI y) μ).1 k = μ.1 k) ∧ (f_X7_link (nI w) (nI x) (nI y) μ).2 = μ.2 := by
  have le := sLk_le S sh x y w
  have btxy : ∀ a b, a < 8 → b < 8 → (sBt S w a b ↔ (a = x ∧ b = y) ∨ (a = y ∧ b = x)) := by
    intro a b ha hb
    unfold sBt
    rw [e5, e6]
    constructor
    · rintro (⟨h1, h2⟩ | ⟨h1, h2⟩)
      · exact Or.inl ⟨(nI_inj (by omega) (by omega) h1).symm, (nI_inj (by omega) (by omega) h2).symm⟩
      · exact Or.inr ⟨(nI_inj (by omega) (by omega) h2).symm, (nI_inj (by omega) (by omega) h1).symm⟩
    · rintro (⟨rfl, rfl⟩ | ⟨rfl, rfl⟩)
      · exact Or.inl ⟨rfl, rfl⟩
      · exact Or.inr ⟨rfl, rfl⟩
  have b36 : f_X7_link_b36 (nI w) (nI x) (nI y) μ = z_sI (z_sI μ 33 (8 * x + y) (nI (w + 1))) 33 (8 * y + x) (nI (w + 1)) := by
    unfold f_X7_link_b36
    rw [i8_r, i8_r, i_succ, g_putN (by omega) (by decide), z_letE, g_putN (by omega) (by decide), z_letE]
  have upd : (sLk S sh x y w = 0 ∨ S 7 w < S 7 (sLk S sh x y w - 1)) → LkI (z_sI (z_sI μ 33 (8 * x + y) (nI (w + 1))) 33 (8 * y + x) (nI (w + 1))) S sh (w + 1) := by
    intro c a b ha hb
    rw [sI1, sI1, sLk_s]
    by_cases h1 : a = y ∧ b = x
    · rw [if_pos ⟨rfl, by rw [h1.1, h1.2]⟩, if_pos ⟨o, (btxy a b ha hb).2 (Or.inr h1), by rw [h1.1, h1.2, sLk_symm S sh y x]; exact c⟩]
    · by_cases h2 : a = x ∧ b = y
      · rw [if_neg (by omega), if_pos ⟨rfl, by rw [h2.1, h2.2]⟩, if_pos ⟨o, (btxy a b ha hb).2 (Or.inl h2), by rw [h2.1, h2.2]; exact c⟩]
      · rw [if_neg (by omega), if_neg (by omega), if_neg (fun z => by rcases (btxy a b ha hb).1 z.2.1 with q | q; exact h2 q; exact h1 q)]
        exact L a b ha hb
  have keep : ¬ (sLk S sh x y w = 0 ∨ S 7 w < S 7 (sLk S sh x y w - 1)) → LkI μ S sh (w + 1) := by
    intro c a b ha hb
    rw [sLk_s, if_neg (fun z => by
      rcases (btxy a b ha hb).1 z.2.1 with q | q
      · rw [q.1, q.2] at z; exact c z.2.2
      · rw [q.1, q.2, sLk_symm S sh y x] at z; exact c z.2.2)]
    exact L a b ha hb
  unfold f_X7_link
  rw [cTaken c3 hH L hx hy, z_letE, b36]
  by_cases z : sLk S sh x y w = 0
  · rw [if_pos (show nI (sLk S sh x y w) - 1 = -1 by rw [z]; rfl)]
    exact ⟨upd (Or.inl z), fun k hk => by rw [sI1f hk, sI1f hk], rfl⟩
  · have ne : ¬ nI (sLk S sh x y w) - 1 = -1 := by
      rw [i_pred (by omega)]
      intro e; rw [nI_em1 (by omega)] at e; exact e
    rw [if_neg ne, i_pred (by omega), cW2 s1 (by omega), cW2 s1 (by omega)]
    by_cases c : S 7 w < S 7 (sLk S sh x y w - 1)
    · rw [if_pos c]
      exact ⟨upd (Or.inr c), fun k hk => by rw [sI1f hk, sI1f hk], rfl⟩
    · rw [if_neg c]
      exact ⟨keep (fun q => by rcases q with q | q <;> contradiction), fun _ _ => rfl, rfl⟩
theorem LkI_skip {μ : z_M} {S : zS} {sh w : Nat} (L : LkI μ S sh w) (o : ¬ sO S sh w) : LkI μ S sh (w + 1) := by
  intro a b ha hb
  rw [sLk_s, if_neg (fun z => o z.1)]
  exact L a b ha hb
theorem cLinks {N H W sh : Nat} {S : zS} (V : Vd N S) (eH : S 10 0 = nI H) (eW : S 10 1 = nI W) (hH : H ≤ 8) (hW : W ≤ 12) (hs : sh < 2 ^ 31) : ∀ (d j n : Nat) (μ : z_M), j + d = 12 → d < n → StC 1 μ S → LkI μ S sh (min j W) → ∃ μ', f_X7_beginWithout_h56 n (nI sh) (nI j) μ = some ((), μ') ∧ LkI μ' S sh W ∧ (∀ k, k ≠ 33 → μ'.1 k = μ.1 k) ∧ μ'.2 = μ.2 := by
  intro d
  induction d with
  | zero =>
    intro j n μ e hn s1 L
    obtain ⟨m, rfl⟩ : ∃ m, n = m + 1 := ⟨n - 1, by omega⟩
    unfold f_X7_beginWithout_h56
    rw [if_neg (show ¬ nI j < (12 : Int32) from nI_nlt (b := 12) (by omega) (by omega))]
    rw [show min j W = W by omega] at L
    exact ⟨μ, rfl, L, fun _ _ => rfl, rfl⟩
  | succ d ih =>
    intro j n μ e hn s1 L
    obtain ⟨m, rfl⟩ : ∃ m, n = m + 1 := ⟨n - 1, by omega⟩
    have j8 : j < 12 := by omega
    have c3 : μ.1 1 3 = nI H := (s1.2.2.2 0 (by omega)).trans eH
    have c4 : μ.1 1 4 = nI W := (s1.2.2.2 1 (by omega)).trans eW
    unfold f_X7_beginWithout_h56 f_X7_beginWithout_b104
    rw [if_pos (show nI j < (12 : Int32) from nI_lt (b := 12) j8 (by omega)), cOpen s1 c4 hW j8, i_succ]
    by_cases w : j < W
    · rw [show min j W = j by omega] at L
      have nxt : ∀ μ1, StC 1 μ1 S → LkI μ1 S sh (j + 1) → (∀ k, k ≠ 33 → μ1.1 k = μ.1 k) → μ1.2 = μ.2 → ∃ μ', f_X7_beginWithout_h56 m (nI sh) (nI (j + 1)) μ1 = some ((), μ') ∧ LkI μ' S sh W ∧ (∀ k, k ≠ 33 → μ'.1 k = μ.1 k) ∧ μ'.2 = μ.2 := by
        intro μ1 t1 t2 t3 t4
        obtain ⟨μ', k1, k2, k3, k4⟩ := ih (j + 1) m μ1 (by omega) (by omega) t1 (by rw [show min (j + 1) W = j + 1 by omega]; exact t2)
        exact ⟨μ', k1, k2, fun k hk => (k3 k hk).trans (t3 k hk), k4.trans t4⟩
      by_cases o0 : sO S 0 j
      · rw [if_pos (⟨w, o0⟩ : j < W ∧ sO S 0 j), ifn]
        by_cases b : sh.testBit j = false
        · have o : sO S sh j := ⟨(sO0 S j).1 o0, b⟩
          rw [if_pos (show (nI sh >>> (nI j &&& 31)) &&& 1 = 0 from (zbit0 hs (by omega)).mpr b)]
          obtain ⟨z5, z6, zne, z7⟩ := V.2.2.2.2.2.1 j (by rw [sW_of eW hW]; exact w)
          rw [sH_of eH hH] at z5 z6
          obtain ⟨x, hx, ex⟩ := z5
          obtain ⟨y, hy, ey⟩ := z6
          have hxy : x ≠ y := fun h => zne (by rw [ex, ey, h])
          obtain ⟨q1, q2, q3⟩ := cLink s1 c3 hH hW w L ex ey hx hy hxy o
          rw [cW0 s1 j8, cW1 s1 j8, ex, ey, z_letE]
          exact nxt _ (s1.same (fun i => by rw [q2 _ (by decide)]) (fun i => by rw [q2 _ (by decide)]) (fun i => by rw [q2 _ (by decide)]) (fun i => by rw [q2 _ (by decide)])) q1 q2 q3
        · rw [if_neg (show ¬ (nI sh >>> (nI j &&& 31)) &&& 1 = 0 from fun z => b ((zbit0 hs (by omega)).mp z))]
          exact nxt μ s1 (LkI_skip L (fun z => b z.2)) (fun _ _ => rfl) rfl
      · rw [if_neg (fun z : j < W ∧ sO S 0 j => o0 z.2), ifz]
        exact nxt μ s1 (LkI_skip L (fun z => o0 ((sO0 S j).2 z.1))) (fun _ _ => rfl) rfl
    · rw [show min j W = min (j + 1) W by omega] at L
      rw [if_neg (fun z : j < W ∧ sO S 0 j => w z.1), ifz]
      exact ih (j + 1) m μ (by omega) (by omega) s1 L
theorem cBegin {N H W g sh : Nat} {μ : z_M} {S : zS} (s1 : StC 1 μ S) (V : Vd N S) (eH : S 10 0 = nI H) (eW : S 10 1 = nI W) (eg : S 10 2 = nI g) (hH : H ≤ 8) (hW : W ≤ 12) (hs : sh < 2 ^ 31) (n : Nat) (hn : 20 ≤ n) : ∃ μ', f_X7_beginWithout n (nI sh) μ = some ((), μ') ∧ LkI μ' S sh W ∧ μ'.1 31 6 = nI 0 ∧ μ'.1 31 7 = nI g ∧ (∀ i, i < 3 → μ'.1 39 (2 - i) = S 9 i) ∧ (∀ k, k ≠ 31 → k ≠ 33 → k ≠ 39 → μ'.1 k = μ.1 k) ∧ μ'.2 = μ.2 := by
  obtain ⟨m, rfl⟩ : ∃ m, n = m + 4 := ⟨n - 4, by omega⟩
  obtain ⟨x0, e0⟩ : ∃ x, x = z_sI (z_sI μ 31 6 0) 31 7 (nI g) := ⟨_, rfl⟩
  have f0 : ∀ k, k ≠ 31 → x0.1 k = μ.1 k := fun k hk => by rw [e0, sI1f hk, sI1f hk]
  have t0 : StC 1 x0 S := s1.same (fun i => by rw [f0 _ (by decide)]) (fun i => by rw [f0 _ (by decide)]) (fun i => by rw [f0 _ (by decide)]) (fun i => by rw [f0 _ (by decide)])
  have p39 : ∀ (i : Nat) (x : z_M) (v : Int32), i < 3 → g_put 39 43 (2 - nI i) v x = z_sI x 39 (2 - i) v := fun i x v hi => by
    rw [show (2 : Int32) - nI i = nI (2 - i) from nI_sub (a := 2) (by omega), g_putN (by omega) (by decide)]
  have step : ∀ (i l : Nat) (x : z_M), i < 3 → StC 1 x S → f_X7_beginWithout_h18 (l + 1) (nI sh) (nI i) x = f_X7_beginWithout_h18 l (nI sh) (nI (i + 1)) (z_sI x 39 (2 - i) (S 9 i)) := fun i l x hi hx => by
    rw [f_X7_beginWithout_h18, if_pos (show nI i < (3 : Int32) from nI_lt (b := 3) hi (by omega)), cAgo hx hi, p39 i x _ hi, z_letE, i_succ]
  have ts : ∀ (x : z_M) (j : Nat) (v : Int32), StC 1 x S → StC 1 (z_sI x 39 j v) S := fun x j v hx => hx.same (fun i => by rw [sI1f (by decide)]) (fun i => by rw [sI1f (by decide)]) (fun i => by rw [sI1f (by decide)]) (fun i => by rw [sI1f (by decide)])
  have t1 := ts x0 (2 - 0) (S 9 0) t0
  have t2 := ts _ (2 - 1) (S 9 1) t1
  have t3 := ts _ (2 - 2) (S 9 2) t2
  obtain ⟨x3, e3⟩ : ∃ x, x = z_sI (z_sI (z_sI x0 39 (2 - 0) (S 9 0)) 39 (2 - 1) (S 9 1)) 39 (2 - 2) (S 9 2) := ⟨_, rfl⟩
  rw [← e3] at t3
  have tc : StC 1 (g_clr 33 64 x3) S := t3.same (fun i => rfl) (fun i => rfl) (fun i => rfl) (fun i => rfl)
  have lc : LkI (g_clr 33 64 x3) S sh (min 0 W) := by
    rw [show min 0 W = 0 by omega]
    intro a b ha hb
    show (if 33 = 33 ∧ 8 * a + b < 64 then 0 else _) = nI 0
    rw [if_pos ⟨rfl, by omega⟩]; rfl
  obtain ⟨μ', k1, k2, k3, k4⟩ := cLinks V eH eW hH hW hs 12 0 m (g_clr 33 64 x3) (by omega) (by omega) tc lc
  have cf : ∀ k, k ≠ 33 → (g_clr 33 64 x3).1 k = x3.1 k := fun k hk => by
    funext j
    show (if k = 33 ∧ j < 64 then 0 else x3.1 k j) = _
    rw [if_neg (fun z => hk z.1)]
  refine ⟨μ', ?_, k2, ?_, ?_, fun i hi => ?_, fun k h1 h2 h3 => ?_, ?_⟩
  · unfold f_X7_beginWithout f_X6_lagNow
    rw [z_letE, z_letE, show (z_sI μ 31 6 0).1 1 5 = nI g from (s1.2.2.2 2 (by omega)).trans eg, ← e0]
    show f_X7_beginWithout_h18 (m + 4) (nI sh) (nI 0) x0 = _
    rw [step 0 _ x0 (by omega) t0, step 1 _ _ (by omega) t1, step 2 _ _ (by omega) t2, ← e3, f_X7_beginWithout_h18, if_neg (show ¬ nI (2 + 1) < (3 : Int32) by decide), z_letE]
    exact k1
  · rw [k3 31 (by decide), cf 31 (by decide), e3, sI1f (by decide), sI1f (by decide), sI1f (by decide), e0, sI1, if_neg (by omega), sI1, if_pos ⟨rfl, rfl⟩]; rfl
  · rw [k3 31 (by decide), cf 31 (by decide), e3, sI1f (by decide), sI1f (by decide), sI1f (by decide), e0, sI1, if_pos ⟨rfl, rfl⟩]
  · rw [k3 39 (by decide), cf 39 (by decide), e3]
    rcases (show i = 0 ∨ i = 1 ∨ i = 2 by omega) with rfl | rfl | rfl <;> simp [sI1]
  · rw [k3 k h2, cf k h2, e3, sI1f h3, sI1f h3, sI1f h3, f0 k h1]
  · rw [k4]; show x3.2 = _; rw [e3, e0]; rfl
