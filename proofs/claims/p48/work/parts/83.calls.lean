/-! what the calls answer that think -/
/-- the class's memory in a street with a bird -/
def Cs (μ : z_M) (S : zS) (H W g b : Nat) : Prop := StC 1 μ S ∧ (∃ N, Vd N S) ∧ (S 10 0 = nI H ∧ S 10 1 = nI W ∧ S 10 2 = nI g) ∧ (H ≤ 8 ∧ W ≤ 12 ∧ 1 ≤ g ∧ g ≤ 3) ∧ (S 10 3 = nI b ∧ b < H) ∧ μ.1 41 0 = 0
theorem Cs.kc {μ μ' : z_M} {S : zS} {H W g b : Nat} (C : Cs μ S H W g b) (k : KC μ μ') : Cs μ' S H W g b := by
  obtain ⟨s1, V, e, h, hb, z⟩ := C
  exact ⟨s1.same (fun j => k.1 3 j (by unfold LC; omega)) (fun j => k.1 5 j (by unfold LC; omega)) (fun j => k.1 7 j (by unfold LC; omega)) (fun j => k.1 1 j (by unfold LC; omega)), V, e, h, hb, (k.1 41 0 (by unfold LC; omega)).trans z⟩
theorem isH_y {μ : z_M} {H i : Nat} (c3 : μ.1 1 3 = nI H) (hH : H ≤ 8) (hi : i < H) : f_X6_isHouse 1 (nI i) μ = 1 := by
  unfold f_X6_isHouse
  rw [c3, if_neg (nI_pos (by omega)), if_pos (nI_lt hi (by omega))]
theorem isSet_y {v : Nat} (hv : v < 256) (μ : z_M) : f_X8_isSet (nI v) μ = 1 := by
  unfold f_X8_isSet
  rw [if_neg (nI_pos (by omega)), if_neg (show ¬ (255 : Int32) < nI v from nI_nlt (a := 255) (by omega) (by omega))]
theorem isCnt_y {k a b : Nat} (ha : a ≤ k) (hb : k ≤ b) (hb2 : b < 2 ^ 31) (μ : z_M) : f_X8_isCount (nI k) (nI a) (nI b) μ = 1 := by
  unfold f_X8_isCount
  rw [if_neg (nI_nlt ha (by omega)), if_neg (nI_nlt hb (by omega))]
theorem bird_y {μ : z_M} {b : Nat} (c6 : μ.1 1 6 = nI b) (hb : b < 8) : f_X6_hasBird 1 μ = 1 := by
  unfold f_X6_hasBird
  rw [c6, if_neg (fun e => by rw [nI_em1 (by omega)] at e; exact e)]
theorem Cs.c3 {μ : z_M} {S : zS} {H W g b : Nat} (C : Cs μ S H W g b) : μ.1 1 3 = nI H := (C.1.2.2.2 0 (by omega)).trans C.2.2.1.1
theorem Cs.c4 {μ : z_M} {S : zS} {H W g b : Nat} (C : Cs μ S H W g b) : μ.1 1 4 = nI W := (C.1.2.2.2 1 (by omega)).trans C.2.2.1.2.1
theorem Cs.c5 {μ : z_M} {S : zS} {H W g b : Nat} (C : Cs μ S H W g b) : μ.1 1 5 = nI g := (C.1.2.2.2 2 (by omega)).trans C.2.2.1.2.2
theorem Cs.c6 {μ : z_M} {S : zS} {H W g b : Nat} (C : Cs μ S H W g b) : μ.1 1 6 = nI b := (C.1.2.2.2 3 (by omega)).trans C.2.2.2.2.1.1
theorem Cs.b8 {μ : z_M} {S : zS} {H W g b : Nat} (C : Cs μ S H W g b) : b < 8 := Nat.lt_of_lt_of_le C.2.2.2.2.1.2 C.2.2.2.1.1
theorem Cs.thought {μ : z_M} {S : zS} {H W g b i v : Nat} (C : Cs μ S H W g b) (hi : i < H) (hv : v < 256) : f_X8_troubleInThought (nI i) (nI v) 1 μ = 0 := by
  unfold f_X8_troubleInThought
  rw [isH_y C.c3 C.2.2.2.1.1 hi, ifn, isSet_y hv, ifn, ifn, bird_y C.c6 C.b8, ifn]
theorem Cs.sd {μ : z_M} {S : zS} {H W g b : Nat} (C : Cs μ S H W g b) : ∃ N, Sd N S H W g b (t00 S false 0) := by
  obtain ⟨s1, ⟨N, V⟩, ⟨eH, eW, eg⟩, ⟨hH, hW, h1, h3⟩, ⟨eb, hb⟩, z⟩ := C
  exact ⟨N, Sd.of V eH eW hH hW eb hb h1 h3⟩
theorem Cs.start {μ : z_M} {S : zS} {H W g b : Nat} (C : Cs μ S H W g b) (n : Nat) (hn : 20 ≤ n) : ∃ μ', f_X7_begin n μ = some ((), μ') ∧ Wk μ' S H W g 0 b (t00 S false 0) [] ∧ KC μ μ' ∧ (∀ k, k ≠ 31 → k ≠ 33 → k ≠ 39 → μ'.1 k = μ.1 k) := by
  obtain ⟨s1, ⟨N, V⟩, ⟨eH, eW, eg⟩, ⟨hH, hW, h1, h3⟩, ⟨eb, hb⟩, z⟩ := C
  obtain ⟨μ0, q1, q2, q3, q4⟩ := cBegin' (sh := 0) (b := b) (sp := 0) z s1 V eH eW eg hH hW (by omega) n hn
  refine ⟨μ0, ?_, q2, q3, q4⟩
  unfold f_X7_begin
  have q1' : f_X7_beginWithout n 0 μ = some ((), μ0) := q1
  rw [q1', z_bindS]
/-- what is heard at house i on route p -/
noncomputable def hdV (S : zS) (g W b : Nat) (p : List Nat) (i : Nat) : Int32 := tR S g (fun a c => sLk S 0 a c W) b (t00 S false 0) p 1 i
noncomputable def RvV (S : zS) (g W b k i : Nat) : Int32 := List.foldl (fun s p => s ||| hdV S g W b p i) 0 ([] :: rts S 0 W b k)
theorem cReach {μ : z_M} {S : zS} {H W g b i k : Nat} (C : Cs μ S H W g b) (hi : i < H) (hk : k ≤ 6) : ∃ μ', f_X8_reach 700000 (nI i) (nI k) μ = some (RvV S g W b k i, μ') ∧ KC μ μ' := by
  obtain ⟨N, dd⟩ := C.sd
  have hH := C.2.2.2.1.1
  obtain ⟨L1, L2⟩ := rts_ok S 0 W b hk
  obtain ⟨μ0, a1, a2, a3, a4⟩ := C.start 700000 (by omega)
  obtain ⟨μ', u1, u2, -, -⟩ := cAll dd hk (fun n more c s m => f_X4_wordsInReach_h15 n (nI i) (nI k) s more c m) (fun p s => s ||| hdV S g W b p i) id (fun _ _ _ => True) (fun _ _ _ _ _ _ => trivial) (fun n c s m _ => rfl) (fun n c p s m hn hc o w _ => by
    refine ⟨m, w, trivial, KC.rf m, ?_⟩
    have ol := o.1
    show f_X4_wordsInReach_h15 (n + 1) _ _ _ _ _ _ = _
    rw [f_X4_wordsInReach_h15, if_neg (by decide), if_pos (show nI c < 1000000 from nI_lt (b := 1000000) hc (by omega)), cHeard w.2.2.2.2 hH (fun _ => rfl) w.2.2.1 (show p.length ≤ 40 by omega) (show i < 2 ^ 31 by omega) n (by omega), z_bindS, z_letE]
    rw [i_succ]; rfl) (rts S 0 W b k) [] 0 0 700000 μ0 L1 (okR_nil H k) (by omega) (by omega) a2 trivial
  refine ⟨μ', ?_, a3.tr u2⟩
  unfold f_X8_reach
  rw [show f_X8_isCount (nI k) 0 6 μ = 1 from isCnt_y (a := 0) (b := 6) (by omega) hk (by omega) μ, show f_X8_troubleInThought (nI i) 0 1 μ = 0 from C.thought (v := 0) hi (by omega), z_letE, if_pos rfl]
  unfold f_X4_wordsInReach
  have u1' : f_X4_wordsInReach_h15 700000 (nI i) (nI k) 0 1 0 μ0 = _ := u1
  rw [a1, z_bindS, u1', z_bindS]; rfl
noncomputable def FvV (S : zS) (g W b i : Nat) (set : Int32) : Nat := List.foldl (fun f p => stF S g W b (t00 S false 0) i set p f) 7 ([] :: rts S 0 W b 6)
theorem cFirst {μ : z_M} {S : zS} {H W g b i k : Nat} (C : Cs μ S H W g b) (hi : i < H) (hk : k < 256) : ∃ μ', f_X8_first 700000 (nI i) (nI k) μ = some (bst (FvV S g W b i (nI k)), μ') ∧ KC μ μ' := by
  obtain ⟨N, dd⟩ := C.sd
  have hH := C.2.2.2.1.1
  obtain ⟨L1, L2⟩ := rts_ok S 0 W b (k := 6) (Nat.le_refl 6)
  obtain ⟨μ0, a1, a2, a3, a4⟩ := C.start 700000 (by omega)
  obtain ⟨μ', u1, u2, -, -⟩ := cAll dd (Nat.le_refl 6) (fun n more c f m => f_X4_fewestVisits_h18 n (nI i) (nI k) (nI 6) (nI f) more c m) (stF S g W b (t00 S false 0) i (nI k)) (fun f => if f = 7 then (-1 : Int32) else nI f) (fun _ f _ => f ≤ 7) (fun _ _ _ _ _ h => h) (fun n c f m hf => by
    show f_X4_fewestVisits_h18 (n + 1) _ _ _ _ _ _ _ = _
    rw [f_X4_fewestVisits_h18, if_pos rfl]
    unfold f_X4_fewestVisits_b76
    by_cases z : f = 7
    · rw [if_pos z, z, if_pos (by decide)]
    · rw [if_neg z, if_neg (nI_nlt (by omega) (by omega))]) (fun n c p f m hn hc o w hf => by
    refine ⟨m, w, stF_le hf, KC.rf m, ?_⟩
    have ol := o.1
    show f_X4_fewestVisits_h18 (n + 1) _ _ _ _ _ _ _ = _
    rw [f_X4_fewestVisits_h18, if_neg (by decide), if_pos (show nI c < 1000000 from nI_lt (b := 1000000) hc (by omega))]
    unfold f_X7_visitsMade f_X4_fewestVisits_b60
    rw [w.2.2.1]
    have hh := cHA dd w (Nat.le_refl 6) o (show i < 8 by omega) (nI k) n (by omega)
    unfold stF
    by_cases z : p.length < f
    · rw [if_pos (nI_lt z (by omega))]
      by_cases z2 : hrA S 0 g W b (t00 S false 0) i (nI k) p
      · rw [hh.1 z2, z_bindS, if_pos (show _ ∧ _ from ⟨z, z2⟩)]
        dsimp only
        rw [ifn, w.2.2.1, z_letE, i_succ]
      · rw [hh.2 z2, z_bindS, if_neg (show ¬ (p.length < f ∧ hrA S 0 g W b (t00 S false 0) i (nI k) p) from fun q => z2 q.2)]
        dsimp only
        rw [ifz, i_succ]
    · rw [if_neg (nI_nlt (by omega) (by omega)), if_neg (fun q => z q.1), i_succ]) (rts S 0 W b 6) [] 7 0 700000 μ0 L1 (okR_nil H 6) (by omega) (by omega) a2 (by omega)
  refine ⟨μ', ?_, a3.tr u2⟩
  unfold f_X8_first
  rw [C.thought hi hk, z_letE, if_pos rfl]
  unfold f_X4_fewestVisits
  have u1' : f_X4_fewestVisits_h18 700000 (nI i) (nI k) 6 (6 + 1) 1 0 μ0 = _ := u1
  rw [a1, z_letE, z_bindS, u1', z_bindS]; rfl
theorem cShuts {μ : z_M} {S : zS} {H W g b i k v : Nat} (C : Cs μ S H W g b) (hi : i < H) (hv : v < 256) (h1 : 1 ≤ k) (h4 : k ≤ 4) : ∃ u μ', f_X8_shuts 700000 (nI i) (nI v) (nI k) μ = some (nI u, μ') ∧ mn S g W b k i (nI v) u ∧ KC μ μ' := by
  have C' := C
  obtain ⟨s1, ⟨N, V⟩, ⟨eH, eW, eg⟩, ⟨hH, hW, hg1, hg3⟩, ⟨eb, hb⟩, z⟩ := C
  obtain ⟨u, μ', u1, u2, u3⟩ := cShut (set := nI v) V eH eW eg hH hW hg1 hg3 hb eb (show k ≤ 6 by omega) (show i < 8 by omega) 13 0 700000 μ (by omega) (by omega) z s1 (fun v' h => by omega)
  refine ⟨u, μ', ?_, u1, u3⟩
  unfold f_X8_shuts
  rw [show f_X8_isCount (nI k) 1 4 μ = 1 from isCnt_y (a := 1) (b := 4) h1 h4 (by omega) μ, C'.thought hi hv, z_letE, if_pos rfl]
  unfold f_X4_fewestToShut
  have u2' : f_X4_fewestToShut_h12 700000 (nI i) (nI v) (nI k) (nI (sMk S W)) 0 μ = some (nI u, μ') := u2
  rw [cOpenWays s1 C'.c4 hW 700000 (by omega), z_bindS, u2', z_bindS]
noncomputable def OvV (S : zS) (g W b i : Nat) (set : Int32) (k : Nat) : Int64 := List.foldl (fun s p => s + cC S g W b (t00 S false 0) i set k p) 0 ([] :: rts S 0 W b k)
theorem cOddsT {μ : z_M} {S : zS} {H W g b i k v : Nat} (C : Cs μ S H W g b) (hi : i < H) (hv : v < 256) (h1 : 1 ≤ k) (h4 : k ≤ 4) : ∃ μ', f_X8_odds 700000 (nI i) (nI v) (nI k) μ = some (OvV S g W b i (nI v) k, μ') ∧ KC μ μ' := by
  obtain ⟨N, dd⟩ := C.sd
  have hH := C.2.2.2.1.1
  obtain ⟨L1, L2⟩ := rts_ok S 0 W b (show k ≤ 6 by omega)
  obtain ⟨μ0, a1, a2, a3, a4⟩ := C.start 700000 (by omega)
  obtain ⟨μ', u1, u2⟩ := cOdds (set := nI v) dd (show k ≤ 6 by omega) (show i < 8 by omega) L1 L2 a2
  refine ⟨μ', ?_, a3.tr u2⟩
  unfold f_X8_odds
  rw [show f_X8_isCount (nI k) 1 4 μ = 1 from isCnt_y (a := 1) (b := 4) h1 h4 (by omega) μ, C.thought hi hv, z_letE, if_pos rfl]
  unfold f_X4_oddsToHear
  rw [a1, z_bindS, u1, z_bindS]; rfl
noncomputable def AvV (S : zS) (g W b k i j : Nat) (set : Int32) : Option (List Nat) := List.foldl (fun o p => stQ S g W b (t00 S false 0) 0 ((1 : Int32) <<< (nI i &&& 31)) ((1 : Int32) <<< (nI j &&& 31)) set p o) none ([] :: rts S 0 W b k)
def tdv (T : List Nat → zT) (o : Option (List Nat)) (x r : Int32) : Prop := match o with
  | none => r = -1
  | some p => p.length ≤ 6 ∧ (x = 0 → r = T p 4 1) ∧ (x = 1 → r = nI p.length) ∧ ∀ j, j < p.length → x = nI (2 + j) → r = nI (hsAt p j)
theorem told_v {T : List Nat → zT} {o : Option (List Nat)} {μ : z_M} (q : QC T o μ) (x : Int32) : tdv T o x (f_X4_told x μ) := by
  unfold f_X4_told
  cases o with
  | none =>
    have q' : μ.1 42 3 = 0 := q
    show (if μ.1 42 3 = 0 then _ else _) = _
    rw [if_pos q']
  | some p =>
    obtain ⟨q1, q2, q3, q4, q5⟩ := q
    refine ⟨q1, fun e => ?_, fun e => ?_, fun j hj e => ?_⟩
    · rw [if_neg q2, if_pos e, q3]
    · rw [if_neg q2, e, if_neg (by decide), if_pos rfl, q4]
    · rw [if_neg q2, e, if_neg (show ¬ nI (2 + j) = 0 from nI_ne (b := 0) (by omega) (by omega) (by omega)), if_neg (show ¬ nI (2 + j) = 1 from nI_ne (b := 1) (by omega) (by omega) (by omega)), if_neg (show ¬ nI (2 + j) < 2 from nI_nlt (b := 2) (by omega) (by omega)), show nI (2 + j) - 2 = nI (2 + j - 2) from nI_sub (b := 2) (by omega), show 2 + j - 2 = j by omega, q4, if_pos (nI_lt hj (by omega)), g_getN (by omega) (by decide), q5 j hj]
theorem cAimT {μ : z_M} {S : zS} {H W g b i j k v : Nat} (C : Cs μ S H W g b) (hi : i < H) (hj : j < H) (hv : v < 256) (h1 : 1 ≤ k) (h6 : k ≤ 6) (x : Int32) (hx : ¬ x < 0) : ∃ r μ', f_X8_aim 700000 (nI i) (nI j) (nI v) (nI k) x μ = some (r, μ') ∧ tdv (tR S g (fun a c => sLk S 0 a c W) b (t00 S false 0)) (AvV S g W b k i j (nI v)) x r ∧ KC μ μ' := by
  obtain ⟨N, dd⟩ := C.sd
  have hH := C.2.2.2.1.1
  obtain ⟨μ9, e9⟩ : ∃ y, y = z_sI μ 42 3 0 := ⟨_, rfl⟩
  have k9 : KC μ μ9 := by rw [e9]; exact (KC.rf μ).sI (by unfold LC; omega)
  obtain ⟨μ0, a1, a2, a3, a4⟩ := (C.kc k9).start 700000 (by omega)
  obtain ⟨L1, L2⟩ := rts_ok S 0 W b h6
  obtain ⟨μ', u1, u2, u3, -⟩ := cQuick dd h6 0 (by omega) ((1 : Int32) <<< (nI i &&& 31)) ((1 : Int32) <<< (nI j &&& 31)) (nI v) L1 L2 a2 (by rw [a4 42 (by omega) (by omega) (by omega), e9, sI1, if_pos ⟨rfl, rfl⟩])
  refine ⟨f_X4_told x μ', μ', ?_, told_v u3 x, (k9.tr a3).tr u2⟩
  unfold f_X8_aim
  rw [isH_y C.c3 hH hi, ifn, isH_y C.c3 hH hj, ifn]
  have ts : f_X8_troubleInSeeking (nI v) (nI k) x μ = 0 := by
    unfold f_X8_troubleInSeeking
    rw [if_neg hx, isSet_y hv, ifn, show f_X8_isCount (nI k) 1 6 μ = 1 from isCnt_y (a := 1) (b := 6) h1 h6 (by omega) μ, ifn, bird_y C.c6 C.b8, ifn]
  rw [ts, z_letE, if_pos rfl]
  unfold f_X4_quickest
  rw [z_letE, ← e9, a1, z_bindS]
  have u1' : f_X4_quickest_h18 700000 ((1 : Int32) <<< (nI i &&& 31)) ((1 : Int32) <<< (nI j &&& 31)) (nI v) (nI k) 0 1 0 μ0 = some ((), μ') := u1
  rw [u1', z_bindS]
