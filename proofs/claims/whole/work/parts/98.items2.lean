/-! reading the other items -/
theorem rdWay {N : Nat} {x : Nat → Int32} {m s q : Nat} {μ ν : z_M} {S : zS} (r : Rn N x m s μ ν S q) (n : Nat) (hn : 20 ≤ n) : It N x m s q μ ν (f_X3_readWay n μ) (f_X9_takesWay n ν) := by
  obtain ⟨H, W, hH, hW, eH, eW, a3, a4, b8, b9⟩ := r.H
  have hq : q < 2 ^ 31 := by have := r.2.2.2.2.2.2.2.2.2; have := r.1.1; omega
  have c38 : ν.1 0 38 = nI q := r.2.2.2.2.2.2.2.2.1
  unfold f_X3_readWay f_X9_takesWay f_X6_hasRoomForWay f_X6_houseCount
  rw [a4, b9]
  by_cases z : W = 12
  · have e4 : (z_sI μ 45 4 (nI q)).1 45 4 = nI q := by rw [sI1, if_pos ⟨rfl, rfl⟩]
    have nn : ∀ a b c, f_X3_readNumber n a b c (z_sI μ 45 4 (nI q)) = some (0, z_sI μ 45 4 (nI q)) := fun a b c => nopN e4 hq a b c n (by omega)
    have nw : f_X3_readWord 1 n 0 μ = some ((), z_sI μ 45 4 (nI q)) := by
      have w := nopW e4 hq (si := 1) (by omega) n hn 1
      have fm : f_X3_fail (μ.1 45 3) μ = z_sI μ 45 4 (nI q) := by rw [dofail r.2.2.2.2.2.2.1, r.2.2.2.2.2.2.2.1]
      unfold f_X3_readWord at w ⊢
      rw [if_neg (show ¬ (1 : Int32) = 0 by decide)] at w
      rw [if_pos rfl, fm, z_letE]
      exact w
    refine Or.inr ⟨z_sI μ 45 4 (nI q), ν, ?_, ?_, ⟨q, hq, e4, c38⟩, (FS.rf μ).sI (by omega), FT.rf ν⟩
    · rw [z, if_neg (show ¬ nI 12 < 12 by decide)]
      simp only [nw, z_bindS, nn, e4, notm1 hq, if_false]
    · rw [z, if_pos (show nI 12 = 12 from rfl)]
  · rw [if_pos (show nI W < 12 from nI_lt (b := 12) (by omega) (by omega)), if_neg (show ¬ nI W = 12 from nI_ne (b := 12) (by omega) (by omega) z)]
    rcases rdW (si := 1) (by omega) 1 q μ ν r (by decide) n hn with ⟨μ1, ν1, g1, g2, r1, f1, t1⟩ | ⟨μ1, ν1, g1, g2, ⟨f, hf, e4, e38⟩, f1, t1⟩
    · have a31 : μ1.1 15 3 = nI H := (r1.2.1.2.2.2 0 (by omega)).trans eH
      have b81 : ν1.1 0 8 = nI H := r1.2.2.1.2.2.2.1.trans eH
      rcases rdN1 r1 0 (nI H - 1) n hn with ⟨v, μ2, ν2, h1, h2, ⟨f, hf, e4, e38⟩, f2, t2⟩ | ⟨v1, μ2, ν2, q2, hq2, h1, h2, r2, d2, l1, u1, v1k, f2, t2⟩
      · have nn : ∀ a b c, f_X3_readNumber n a b c μ2 = some (0, μ2) := fun a b c => nopN e4 hf a b c n (by omega)
        refine Or.inr ⟨μ2, ν2, ?_, ?_, ⟨f, hf, e4, e38⟩, f1.tr f2, t1.tr t2⟩
        · simp only [g1, z_bindS, a31, h1, nn, e4, notm1 hf, if_false]
        · simp only [g2, z_bindS, b81, h2, if_true, ifn]
      · have a32 : μ2.1 15 3 = nI H := (r2.2.1.2.2.2 0 (by omega)).trans eH
        have b82 : ν2.1 0 8 = nI H := r2.2.2.1.2.2.2.1.trans eH
        have hv1 := lt_pred v1k (by omega) u1
        rcases rdN r2 0 (nI H - 1) (nI v1) n hn with ⟨v, μ3, ν3, h3, h4, ⟨f, hf, e4, e38⟩, f3, t3⟩ | ⟨v2, μ3, ν3, st, h3, h4, hu, d3, d39, e4, hst, v2k, f3, t3⟩ | ⟨v2, μ3, ν3, q3, hq3, h3, h4, r3, hu, d3, l2, u2, v2k, f3, t3⟩
        · have nn : ∀ a b c, f_X3_readNumber n a b c μ3 = some (0, μ3) := fun a b c => nopN e4 hf a b c n (by omega)
          refine Or.inr ⟨μ3, ν3, ?_, ?_, ⟨f, hf, e4, e38⟩, f1.tr (f2.tr f3), t1.tr (t2.tr t3)⟩
          · simp only [g1, z_bindS, a31, a32, h1, h3, nn, e4, notm1 hf, if_false]
          · simp only [g2, z_bindS, b81, b82, h2, h4, if_true, ifn, z_letE]
        · have nn : ∀ a b c, f_X3_readNumber n a b c μ3 = some (0, μ3) := fun a b c => nopN e4 hst a b c n (by omega)
          refine Or.inr ⟨μ3, z_sI ν3 0 38 (nI st), ?_, ?_, ⟨st, hst, e4, by rw [sI1, if_pos ⟨rfl, rfl⟩]⟩, f1.tr (f2.tr f3), (t1.tr (t2.tr t3)).sI (by unfold LT; omega)⟩
          · simp only [g1, z_bindS, a31, a32, h1, h3, nn, e4, notm1 hst, if_false]
          · simp only [g2, z_bindS, b81, b82, h2, h4, ifn, z_letE, d2, d3, d39, hu, if_true]
        · have hv2 := lt_pred v2k (by omega) u2
          have hne : ¬ nI v1 = nI v2 := fun e => hu e.symm
          rcases rdN1 r3 1 60 n hn with ⟨v, μ4, ν4, h5, h6, ⟨f, hf, e4, e38⟩, f4, t4⟩ | ⟨v3, μ4, ν4, q4, hq4, h5, h6, r4, d4, l3, u3, v3k, f4, t4⟩
          · refine Or.inr ⟨μ4, ν4, ?_, ?_, ⟨f, hf, e4, e38⟩, f1.tr (f2.tr (f3.tr f4)), t1.tr (t2.tr (t3.tr t4))⟩
            · simp only [g1, z_bindS, a31, a32, h1, h3, h5, e4, notm1 hf, if_false]
            · simp only [g2, z_bindS, b81, b82, h2, h4, h6, ifn, z_letE, d2, d3, hne, if_true, if_false]
          · obtain ⟨T4, s14, s24, V4, e23, e24, e4, e3, e38, hq4'⟩ := r4
            obtain ⟨μ5, k1, k2, k3, k4⟩ := cAddWay (q := 15) (a := nI v1) (b := nI v2) (m := nI v3) s14 (by omega) eW
            obtain ⟨ν5, j1, j2, j3, j4⟩ := mAddWay' (a := nI v1) (b := nI v2) (m := nI v3) s24 (by omega) eW
            have f5 : FS μ4 μ5 := ⟨fun k h1 h2 h3 h4 h5 => k3 k h1 h3, k4⟩
            have b3 : v3 < 61 := by
              apply Classical.byContradiction
              intro c
              exact u3 (nI_lt (a := 60) (by omega) (by omega))
            refine Or.inl ⟨μ5, ν5, sAW S W (nI v1) (nI v2) (nI v3), q4, ?_, ?_, ⟨T4.mv f5 j3, k2, j2, V4.addWay (sH_of eH hH) (by omega) eW ⟨v1, hv1, rfl⟩ ⟨v2, hv2, rfl⟩ hne ⟨v3, b3, rfl⟩, by rw [j4 23 (by omega)]; exact e23, by rw [j4 24 (by omega)]; exact e24, ?_, ?_, by rw [j4 38 (by omega)]; exact e38, hq4'⟩, by have := hq2; have := hq3; omega, f1.tr (f2.tr (f3.tr (f4.tr f5))), t1.tr (t2.tr (t3.tr (t4.tr j3)))⟩
            · simp only [g1, z_bindS, a31, a32, h1, h3, h5, e4, if_true, k1, z_letE]
            · simp only [g2, z_bindS, b81, b82, h2, h4, h6, ifn, z_letE, d2, d3, d4, hne, if_false, j1]
            · rw [k3 45 (by omega) (by omega)]; exact e4
            · rw [k3 45 (by omega) (by omega)]; exact e3
    · have nn : ∀ a b c, f_X3_readNumber n a b c μ1 = some (0, μ1) := fun a b c => nopN e4 hf a b c n (by omega)
      refine Or.inr ⟨μ1, ν1, ?_, ?_, ⟨f, hf, e4, e38⟩, f1, t1⟩
      · simp only [g1, z_bindS, nn, e4, notm1 hf, if_false]
      · simp only [g2, z_bindS, if_true]
theorem FS.clr {a b : z_M} (h : FS a b) {n : Nat} : FS a (g_clr 21 n b) := by
  refine ⟨fun x h1 h2 h3 h4 h5 => ?_, h.2⟩
  rw [← h.1 x h1 h2 h3 h4 h5]
  funext y
  show (if x = 21 ∧ y < n then 0 else b.1 x y) = _
  rw [if_neg (fun e => h4 e.1)]
/-- what is read by the reference for the three short items -/
def kS (n : Nat) (ν : z_M) : Option (Int32 × z_M) := z_bind (f_X9_takesWord 2 n ν) (fun p12 => if p12.1 = 0 then (some (0, p12.2)) else (z_bind (f_X9_takesNumber n 0 ((p12.2.1 0 9) - 1) p12.2) (fun p13 => if p13.1 = 0 then (some (0, p13.2)) else (z_chk (p13.2.1 0 40) 12 (z_let (z_sI p13.2 8 (z_ix (p13.2.1 0 40)) 1) (fun m14 => some (1, m14)))))))
def kL (n : Nat) (ν : z_M) : Option (Int32 × z_M) := z_bind (f_X9_takesWord 3 n ν) (fun p7 => if p7.1 = 0 then (some (0, p7.2)) else (z_bind (f_X9_takesNumber n 1 3 p7.2) (fun p8 => if p8.1 = 0 then (some (0, p8.2)) else (z_let (z_sI p8.2 0 10 (p8.2.1 0 40)) (fun m9 => z_let (z_sI m9 0 23 (m9.1 0 40)) (fun m10 => z_chk 0 9 (z_let (z_sI m10 14 (z_ix 0) 0) (fun m11 => some (1, m11)))))))))
def kB (n : Nat) (ν : z_M) : Option (Int32 × z_M) := z_bind (f_X9_takesWord 4 n ν) (fun p2 => if p2.1 = 0 then (some (0, p2.2)) else (z_bind (f_X9_takesNumber n 0 ((p2.2.1 0 8) - 1) p2.2) (fun p3 => if p3.1 = 0 then (some (0, p3.2)) else (z_chk 0 9 (z_let (z_sI p3.2 9 (z_ix 0) (p3.2.1 0 40)) (fun m4 => z_chk 0 9 (z_let (z_sI m4 14 (z_ix 0) 0) (fun m5 => some (1, m5)))))))))
theorem rdShut {N : Nat} {x : Nat → Int32} {m s q : Nat} {μ ν : z_M} {S : zS} (r : Rn N x m s μ ν S q) (n : Nat) (hn : 20 ≤ n) : It N x m s q μ ν (f_X3_readShut n μ) (kS n ν) := by
  obtain ⟨H, W, hH, hW, eH, eW, a3, a4, b8, b9⟩ := r.H
  unfold f_X3_readShut kS f_X6_wayCount
  rcases rdW (si := 2) (by omega) 1 q μ ν r (by decide) n hn with ⟨μ1, ν1, g1, g2, r1, f1, t1⟩ | ⟨μ1, ν1, g1, g2, ⟨f, hf, e4, e38⟩, f1, t1⟩
  · have a31 : μ1.1 15 4 = nI W := (r1.2.1.2.2.2 1 (by omega)).trans eW
    have b81 : ν1.1 0 9 = nI W := r1.2.2.1.2.2.2.2.1.trans eW
    rcases rdN1 r1 0 (nI W - 1) n hn with ⟨v, μ2, ν2, h1, h2, ⟨f, hf, e4, e38⟩, f2, t2⟩ | ⟨v1, μ2, ν2, q2, hq2, h1, h2, r2, d2, l1, u1, v1k, f2, t2⟩
    · refine Or.inr ⟨μ2, ν2, ?_, ?_, ⟨f, hf, e4, e38⟩, f1.tr f2, t1.tr t2⟩
      · simp only [g1, z_bindS, a31, h1, e4, notm1 hf, if_false]
      · simp only [g2, z_bindS, b81, h2, if_true, ifn]
    · have hv1 := lt_pred v1k (by omega) u1
      obtain ⟨T4, s14, s24, V4, e23, e24, e4, e3, e38, hq4'⟩ := r2
      have v12 : v1 < 12 := by omega
      have cs : ∃ w μ5, f_X6_changeShut 15 (nI v1) 1 μ2 = (w, μ5) ∧ StC 15 μ5 (sU S 8 v1 1) ∧ FS μ2 μ5 ∧ μ5.1 45 = μ2.1 45 := by
        unfold f_X6_changeShut f_X6_changeShut_b9
        rw [if_neg (show ¬ (1 : Int32) = 0 by decide), cW3 s14 v12, cV3 v12]
        by_cases c : S 8 v1 = 1
        · rw [if_pos c]
          refine ⟨_, _, rfl, s14.eqv (fun a i _ => ?_), FS.rf _, rfl⟩
          rw [sUE]
          by_cases h : a = 8 ∧ i = v1
          · rw [if_pos h, h.1, h.2, c]
          · rw [if_neg h]
        · rw [if_neg c]
          exact ⟨_, _, rfl, s14.setW (k := 3) (by omega) v12, (FS.rf μ2).sI (by omega), rfl⟩
      obtain ⟨w, μ5, k1, k2, k3, k4⟩ := cs
      have t5 : FT ν2 (z_sI ν2 8 v1 1) := (FT.rf ν2).sI (by unfold LT; omega)
      refine Or.inl ⟨μ5, z_sI ν2 8 v1 1, sU S 8 v1 1, q2, ?_, ?_, ⟨T4.mv k3 t5, k2, s24.set8 v12, V4.shut ⟨1, by omega, rfl⟩, e23, e24, by rw [k4]; exact e4, by rw [k4]; exact e3, e38, hq4'⟩, by omega, f1.tr (f2.tr k3), t1.tr (t2.tr t5)⟩
      · simp only [g1, z_bindS, a31, h1, e4, if_true, k1, z_letE]
      · simp only [g2, z_bindS, b81, h2, ifn, d2, z_letE]
        rw [z_chkN v12 (by decide), z_ixN (by omega)]
  · have nn : ∀ a b c, f_X3_readNumber n a b c μ1 = some (0, μ1) := fun a b c => nopN e4 hf a b c n (by omega)
    refine Or.inr ⟨μ1, ν1, ?_, ?_, ⟨f, hf, e4, e38⟩, f1, t1⟩
    · simp only [g1, z_bindS, nn, e4, notm1 hf, if_false]
    · simp only [g2, z_bindS, if_true]
theorem rdLag {N : Nat} {x : Nat → Int32} {m s q : Nat} {μ ν : z_M} {S : zS} (r : Rn N x m s μ ν S q) (n : Nat) (hn : 20 ≤ n) : It N x m s q μ ν (f_X3_readLag n μ) (kL n ν) := by
  unfold f_X3_readLag kL
  rcases rdW (si := 3) (by omega) 1 q μ ν r (by decide) n hn with ⟨μ1, ν1, g1, g2, r1, f1, t1⟩ | ⟨μ1, ν1, g1, g2, ⟨f, hf, e4, e38⟩, f1, t1⟩
  · rcases rdN1 r1 1 3 n hn with ⟨v, μ2, ν2, h1, h2, ⟨f, hf, e4, e38⟩, f2, t2⟩ | ⟨v1, μ2, ν2, q2, hq2, h1, h2, r2, d2, l1, u1, v1k, f2, t2⟩
    · refine Or.inr ⟨μ2, ν2, ?_, ?_, ⟨f, hf, e4, e38⟩, f1.tr f2, t1.tr t2⟩
      · simp only [g1, z_bindS, h1, e4, notm1 hf, if_false]
      · simp only [g2, z_bindS, h2, if_true, ifn]
    · obtain ⟨T4, s14, s24, V4, e23, e24, e4, e3, e38, hq4'⟩ := r2
      have b1 : 1 ≤ v1 := by
        apply Classical.byContradiction
        intro c
        exact l1 (nI_lt (b := 1) (by omega) (by omega))
      have b3 : v1 ≤ 3 := by
        apply Classical.byContradiction
        intro c
        exact u1 (nI_lt (a := 3) (by omega) (by omega))
      have k3 : FS μ2 (g_clr 21 3 (z_sI μ2 15 5 (nI v1))) := ((FS.rf μ2).sI (by omega)).clr
      have t5 : FT ν2 (z_sI (z_sI (z_sI ν2 0 10 (nI v1)) 0 23 (nI v1)) 14 0 0) := (((FT.rf ν2).sI (by unfold LT; omega)).sI (by unfold LT; omega)).sI (by unfold LT; omega)
      have c45 : (g_clr 21 3 (z_sI μ2 15 5 (nI v1))).1 45 = μ2.1 45 := rfl
      refine Or.inl ⟨g_clr 21 3 (z_sI μ2 15 5 (nI v1)), z_sI (z_sI (z_sI ν2 0 10 (nI v1)) 0 23 (nI v1)) 14 0 0, sB0 (sU S 10 2 (nI v1)), q2, ?_, ?_, ⟨T4.mv k3 t5, (s14.setN (x := 2) (by omega)).clr, ((s24.setn2 (v := nI v1)).mv (j := 23) (by omega)).clr, (V4.lag b1 b3).clr, rfl, e24, by rw [c45]; exact e4, by rw [c45]; exact e3, e38, hq4'⟩, by omega, f1.tr (f2.tr k3), t1.tr (t2.tr t5)⟩
      · simp only [g1, z_bindS, h1, e4, if_true]; rfl
      · simp only [g2, z_bindS, h2, ifn, d2, z_letE]
        rw [show (z_sI ν2 0 10 (nI v1)).1 0 40 = nI v1 by rw [sI1, if_neg (by omega)]; exact d2, show z_chk 0 9 = z_chk (nI 0) 9 from rfl, z_chkN (by omega) (by decide)]; rfl
  · have nn : ∀ a b c, f_X3_readNumber n a b c μ1 = some (0, μ1) := fun a b c => nopN e4 hf a b c n (by omega)
    refine Or.inr ⟨μ1, ν1, ?_, ?_, ⟨f, hf, e4, e38⟩, f1, t1⟩
    · simp only [g1, z_bindS, nn, e4, notm1 hf, if_false]
    · simp only [g2, z_bindS, if_true]
theorem rdBird {N : Nat} {x : Nat → Int32} {m s q : Nat} {μ ν : z_M} {S : zS} (r : Rn N x m s μ ν S q) (n : Nat) (hn : 20 ≤ n) : It N x m s q μ ν (f_X3_readBird n μ) (kB n ν) := by
  obtain ⟨H, W, hH, hW, eH, eW, a3, a4, b8, b9⟩ := r.H
  unfold f_X3_readBird kB f_X6_houseCount
  rcases rdW (si := 4) (by omega) 1 q μ ν r (by decide) n hn with ⟨μ1, ν1, g1, g2, r1, f1, t1⟩ | ⟨μ1, ν1, g1, g2, ⟨f, hf, e4, e38⟩, f1, t1⟩
  · have a31 : μ1.1 15 3 = nI H := (r1.2.1.2.2.2 0 (by omega)).trans eH
    have b81 : ν1.1 0 8 = nI H := r1.2.2.1.2.2.2.1.trans eH
    rcases rdN1 r1 0 (nI H - 1) n hn with ⟨v, μ2, ν2, h1, h2, ⟨f, hf, e4, e38⟩, f2, t2⟩ | ⟨v1, μ2, ν2, q2, hq2, h1, h2, r2, d2, l1, u1, v1k, f2, t2⟩
    · refine Or.inr ⟨μ2, ν2, ?_, ?_, ⟨f, hf, e4, e38⟩, f1.tr f2, t1.tr t2⟩
      · simp only [g1, z_bindS, a31, h1, e4, notm1 hf, if_false]
      · simp only [g2, z_bindS, b81, h2, if_true, ifn]
    · have hv1 := lt_pred v1k (by omega) u1
      obtain ⟨T4, s14, s24, V4, e23, e24, e4, e3, e38, hq4'⟩ := r2
      have k3 : FS μ2 (g_clr 21 3 (z_sI μ2 15 6 (nI v1))) := ((FS.rf μ2).sI (by omega)).clr
      have t5 : FT ν2 (z_sI (z_sI ν2 9 0 (nI v1)) 14 0 0) := ((FT.rf ν2).sI (by unfold LT; omega)).sI (by unfold LT; omega)
      have c45 : (g_clr 21 3 (z_sI μ2 15 6 (nI v1))).1 45 = μ2.1 45 := rfl
      refine Or.inl ⟨g_clr 21 3 (z_sI μ2 15 6 (nI v1)), z_sI (z_sI ν2 9 0 (nI v1)) 14 0 0, sB0 (sU S 10 3 (nI v1)), q2, ?_, ?_, ⟨T4.mv k3 t5, (s14.setN (x := 3) (by omega)).clr, (s24.setn3 (v := nI v1)).clr, (V4.bird ⟨v1, by rw [sH_of eH hH]; exact hv1, rfl⟩).clr, e23, e24, by rw [c45]; exact e4, by rw [c45]; exact e3, e38, hq4'⟩, by omega, f1.tr (f2.tr k3), t1.tr (t2.tr t5)⟩
      · simp only [g1, z_bindS, a31, h1, e4, if_true]; rfl
      · simp only [g2, z_bindS, b81, h2, ifn, d2, z_letE]
        rw [show z_chk 0 9 = z_chk (nI 0) 9 from rfl, z_chkN (by omega) (by decide), z_chkN (by omega) (by decide)]; rfl
  · have nn : ∀ a b c, f_X3_readNumber n a b c μ1 = some (0, μ1) := fun a b c => nopN e4 hf a b c n (by omega)
    refine Or.inr ⟨μ1, ν1, ?_, ?_, ⟨f, hf, e4, e38⟩, f1, t1⟩
    · simp only [g1, z_bindS, nn, e4, notm1 hf, if_false]
    · simp only [g2, z_bindS, if_true]
