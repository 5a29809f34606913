/-! lets, outs, calls by what they answer -/
def z_let {α β : Type} (x : α) (f : α → β) : β := f x
def z_oP {M α : Type} (μ : M) (v : α) : Option (α × M) := some (v, μ)
def z_oT {M α : Type} (p : α × M) : Option (α × M) := some p
def z_oV {M : Type} (m : M) : Option (Unit × M) := some ((), m)
theorem z_pT {M α : Type} {x p : α × M} (h : p = x) : z_oT x = some (p.1, p.2) := by rw [h]; rfl
theorem z_pV {M : Type} {x p : M} (h : p = x) : z_oV x = some ((), p) := by rw [h]; rfl
section ZL
variable {M α τ β : Type} {E : z_E M} {y : z_Y} {em : α → Option Value} {pc : Nat} {L : List (Nat × Value)} {S : List Value} {μ : M} {o : τ → Option (α × M)}
theorem z_outIf {C : Prop} {hC : Decidable C} {a b : τ} (k : z_w E y em pc L S μ (@ite _ C hC (o a) (o b))) : z_w E y em pc L S μ (o (@ite _ C hC a b)) := by
  by_cases h : C
  · rw [if_pos h] at k ⊢; exact k
  · rw [if_neg h] at k ⊢; exact k
theorem z_letM {f : M → τ} (k : ∀ m, z_w E y em pc L S m (o (f m))) : z_w E y em pc L S μ (o (z_let μ f)) := k μ
theorem z_letMO {f : M → Option (α × M)} (k : ∀ m, z_w E y em pc L S m (f m)) : z_w E y em pc L S μ (z_let μ f) := k μ
theorem z_letI {x : Int32} {f : Int32 → τ} (k : ∀ v, z_w E y em pc L (.int v :: S) μ (o (f v))) : z_w E y em pc L (.int x :: S) μ (o (z_let x f)) := k x
theorem z_letIO {x : Int32} {f : Int32 → Option (α × M)} (k : ∀ v, z_w E y em pc L (.int v :: S) μ (f v)) : z_w E y em pc L (.int x :: S) μ (z_let x f) := k x
theorem z_letJ {x : Int64} {f : Int64 → τ} (k : ∀ v, z_w E y em pc L (.long v :: S) μ (o (f v))) : z_w E y em pc L (.long x :: S) μ (o (z_let x f)) := k x
theorem z_letJO {x : Int64} {f : Int64 → Option (α × M)} (k : ∀ v, z_w E y em pc L (.long v :: S) μ (f v)) : z_w E y em pc L (.long x :: S) μ (z_let x f) := k x
theorem z_letP {x : β} {f : β → τ} (k : ∀ p, p = x → z_w E y em pc L S μ (o (f p))) : z_w E y em pc L S μ (o (z_let x f)) := k x rfl
theorem z_letPO {x : β} {f : β → Option (α × M)} (k : ∀ p, p = x → z_w E y em pc L S μ (f p)) : z_w E y em pc L S μ (z_let x f) := k x rfl
theorem z_bindP {Gf : Option (β × M)} {Kf : β × M → Option (α × M)} (k : ∀ p, Gf = some p → z_w E y em pc L S μ (Kf p)) : z_w E y em pc L S μ (z_bind Gf Kf) := z_bindW fun r1 μ1 h => k (r1, μ1) h
theorem z_none : z_w E y em pc L S μ (none : Option (α × M)) := fun r μ' hF => by cases hF
end ZL
/-- constants -/
theorem zci_m1 : Int32.ofInt (-1) = -1 := by decide
theorem zci_0 : Int32.ofInt (0) = 0 := by decide
theorem zci_1 : Int32.ofInt (1) = 1 := by decide
theorem zci_2 : Int32.ofInt (2) = 2 := by decide
theorem zci_3 : Int32.ofInt (3) = 3 := by decide
theorem zci_4 : Int32.ofInt (4) = 4 := by decide
theorem zci_5 : Int32.ofInt (5) = 5 := by decide
theorem zcb_m7 : (Int8.ofInt (-7)).toInt32 = -7 := by decide
theorem zcb_m6 : (Int8.ofInt (-6)).toInt32 = -6 := by decide
theorem zcb_m5 : (Int8.ofInt (-5)).toInt32 = -5 := by decide
theorem zcb_m4 : (Int8.ofInt (-4)).toInt32 = -4 := by decide
theorem zcb_m3 : (Int8.ofInt (-3)).toInt32 = -3 := by decide
theorem zcb_m2 : (Int8.ofInt (-2)).toInt32 = -2 := by decide
theorem zcb_6 : (Int8.ofInt (6)).toInt32 = 6 := by decide
theorem zcb_7 : (Int8.ofInt (7)).toInt32 = 7 := by decide
theorem zcb_8 : (Int8.ofInt (8)).toInt32 = 8 := by decide
theorem zcb_9 : (Int8.ofInt (9)).toInt32 = 9 := by decide
theorem zcb_10 : (Int8.ofInt (10)).toInt32 = 10 := by decide
theorem zcb_11 : (Int8.ofInt (11)).toInt32 = 11 := by decide
theorem zcb_12 : (Int8.ofInt (12)).toInt32 = 12 := by decide
theorem zcb_16 : (Int8.ofInt (16)).toInt32 = 16 := by decide
theorem zcb_17 : (Int8.ofInt (17)).toInt32 = 17 := by decide
theorem zcb_19 : (Int8.ofInt (19)).toInt32 = 19 := by decide
theorem zcb_20 : (Int8.ofInt (20)).toInt32 = 20 := by decide
theorem zcb_27 : (Int8.ofInt (27)).toInt32 = 27 := by decide
theorem zcb_30 : (Int8.ofInt (30)).toInt32 = 30 := by decide
theorem zcb_31 : (Int8.ofInt (31)).toInt32 = 31 := by decide
theorem zcb_32 : (Int8.ofInt (32)).toInt32 = 32 := by decide
theorem zcb_40 : (Int8.ofInt (40)).toInt32 = 40 := by decide
theorem zcb_41 : (Int8.ofInt (41)).toInt32 = 41 := by decide
theorem zcb_43 : (Int8.ofInt (43)).toInt32 = 43 := by decide
theorem zcb_48 : (Int8.ofInt (48)).toInt32 = 48 := by decide
theorem zcb_50 : (Int8.ofInt (50)).toInt32 = 50 := by decide
theorem zcb_56 : (Int8.ofInt (56)).toInt32 = 56 := by decide
theorem zcb_57 : (Int8.ofInt (57)).toInt32 = 57 := by decide
theorem zcb_59 : (Int8.ofInt (59)).toInt32 = 59 := by decide
theorem zcb_60 : (Int8.ofInt (60)).toInt32 = 60 := by decide
theorem zcb_63 : (Int8.ofInt (63)).toInt32 = 63 := by decide
theorem zcb_64 : (Int8.ofInt (64)).toInt32 = 64 := by decide
theorem zcb_70 : (Int8.ofInt (70)).toInt32 = 70 := by decide
theorem zcb_71 : (Int8.ofInt (71)).toInt32 = 71 := by decide
theorem zcb_72 : (Int8.ofInt (72)).toInt32 = 72 := by decide
theorem zcb_100 : (Int8.ofInt (100)).toInt32 = 100 := by decide
theorem zcs_160 : (Int16.ofInt (160)).toInt32 = 160 := by decide
theorem zcs_200 : (Int16.ofInt (200)).toInt32 = 200 := by decide
theorem zcs_255 : (Int16.ofInt (255)).toInt32 = 255 := by decide
theorem zcs_256 : (Int16.ofInt (256)).toInt32 = 256 := by decide
theorem zcs_400 : (Int16.ofInt (400)).toInt32 = 400 := by decide
theorem zcs_1280 : (Int16.ofInt (1280)).toInt32 = 1280 := by decide
theorem zcs_12345 : (Int16.ofInt (12345)).toInt32 = 12345 := by decide
theorem zcb_15 : (Int8.ofInt (15)).toInt32 = 15 := by decide
theorem zcb_18 : (Int8.ofInt (18)).toInt32 = 18 := by decide
theorem zcb_24 : (Int8.ofInt (24)).toInt32 = 24 := by decide
theorem zcb_25 : (Int8.ofInt (25)).toInt32 = 25 := by decide
theorem zcb_26 : (Int8.ofInt (26)).toInt32 = 26 := by decide
theorem zcs_7919 : (Int16.ofInt (7919)).toInt32 = 7919 := by decide
theorem zcl_0 : Int64.ofNat ((0 : Fin 2) : Nat) = 0 := by decide
theorem zcl_1 : Int64.ofNat ((1 : Fin 2) : Nat) = 1 := by decide
section ZC2
variable {M α : Type} {E : z_E M} {y : z_Y} {em : α → Option Value} {pc : Nat} {L : List (Nat × Value)} {S st : List Value} {μ μ1 : M} {F : Option (α × M)} {yn : MethodName} {cc : ByteArray} {nL d n index o : Nat} {ret : Option FieldType} {As : List Value}
theorem z_callVi {r1 : Int32} {Gf : Option (Int32 × M)} (hSp : z_S E d yn cc nL ret z_ei (.ref o :: As) μ Gf) (hG : Gf = some (r1, μ1)) (hM : z_MW yn cc nL ret) (hV : z_MV yn) (hlink : Cond.methodLink y.1 index yn ∈ z_tbl) (hn : (parseMethodDescriptor yn.desc).map (fun d => d.parameters.length) = some n) (hnA : As.length = n) (hrc : z_Recv E yn.cls o μ) (hst : st = As.reverse ++ .ref o :: S) (hcat : (S.map fun v => v.category).sum ≤ 8) (hd' : d + 1 ≤ y.2.2.2.2) (hnL : nL ≤ 13) (hd : decode y.2.1 pc = .ok (.invokevirtual index, 3)) (k : z_w E y em (pc + 3) L (.int r1 :: S) μ1 F) : z_w E y em pc L st μ F :=
  z_callV hSp hG hM hV hlink hn hnA hrc hst hcat hd' hnL hd k
theorem z_callSi {r1 : Int32} {Gf : Option (Int32 × M)} (hSp : z_S E d yn cc nL ret z_ei As μ Gf) (hG : Gf = some (r1, μ1)) (hM : z_MW yn cc nL ret) (hV : Cond.static yn ∈ z_tbl) (hlink : Cond.methodLink y.1 index yn ∈ z_tbl) (hn : (parseMethodDescriptor yn.desc).map (fun d => d.parameters.length) = some n) (hnA : As.length = n) (hst : st = As.reverse ++ S) (hcat : (S.map fun v => v.category).sum ≤ 8) (hd' : d + 1 ≤ y.2.2.2.2) (hnL : nL ≤ 13) (hd : decode y.2.1 pc = .ok (.invokestatic index, 3)) (k : z_w E y em (pc + 3) L (.int r1 :: S) μ1 F) : z_w E y em pc L st μ F :=
  z_callS hSp hG hM hV hlink hn hnA  hst hcat hd' hnL hd k
theorem z_callVl {r1 : Int64} {Gf : Option (Int64 × M)} (hSp : z_S E d yn cc nL ret z_el (.ref o :: As) μ Gf) (hG : Gf = some (r1, μ1)) (hM : z_MW yn cc nL ret) (hV : z_MV yn) (hlink : Cond.methodLink y.1 index yn ∈ z_tbl) (hn : (parseMethodDescriptor yn.desc).map (fun d => d.parameters.length) = some n) (hnA : As.length = n) (hrc : z_Recv E yn.cls o μ) (hst : st = As.reverse ++ .ref o :: S) (hcat : (S.map fun v => v.category).sum ≤ 8) (hd' : d + 1 ≤ y.2.2.2.2) (hnL : nL ≤ 13) (hd : decode y.2.1 pc = .ok (.invokevirtual index, 3)) (k : z_w E y em (pc + 3) L (.long r1 :: S) μ1 F) : z_w E y em pc L st μ F :=
  z_callV hSp hG hM hV hlink hn hnA hrc hst hcat hd' hnL hd k
theorem z_callSl {r1 : Int64} {Gf : Option (Int64 × M)} (hSp : z_S E d yn cc nL ret z_el As μ Gf) (hG : Gf = some (r1, μ1)) (hM : z_MW yn cc nL ret) (hV : Cond.static yn ∈ z_tbl) (hlink : Cond.methodLink y.1 index yn ∈ z_tbl) (hn : (parseMethodDescriptor yn.desc).map (fun d => d.parameters.length) = some n) (hnA : As.length = n) (hst : st = As.reverse ++ S) (hcat : (S.map fun v => v.category).sum ≤ 8) (hd' : d + 1 ≤ y.2.2.2.2) (hnL : nL ≤ 13) (hd : decode y.2.1 pc = .ok (.invokestatic index, 3)) (k : z_w E y em (pc + 3) L (.long r1 :: S) μ1 F) : z_w E y em pc L st μ F :=
  z_callS hSp hG hM hV hlink hn hnA  hst hcat hd' hnL hd k
theorem z_callVv {r1 : Unit} {Gf : Option (Unit × M)} (hSp : z_S E d yn cc nL ret z_ev (.ref o :: As) μ Gf) (hG : Gf = some (r1, μ1)) (hM : z_MW yn cc nL ret) (hV : z_MV yn) (hlink : Cond.methodLink y.1 index yn ∈ z_tbl) (hn : (parseMethodDescriptor yn.desc).map (fun d => d.parameters.length) = some n) (hnA : As.length = n) (hrc : z_Recv E yn.cls o μ) (hst : st = As.reverse ++ .ref o :: S) (hcat : (S.map fun v => v.category).sum ≤ 8) (hd' : d + 1 ≤ y.2.2.2.2) (hnL : nL ≤ 13) (hd : decode y.2.1 pc = .ok (.invokevirtual index, 3)) (k : z_w E y em (pc + 3) L (S) μ1 F) : z_w E y em pc L st μ F :=
  z_callV hSp hG hM hV hlink hn hnA hrc hst hcat hd' hnL hd k
theorem z_callSv {r1 : Unit} {Gf : Option (Unit × M)} (hSp : z_S E d yn cc nL ret z_ev As μ Gf) (hG : Gf = some (r1, μ1)) (hM : z_MW yn cc nL ret) (hV : Cond.static yn ∈ z_tbl) (hlink : Cond.methodLink y.1 index yn ∈ z_tbl) (hn : (parseMethodDescriptor yn.desc).map (fun d => d.parameters.length) = some n) (hnA : As.length = n) (hst : st = As.reverse ++ S) (hcat : (S.map fun v => v.category).sum ≤ 8) (hd' : d + 1 ≤ y.2.2.2.2) (hnL : nL ≤ 13) (hd : decode y.2.1 pc = .ok (.invokestatic index, 3)) (k : z_w E y em (pc + 3) L (S) μ1 F) : z_w E y em pc L st μ F :=
  z_callS hSp hG hM hV hlink hn hnA  hst hcat hd' hnL hd k
theorem z_callVr {r1 : Nat} {Gf : Option (Nat × M)} (hSp : z_S E d yn cc nL ret z_er (.ref o :: As) μ Gf) (hG : Gf = some (r1, μ1)) (hM : z_MW yn cc nL ret) (hV : z_MV yn) (hlink : Cond.methodLink y.1 index yn ∈ z_tbl) (hn : (parseMethodDescriptor yn.desc).map (fun d => d.parameters.length) = some n) (hnA : As.length = n) (hrc : z_Recv E yn.cls o μ) (hst : st = As.reverse ++ .ref o :: S) (hcat : (S.map fun v => v.category).sum ≤ 8) (hd' : d + 1 ≤ y.2.2.2.2) (hnL : nL ≤ 13) (hd : decode y.2.1 pc = .ok (.invokevirtual index, 3)) (k : z_w E y em (pc + 3) L (.ref r1 :: S) μ1 F) : z_w E y em pc L st μ F :=
  z_callV hSp hG hM hV hlink hn hnA hrc hst hcat hd' hnL hd k
theorem z_callSr {r1 : Nat} {Gf : Option (Nat × M)} (hSp : z_S E d yn cc nL ret z_er As μ Gf) (hG : Gf = some (r1, μ1)) (hM : z_MW yn cc nL ret) (hV : Cond.static yn ∈ z_tbl) (hlink : Cond.methodLink y.1 index yn ∈ z_tbl) (hn : (parseMethodDescriptor yn.desc).map (fun d => d.parameters.length) = some n) (hnA : As.length = n) (hst : st = As.reverse ++ S) (hcat : (S.map fun v => v.category).sum ≤ 8) (hd' : d + 1 ≤ y.2.2.2.2) (hnL : nL ≤ 13) (hd : decode y.2.1 pc = .ok (.invokestatic index, 3)) (k : z_w E y em (pc + 3) L (.ref r1 :: S) μ1 F) : z_w E y em pc L st μ F :=
  z_callS hSp hG hM hV hlink hn hnA  hst hcat hd' hnL hd k
end ZC2
