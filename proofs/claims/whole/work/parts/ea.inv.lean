/-! ===== L2: all that is true between two calls ===== -/
/-- saves in the oldest core that can come back -/
def sv0 (Ks : Nat → KT) (K : KT) (u : Nat) : Nat := (kK (if u = 0 then K else Ks 0)).length
/-- the class, but for what the short calls change -/
def CK (h : AH) (r r' : Nat) (nu : List Int) (ts : Nat → List (Int × Int)) (idm : Nat → Nat) (K : KT) (cf : List (List Int)) (PF : List Int) (Ks : Nat → KT) (u m pn : Nat) : Prop :=
  ClsX h r nu ts idm K cf PF ∧ ((r = 12 ∧ r' = 83) ∨ (r = 83 ∧ r' = 12)) ∧ (∃ F : List Int, hR h (r' + 11) = mI F ∧ F.length = 29) ∧ WdC h ∧ HsC h cf ∧ hR h 35 = mI (List.replicate cf.length 0) ∧ HiC h idm Ks u m pn ∧ TlC h idm K cf PF Ks u ∧ RgA h K (sv0 Ks K u)
/-- tape, refused, met, whether a store stands, seed, fault and its place -/
def CL (h : AH) (T G MT : List Int) (st : Bool) (x fk fp : Int) : Prop := hR h 1 = mI T ∧ hR h 2 = mI G ∧ hR h 80 = mI MT ∧ hI h 0 7 = iI (if st = true then 1 else 0) ∧ hI h 0 8 = iI fk ∧ hI h 0 9 = iI fp ∧ hI h 11 15 = iI x
/-- the reference, likewise -/
def MK (h : AH) (bk : Nat) (nu : List Int) (ts : Nat → List (Int × Int)) (K : KT) (Ks : Nat → KT) (u : Nat) (a : Nat → Nat) (M : Nat → Nat → Int32) : Prop :=
  RuM h bk nu ts ∧ KM h K ∧ HiM h a M u ∧ ZrM h K ∧ ∀ i, i < u → KM (sA h 109 (M i)) (Ks i) ∧ ZrM (sA h 109 (M i)) (Ks i)
def ML (h : AH) (T G MT : List Int) (st : Bool) (x fk fp : Int) : Prop := TapeM T h ∧ RefM G h ∧ MetM h MT ∧ hI h 95 32 = iI (if st = true then 1 else 0) ∧ hI h 95 10 = iI fk ∧ hI h 95 11 = iI fp ∧ hL h 95 40 = lI x
/-- numbers of a store, or of none -/
def nuR (st : Bool) (nu : List Int) : Prop := nu.length = 10 ∧ (∀ i, 1 ≤ i → i < 10 → nloL.getD i 0 ≤ nu.getD i 0 ∧ nu.getD i 0 ≤ nhiL.getD i 0) ∧ (st = true → 60 ≤ nu.getD 0 0 ∧ nu.getD 0 0 ≤ 200) ∧ (st = false → nu.getD 0 0 = 0)
/-- cores in the order of the acts; the last is the one now -/
def Kx (Ks : Nat → KT) (K : KT) (u i : Nat) : KT := if i < u then Ks i else K
def ChK (Ks : Nat → KT) (K : KT) (u : Nat) : Prop := ∀ i, i < u → ExK (Kx Ks K u i) (Kx Ks K u (i + 1)) ∧ (kK (Kx Ks K u (i + 1))).length ≤ (kK (Kx Ks K u i)).length + 1
/-- nothing has more than the bytes that were fed -/
def NB (n : Nat) (T : List Int) (K : KT) (cf : List (List Int)) (PF : List Int) : Prop := cf.length + T.length ≤ 20 * n ∧ cf.flatten.length + T.length ≤ 20 * n ∧ PF.length + T.length ≤ 20 * n ∧ kP K + T.length ≤ 20 * n ∧ (kU K).length + T.length ≤ 20 * n ∧ byN K + T.length ≤ 20 * n ∧ (kK K).length ≤ n
def PI (n : Nat) (nu : List Int) (ts : Nat → List (Int × Int)) (K : KT) (cf : List (List Int)) (PF : List Int) (Ks : Nat → KT) (u : Nat) (T G MT : List Int) (st : Bool) (x : Int) : Prop :=
  nuR st nu ∧ (∀ w, w ≤ 2 → tsOk w (ts w)) ∧ KO2 K ∧ (∀ i, i < u → KOk (Ks i) ∧ KO2 (Ks i)) ∧ ChK Ks K u ∧ (st = false → kX K = [] ∧ (∀ b, bF K b = false) ∧ u = 0) ∧ MtOk MT ∧ (∀ y ∈ T, 0 ≤ y ∧ y ≤ 255) ∧ T.length ≤ 1600 ∧ G.length = 6 ∧ (0 ≤ x ∧ x < 2147483648) ∧ NB n T K cf PF
/-- the reference's numbers and tests: the class's, once a store stands -/
def VL (st : Bool) (nu : List Int) (ts : Nat → List (Int × Int)) (nv : List Int) (tv : Nat → List (Int × Int)) : Prop := nuOk nv ∧ (∀ w, w ≤ 2 → tsOk w (tv w)) ∧ nv.getD 1 0 ≤ 16 ∧ (st = false → nv.getD 0 0 = 0) ∧ (st = true → nv = nu ∧ tv = ts)
/-- between two calls, n calls after the start -/
def Inv (n : Nat) (h : AH) : Prop := ∃ (r r' : Nat) (nu : List Int) (ts : Nat → List (Int × Int)) (idm : Nat → Nat) (K : KT) (cf : List (List Int)) (PF : List Int) (Ks : Nat → KT) (u m pn bk : Nat) (nv : List Int) (tv : Nat → List (Int × Int)) (a : Nat → Nat) (M : Nat → Nat → Int32) (T G MT : List Int) (st : Bool) (x fk fp : Int),
  CK h r r' nu ts idm K cf PF Ks u m pn ∧ CL h T G MT st x fk fp ∧ MK h bk nv tv K Ks u a M ∧ ML h T G MT st x fk fp ∧ PI n nu ts K cf PF Ks u T G MT st x ∧ VL st nu ts nv tv
/-- class and reference answer alike, and all stays true -/
def StpI (n : Nat) (h : AH) (f g : MS) (as : List Value) : Prop := ∃ (v : Int32) (h1 h2 : AH), f (.ref 0 :: as) h = some (some (.int v), h1) ∧ g (.ref 95 :: as) h1 = some (some (.int v), h2) ∧ Gr h1 ∧ Inv (n + 1) h2
/-! what the other side's writes leave -/
/-- the class's cells are the same -/
def AgCl (h h' : AH) : Prop := hN h' = hN h ∧ hT h' = hT h ∧ hP h' = hP h ∧ hR h' = hR h ∧ ∀ q, q < 95 ∨ 137 ≤ q → hI h' q = hI h q
/-- the reference's cells are the same -/
def AgRe (h h' : AH) : Prop := ∀ q, 95 ≤ q → q < 137 → hI h' q = hI h q ∧ hL h' q = hL h q
theorem FrM.cl {S S5 : List Nat} {h h' : AH} (f : FrM S S5 h h') (hs : ∀ q ∈ S, 95 ≤ q ∧ q < 137) : AgCl h h' := ⟨f.1, f.2.1, f.2.2.1, f.2.2.2.1, fun q hq => f.2.2.2.2.1 q (fun z => by have := hs q z; omega) (by omega)⟩
/-- rows that no core stands in -/
def scR (r : Nat) : List Nat := [1, 2, 25, 26, 47, 48, 60, 61, 62, 63, 64, 65, 66, 67, 68, 69, 70, 76, 77, 78, 80, 81, 82, r + 4, r + 7, r + 10, r + 11]
theorem TlC.rows {h h' : AH} {idm : Nat → Nat} {K : KT} {cf : List (List Int)} {PF : List Int} {Ks : Nat → KT} {u : Nat} (T : TlC h idm K cf PF Ks u) (e34 : hR h' 34 = hR h 34) (e37 : hR h' 37 = hR h 37) : TlC h' idm K cf PF Ks u := by
  unfold TlC
  rw [e34, e37]
  exact T
theorem RgA.rows {h h' : AH} {K : KT} {s : Nat} (R : RgA h K s) (e : ∀ q ∈ [72, 73, 74], hR h' q = hR h q) : RgA h' K s := by
  unfold RgA
  rw [e 72 (by decide), e 73 (by decide), e 74 (by decide)]
  exact R
theorem HsC.rows {h h' : AH} {cf : List (List Int)} (H : HsC h cf) (e32 : hR h' 32 = hR h 32) (e33 : hR h' 33 = hR h 33) : HsC h' cf := by
  unfold HsC
  rw [e32, e33]
  exact H
theorem scR_no {r r' : Nat} (hr : (r = 12 ∧ r' = 83) ∨ (r = 83 ∧ r' = 12)) : (∀ q ∈ [4, 28, 29, 30, 31, 32, 33, 34, 35, 37, 43, 44, 45, 46, 50, 51, 52, 53, 54, 55, 56, 57, 58, 59, 72, 73, 74], q ∉ scR r) ∧ r' + 11 ∉ scR r ∧ ∀ q ∈ scR r, q < 137 := by
  rcases hr with ⟨a, b⟩ | ⟨a, b⟩ <;> subst a <;> subst b <;> exact ⟨by decide, by decide, by decide⟩
/-- a class call that leaves the core alone -/
theorem CK.q {h h' : AH} {r r' : Nat} {nu : List Int} {ts : Nat → List (Int × Int)} {idm : Nat → Nat} {K : KT} {cf : List (List Int)} {PF : List Int} {Ks : Nat → KT} {u m pn : Nat} (C : CK h r r' nu ts idm K cf PF Ks u m pn) {S O : List Nat} (f : FrC S O h h') (hS : ∀ q ∈ S, q ∈ scR r) (hO : ∀ q ∈ O, q = 0 ∨ q = 11 ∨ q = 60 ∨ (95 ≤ q ∧ q < 137)) (h11 : ∀ k, k ≠ 15 → hI h' 11 k = hI h 11 k) (R : RuC h' r nu ts) : CK h' r r' nu ts idm K cf PF Ks u m pn := by
  obtain ⟨c1, c2, c3, c4, c5, c6, c7, c8, c9⟩ := C
  obtain ⟨s1, s2, s3⟩ := scR_no c2
  have n : ∀ q, q ∉ scR r → hR h' q = hR h q := fun q hq => f.2.2.2.2.2 q (fun z => hq (hS q z))
  have nn : ∀ q ∈ [4, 28, 29, 30, 31, 32, 33, 34, 35, 37, 43, 44, 45, 46, 50, 51, 52, 53, 54, 55, 56, 57, 58, 59, 72, 73, 74], hR h' q = hR h q := fun q hq => n q (s1 q hq)
  have sub1 : ∀ q ∈ [28, 29, 30, 31, 43, 44, 45, 46, 50, 51, 52, 53, 54, 55, 56, 57, 58, 59], q ∈ [4, 28, 29, 30, 31, 32, 33, 34, 35, 37, 43, 44, 45, 46, 50, 51, 52, 53, 54, 55, 56, 57, 58, 59, 72, 73, 74] := by decide
  have sub2 : ∀ q ∈ [72, 73, 74], q ∈ [4, 28, 29, 30, 31, 32, 33, 34, 35, 37, 43, 44, 45, 46, 50, 51, 52, 53, 54, 55, 56, 57, 58, 59, 72, 73, 74] := by decide
  refine ⟨c1.frC f (fun q hq z => s1 q (sub1 q hq) (hS q z)) (fun z => by have := hO 49 z; omega) R, c2, ?_, ?_, c5.rows (nn 32 (by decide)) (nn 33 (by decide)), ?_, c7.fr f (fun q hq => s3 q (hS q hq)) (fun q hq => by have := hO q hq; omega) ⟨h11 13 (by decide), h11 14 (by decide)⟩, c8.rows (nn 34 (by decide)) (nn 37 (by decide)), c9.rows (fun q hq => nn q (sub2 q hq))⟩
  · obtain ⟨F, F1, F2⟩ := c3
    exact ⟨F, by rw [n _ s2]; exact F1, F2⟩
  · unfold WdC
    rw [nn 4 (by decide)]
    exact c4
  · rw [nn 35 (by decide)]
    exact c6
theorem CK.m {h h' : AH} {r r' : Nat} {nu : List Int} {ts : Nat → List (Int × Int)} {idm : Nat → Nat} {K : KT} {cf : List (List Int)} {PF : List Int} {Ks : Nat → KT} {u m pn : Nat} (C : CK h r r' nu ts idm K cf PF Ks u m pn) (A : AgCl h h') : CK h' r r' nu ts idm K cf PF Ks u m pn := by
  have f : FrC [] (List.range' 95 42) h (h'.1, h'.2.1, h'.2.2.1, h.2.2.2.1, h'.2.2.2.2) := ⟨A.1, A.2.1, A.2.2.1, rfl, fun q hq => A.2.2.2.2 q (by
    rw [List.mem_range'_1] at hq
    omega), fun q _ => by show hR h' q = hR h q; rw [A.2.2.2.1]⟩
  have R : RuC h' r nu ts := by
    have := C.1.2.2.2.1
    unfold RuC at this ⊢
    rw [A.2.2.2.1]
    exact this
  have := C.q f (fun q hq => absurd hq (by simp)) (fun q hq => by
    rw [List.mem_range'_1] at hq
    omega) (fun k _ => by show hI h' 11 k = _; rw [A.2.2.2.2 11 (by omega)]) R
  exact this
theorem CL.m {h h' : AH} {T G MT : List Int} {st : Bool} {x fk fp : Int} (C : CL h T G MT st x fk fp) (A : AgCl h h') : CL h' T G MT st x fk fp := by
  unfold CL
  rw [A.2.2.2.1, A.2.2.2.2 0 (by omega), A.2.2.2.2 11 (by omega)]
  exact C
theorem KM.eq {h h' : AH} {K : KT} (R : KM h K) (k : ∀ q ∈ [109, 113, 114, 115, 116, 117, 118, 119], hI h' q = hI h q) : KM h' K := by
  unfold KM at R ⊢
  rw [k 109 (by decide), k 113 (by decide), k 114 (by decide), k 115 (by decide), k 116 (by decide), k 117 (by decide), k 118 (by decide), k 119 (by decide)]
  exact R
theorem ZrM.eq {h h' : AH} {K : KT} (Z : ZrM h K) (k : hI h' 109 = hI h 109) : ZrM h' K := by
  unfold ZrM
  rw [k]
  exact Z
/-- a reference call that leaves the core alone -/
theorem MK.q {h h' : AH} {bk : Nat} {nu : List Int} {ts : Nat → List (Int × Int)} {K : KT} {Ks : Nat → KT} {u : Nat} {a : Nat → Nat} {M : Nat → Nat → Int32} (C : MK h bk nu ts K Ks u a M) (e : ∀ q ∈ [97, 98, 99, 100, 101, 109, 112, 113, 114, 115, 116, 117, 118, 119], hI h' q = hI h q) (e5 : hI h' 95 13 = hI h 95 13 ∧ hI h' 95 37 = hI h 95 37 ∧ hI h' 95 39 = hI h 95 39) (l : LogS h h') : MK h' bk nu ts K Ks u a M := by
  obtain ⟨c1, c2, c3, c4, c5⟩ := C
  have k : ∀ q ∈ [109, 113, 114, 115, 116, 117, 118, 119], hI h' q = hI h q := fun q hq => e q (by revert q; decide)
  refine ⟨?_, c2.eq k, c3.fr (e 109 (by decide)) e5.2.1 e5.2.2 (e 112 (by decide)) l, c4.eq (e 109 (by decide)), fun i hi => ⟨(c5 i hi).1.eq (fun q hq => ?_), (c5 i hi).2.eq ?_⟩⟩
  · unfold RuM CdM at c1 ⊢
    rw [e 97 (by decide), e 98 (by decide), e 99 (by decide), e 100 (by decide), e 101 (by decide), e5.1]
    exact c1
  · rw [hI_sA, hI_sA]
    by_cases z : q = 109
    · rw [z, u1_eq, u1_eq]
    · rw [u1_ne z, u1_ne z]
      exact k q hq
  · rw [hI_sA, hI_sA, u1_eq, u1_eq]
theorem MK.re {h h' : AH} {bk : Nat} {nu : List Int} {ts : Nat → List (Int × Int)} {K : KT} {Ks : Nat → KT} {u : Nat} {a : Nat → Nat} {M : Nat → Nat → Int32} (C : MK h bk nu ts K Ks u a M) (A : AgRe h h') : MK h' bk nu ts K Ks u a M := by
  have e : ∀ q, 95 ≤ q → q < 137 → hI h' q = hI h q := fun q h1 h2 => (A q h1 h2).1
  refine C.q (fun q hq => e q ?_ ?_) ?_ (fun n _ _ j _ => ?_)
  · revert q; decide
  · revert q; decide
  · rw [e 95 (by decide) (by decide)]; exact ⟨rfl, rfl, rfl⟩
  · rw [e 110 (by decide) (by decide), e 111 (by decide) (by decide)]; exact ⟨rfl, rfl⟩
theorem ML.re {h h' : AH} {T G MT : List Int} {st : Bool} {x fk fp : Int} (C : ML h T G MT st x fk fp) (A : AgRe h h') : ML h' T G MT st x fk fp := by
  have e : ∀ q, 95 ≤ q → q < 137 → hI h' q = hI h q := fun q h1 h2 => (A q h1 h2).1
  unfold ML TapeM RefM MetM
  rw [e 95 (by decide) (by decide), e 96 (by decide) (by decide), e 108 (by decide) (by decide), e 134 (by decide) (by decide), e 135 (by decide) (by decide), (A 95 (by decide) (by decide)).2]
  exact C
theorem FrC.re {S O : List Nat} {h h' : AH} (f : FrC S O h h') (hO : ∀ q ∈ O, q < 95) : AgRe h h' := fun q h1 h2 => ⟨f.2.2.2.2.1 q (fun z => by have := hO q z; omega), by rw [f.2.2.2.1]⟩
theorem NB.up {n : Nat} {T : List Int} {K : KT} {cf : List (List Int)} {PF : List Int} (B : NB n T K cf PF) : NB (n + 1) T K cf PF := by
  obtain ⟨b1, b2, b3, b4, b5, b6, b7⟩ := B
  exact ⟨by omega, by omega, by omega, by omega, by omega, by omega, by omega⟩
theorem NB.tape {n : Nat} {T T' : List Int} {K : KT} {cf : List (List Int)} {PF : List Int} (B : NB n T K cf PF) (h : T'.length ≤ T.length) : NB (n + 1) T' K cf PF := by
  obtain ⟨b1, b2, b3, b4, b5, b6, b7⟩ := B
  exact ⟨by omega, by omega, by omega, by omega, by omega, by omega, by omega⟩
theorem PI.up {n : Nat} {nu : List Int} {ts : Nat → List (Int × Int)} {K : KT} {cf : List (List Int)} {PF : List Int} {Ks : Nat → KT} {u : Nat} {T G MT : List Int} {st : Bool} {x : Int} (P : PI n nu ts K cf PF Ks u T G MT st x) : PI (n + 1) nu ts K cf PF Ks u T G MT st x := ⟨P.1, P.2.1, P.2.2.1, P.2.2.2.1, P.2.2.2.2.1, P.2.2.2.2.2.1, P.2.2.2.2.2.2.1, P.2.2.2.2.2.2.2.1, P.2.2.2.2.2.2.2.2.1, P.2.2.2.2.2.2.2.2.2.1, P.2.2.2.2.2.2.2.2.2.2.1, P.2.2.2.2.2.2.2.2.2.2.2.up⟩
theorem nuR.ok {st : Bool} {nu : List Int} (N : nuR st nu) : nuOk nu := by
  refine ⟨N.1, fun x hx => ?_⟩
  obtain ⟨i, hi, e⟩ := List.getElem_of_mem hx
  have hg : nu.getD i 0 = x := by rw [List.getD_eq_getElem?_getD, List.getElem?_eq_getElem hi, ← e]; rfl
  have hi10 : i < 10 := by rw [← N.1]; exact hi
  by_cases z : i = 0
  · subst z
    cases st with
    | true => have := N.2.2.1 rfl; omega
    | false => have := N.2.2.2 rfl; omega
  · have h1 := N.2.1 i (by omega) hi10
    have h2 := (nLst_at i hi10).2.2.2
    omega
theorem nuR.at {st : Bool} {nu : List Int} (N : nuR st nu) : (1 ≤ nu.getD 1 0 ∧ nu.getD 1 0 ≤ 16) ∧ (1 ≤ nu.getD 2 0 ∧ nu.getD 2 0 ≤ 30) ∧ (1 ≤ nu.getD 3 0 ∧ nu.getD 3 0 ≤ 60) ∧ (30 ≤ nu.getD 4 0 ∧ nu.getD 4 0 ≤ 60) ∧ (1 ≤ nu.getD 5 0 ∧ nu.getD 5 0 ≤ 8) ∧ (0 ≤ nu.getD 6 0 ∧ nu.getD 6 0 ≤ 4) ∧ (1 ≤ nu.getD 7 0 ∧ nu.getD 7 0 ≤ 6) ∧ (0 ≤ nu.getD 8 0 ∧ nu.getD 8 0 ≤ 99) ∧ (0 ≤ nu.getD 9 0 ∧ nu.getD 9 0 ≤ 100) :=
  ⟨N.2.1 1 (by decide) (by decide), N.2.1 2 (by decide) (by decide), N.2.1 3 (by decide) (by decide), N.2.1 4 (by decide) (by decide), N.2.1 5 (by decide) (by decide), N.2.1 6 (by decide) (by decide), N.2.1 7 (by decide) (by decide), N.2.1 8 (by decide) (by decide), N.2.1 9 (by decide) (by decide)⟩
