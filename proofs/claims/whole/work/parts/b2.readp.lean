/-! ===== L2: Saver.readPieces (class) ===== -/
def adS (cf : List (List Int)) (cs : Nat → List Int) : Nat → List (List Int)
  | 0 => cf
  | i + 1 => adF (adS cf cs i) (cs i)
theorem adF_pre (cf : List (List Int)) (x : List Int) : ∃ A, adF cf x = cf ++ A ∧ A.length ≤ 1 ∧ A.flatten.length ≤ x.length := by
  unfold adF
  split
  · exact ⟨[], (List.append_nil _).symm, Nat.zero_le _, Nat.zero_le _⟩
  · exact ⟨[x], rfl, Nat.le_refl _, by simp⟩
theorem adT_eq (cf : List (List Int)) (x TD : List Int) : adT cf x TD = TD ++ List.replicate ((adF cf x).length - cf.length) (-1) := by
  unfold adT adF
  split
  · rw [Nat.sub_self]; simp
  · rw [List.length_append, List.length_singleton, Nat.add_sub_cancel_left]; rfl
theorem adS_pre (cf : List (List Int)) (cs : Nat → List Int) : ∀ n, (∃ A, adS cf cs n = cf ++ A ∧ A.length ≤ n ∧ A.flatten.length ≤ lenS cs n) ∧ ∀ j, j < n → cs j ∈ adS cf cs n
  | 0 => ⟨⟨[], (List.append_nil _).symm, Nat.le_refl _, Nat.le_refl _⟩, fun j hj => absurd hj (Nat.not_lt_zero _)⟩
  | n + 1 => by
    obtain ⟨⟨A, a1, a2, a3⟩, a4⟩ := adS_pre cf cs n
    obtain ⟨B, b1, b2, b3⟩ := adF_pre (adS cf cs n) (cs n)
    have e : adS cf cs (n + 1) = adS cf cs n ++ B := b1
    refine ⟨⟨A ++ B, by rw [e, a1, List.append_assoc], by rw [List.length_append]; omega, ?_⟩, fun j hj => ?_⟩
    · rw [List.flatten_append, List.length_append]
      show _ ≤ lenS cs n + (cs n).length
      omega
    · by_cases z : j < n
      · rw [e]; exact List.mem_append_left _ (a4 j z)
      · have : j = n := by omega
        subst this
        exact adF_mem _ _
theorem idx_pre {cf A : List (List Int)} {x : List Int} (hx : x ∈ cf) : (cf ++ A).idxOf x = cf.idxOf x := by rw [List.idxOf_append, if_pos hx]
/-- what a save wants of the class while it goes on -/
def StW (h : AH) (idm : Nat → Nat) (K : KT) : Prop := BxC h 49 idm K (kX K) ∧ hI h 49 10 = iI (kD K) ∧ hI h 49 11 = iI (kH K).length
def SvX (h : AH) (r : Nat) (nu : List Int) (ts : Nat → List (Int × Int)) (idm : Nat → Nat) (K : KT) (cf : List (List Int)) (PF : List Int) : Prop := Gr h ∧ (r = 12 ∨ r = 83) ∧ hP h 11 0 = some r ∧ RuC h r nu ts ∧ nuOk nu ∧ KOk K ∧ StW h idm K ∧ VaC h idm K cf PF ∧ FmC h cf
theorem SvX.gr {h : AH} {r : Nat} {nu : List Int} {ts : Nat → List (Int × Int)} {idm : Nat → Nat} {K : KT} {cf : List (List Int)} {PF : List Int} (X : SvX h r nu ts idm K cf PF) : RuG h r := X.2.1.elim (fun e => e ▸ RuG.of12 X.1) (fun e => e ▸ RuG.of83 X.1)
theorem ClsX.sv {h : AH} {r : Nat} {nu : List Int} {ts : Nat → List (Int × Int)} {idm : Nat → Nat} {K : KT} {cf : List (List Int)} {PF : List Int} (X : ClsX h r nu ts idm K cf PF) : SvX h r nu ts idm K cf PF := ⟨X.1, X.2.1, X.2.2.1, X.2.2.2.1, X.2.2.2.2.1, X.2.2.2.2.2.1, ⟨X.2.2.2.2.2.2.1.bx, X.2.2.2.2.2.2.1.2.2.2.2.2.2.2.2.2.1, X.2.2.2.2.2.2.1.2.2.2.2.2.2.2.2.2.2.1⟩, X.2.2.2.2.2.2.2.1, X.2.2.2.2.2.2.2.2⟩
theorem SvX.frX {h h' : AH} {r : Nat} {nu : List Int} {ts : Nat → List (Int × Int)} {idm : Nat → Nat} {K : KT} {cf : List (List Int)} {PF : List Int} (X : SvX h r nu ts idm K cf PF) {S : List Nat} (f : FrR S h h') (hs : ∀ q ∈ [28, 29, 30, 31, 43, 44, 45, 46, 50, 51, 52, 53, 54, 55, 56], q ∉ S) (C : RuC h' r nu ts) : SvX h' r nu ts idm K cf PF := by
  obtain ⟨x1, x2, x3, -, x5, x6, ⟨⟨s1, s2, s3, s4, s5, s6, s7⟩, s8⟩, ⟨v1, v2, v3, v4, v5, v6, PS, v7, v8⟩, ⟨m1, m2, m3, m4, m5⟩⟩ := X
  have k : ∀ q, q ∈ [28, 29, 30, 31, 43, 44, 45, 46, 50, 51, 52, 53, 54, 55, 56] → hR h' q = hR h q := fun q hq => f.2.2.2.2.2 q (hs q hq)
  have fi := f.2.2.2.1
  refine ⟨f.gr x1, x2, by rw [f.2.2.1]; exact x3, C, x5, x6, ⟨⟨?_, ?_, ?_, ?_, ?_, ?_, ?_⟩, ?_⟩, ⟨?_, ?_, ?_, v4, v5, v6, PS, ?_, v8⟩, ⟨?_, ?_, ?_, ?_, m5⟩⟩
  all_goals first
    | (rw [fi]; exact s8)
    | (rw [k _ (by decide)]; assumption)
theorem SvX.forms {h h' : AH} {r : Nat} {nu : List Int} {ts : Nat → List (Int × Int)} {idm : Nat → Nat} {K : KT} {cf : List (List Int)} {PF : List Int} (X : SvX h r nu ts idm K cf PF) (f : FrR [28, 29, 30, 31, 32, 33, 34, 35] h h') {A : List (List Int)} (M : FmC h' (cf ++ A)) : SvX h' r nu ts idm K (cf ++ A) PF := by
  obtain ⟨x1, x2, x3, ⟨c1, c2, c3, c4, F, c5, c6⟩, x5, x6, ⟨⟨s1, s2, s3, s4, s5, s6, s7⟩, s8⟩, ⟨v1, v2, v3, v4, v5, v6, PS, v7, v8⟩, -⟩ := X
  have k : ∀ q, q ∉ [28, 29, 30, 31, 32, 33, 34, 35] → hR h' q = hR h q := f.2.2.2.2.2
  have fi := f.2.2.2.1
  have v5' : ∀ p, p < kP K → idm p < PF.length ∧ ∃ f, f < (cf ++ A).length ∧ PF.getD (idm p) 0 = (f : Int) ∧ (cf ++ A)[f]? = some (kC K p) := fun p hp => by
    obtain ⟨w1, g, w2, w3, w4⟩ := v5 p hp
    exact ⟨w1, g, by rw [List.length_append]; omega, w3, by rw [List.getElem?_append_left w2]; exact w4⟩
  refine ⟨f.gr x1, x2, by rw [f.2.2.1]; exact x3, ⟨?_, ?_, ?_, ?_, F, ?_, c6⟩, x5, x6, ⟨⟨?_, ?_, ?_, ?_, ?_, ?_, ?_⟩, ?_⟩, ⟨?_, ?_, ?_, v4, v5', v6, PS, ?_, v8⟩, M⟩
  all_goals first
    | (rw [fi]; exact s8)
    | (rw [k _ (by decide)]; assumption)
    | (rw [k _ (by rcases x2 with rfl | rfl <;> decide)]; assumption)
