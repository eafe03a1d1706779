/-! ===== L2: acts over the invariant ===== -/
/-- what an act but save leaves of the core -/
def SaK (K K' : KT) : Prop := kU K' = kU K ∧ kG K' = kG K ∧ kH K' = kH K ∧ kK K' = kK K ∧ kP K' = kP K ∧ kC K' = kC K
theorem SaK.rf (K : KT) : SaK K K := ⟨rfl, rfl, rfl, rfl, rfl, rfl⟩
theorem SaK.tr {a b c : KT} (h1 : SaK a b) (h2 : SaK b c) : SaK a c := ⟨h2.1.trans h1.1, h2.2.1.trans h1.2.1, h2.2.2.1.trans h1.2.2.1, h2.2.2.2.1.trans h1.2.2.2.1, h2.2.2.2.2.1.trans h1.2.2.2.2.1, h2.2.2.2.2.2.trans h1.2.2.2.2.2⟩
theorem SaK.ex {K K' : KT} (S : SaK K K') : ExK K K' := by
  unfold ExK
  rw [S.1, S.2.1, S.2.2.1, S.2.2.2.1, S.2.2.2.2.1, S.2.2.2.2.2]
  exact ExK.rf K
theorem SaK.o2 {K K' : KT} (S : SaK K K') (o : KO2 K) : KO2 K' := by
  unfold KO2
  rw [S.1, S.2.1, S.2.2.1, S.2.2.2.1, S.2.2.2.2.1]
  exact o
theorem SaK.days (K : KT) (nu : List Int) : ∀ n, SaK K (kDays K nu n)
  | 0 => SaK.rf K
  | n + 1 => (SaK.days K nu n).tr ⟨rfl, rfl, rfl, rfl, rfl, rfl⟩
theorem SaK.rot (nu : List Int) (K : KT) (x : Int) : SaK K (rtK nu K x) := by
  unfold rtK
  split <;> exact ⟨rfl, rfl, rfl, rfl, rfl, rfl⟩
theorem SaK.chance (nu : List Int) (K : KT) (x : Int) : ∀ n, SaK K (chT nu K x n).1
  | 0 => SaK.rf K
  | n + 1 => ((SaK.chance nu K x n).tr (SaK.rot nu _ _)).tr (SaK.days _ nu 1)
theorem Kx_act {Ks : Nat → KT} {K K' : KT} {u : Nat} (hu : u ≤ 20) (i : Nat) : Kx (pK Ks K u) K' (u - psh u + 1) i = if i ≤ u - psh u then Kx Ks K u (i + psh u) else K' := by
  have hp := (psh_le u hu).1
  unfold Kx pK
  by_cases c : i ≤ u - psh u
  · rw [if_pos (by omega), if_pos c]
    by_cases z : i = u - psh u
    · rw [if_pos z, if_neg (by omega)]
    · rw [if_neg z, if_pos (by omega)]
  · rw [if_neg (by omega), if_neg c]
theorem pK_Kx {Ks : Nat → KT} {K : KT} {u : Nat} (hu : u ≤ 20) {i : Nat} (hi : i < u - psh u + 1) : pK Ks K u i = Kx Ks K u (i + psh u) := by
  have := Kx_act (Ks := Ks) (K := K) (K' := K) hu i
  rw [if_pos (by omega)] at this
  rw [← this]
  unfold Kx
  rw [if_pos hi]
theorem ChK.act {Ks : Nat → KT} {K K' : KT} {u : Nat} (H : ChK Ks K u) (hu : u ≤ 20) (E : ExK K K') (hk : (kK K').length ≤ (kK K).length + 1) : ChK (pK Ks K u) K' (u - psh u + 1) := by
  have hp := (psh_le u hu).1
  intro i hi
  rw [Kx_act hu, Kx_act hu, if_pos (by omega)]
  by_cases z : i = u - psh u
  · rw [if_neg (by omega), z, show u - psh u + psh u = u by omega, Kx_last]
    exact ⟨E, hk⟩
  · rw [if_pos (by omega), show i + 1 + psh u = i + psh u + 1 by omega]
    exact H (i + psh u) (by omega)
theorem sv0_Kx (Ks : Nat → KT) (K : KT) (u : Nat) : sv0 Ks K u = (kK (Kx Ks K u 0)).length := by
  unfold sv0 Kx
  by_cases z : u = 0
  · rw [if_pos z, if_neg (by omega)]
  · rw [if_neg z, if_pos (by omega)]
theorem sv0_act {Ks : Nat → KT} {K : KT} {u : Nat} (H : ChK Ks K u) (hu : u ≤ 20) (K' : KT) : sv0 Ks K u ≤ sv0 (pK Ks K u) K' (u - psh u + 1) := by
  have hp := (psh_le u hu).1
  rw [sv0_Kx, sv0_Kx, Kx_act hu, if_pos (Nat.zero_le _)]
  exact (H.ex 0 (psh u) (by omega)).1.kl
theorem TlC.act {h h' : AH} {idm : Nat → Nat} {K K' : KT} {cf : List (List Int)} {PF : List Int} {Ks : Nat → KT} {u : Nat} (T : TlC h idm K cf PF Ks u) (hu : u ≤ 20) (S : SaK K K') (e34 : hR h' 34 = hR h 34) (e37 : hR h' 37 = hR h 37) : TlC h' idm K' cf PF (pK Ks K u) (u - psh u + 1) := by
  have hp := (psh_le u hu).1
  obtain ⟨TD, TB, t1, t2, t3, t4, t5, t6⟩ := T
  obtain ⟨s1, s2, s3, s4, s5, s6⟩ := S
  have eh : ∀ c, hkS K' c = hkS K c := fun c => by
    unfold hkS hkI
    rw [s3, s6]
  have ef : foU PF idm K' = foU PF idm K := by
    unfold foU
    rw [s1]
  refine ⟨TD, TB, by rw [e34]; exact t1, by rw [e37]; exact t2, by rw [s1]; exact t3, t4, t5.cg eh, fun i hi => ?_⟩
  rw [ef, s1]
  unfold pK
  by_cases z : i = u - psh u
  · rw [if_pos z]
    refine ⟨Nat.le_refl _, ?_⟩
    rw [Nat.sub_self]
    exact t5
  · rw [if_neg z]
    exact t6 (i + psh u) (by omega)
def acR (r : Nat) : List Nat := [44, 47, 48, 50, 51, 52, 53, 54, 55, 56, 57, 58, 59, 61, 62, 63, 64, 65, 66, 67, 68, 69, 70, r + 10, r + 11]
theorem acR_no {r r' : Nat} (hr : (r = 12 ∧ r' = 83) ∨ (r = 83 ∧ r' = 12)) : (∀ q ∈ [1, 2, 4, 32, 33, 34, 35, 37, 72, 73, 74, 80], q ∉ acR r) ∧ r' + 11 ∉ acR r := by
  rcases hr with ⟨a, b⟩ | ⟨a, b⟩ <;> subst a <;> subst b <;> exact ⟨by decide, by decide⟩
theorem AgW.re {S O : List Nat} {h h' : AH} (w : AgW S O h h') (hO : ∀ q ∈ O, q < 95) : AgRe h h' := fun q h1 h2 => ⟨(w.1 q h2).2.2.1 (fun z => by have := hO q z; omega) (by omega), (w.1 q h2).2.2.2.1⟩
section
variable {h h1 h2 : AH} {r r' : Nat} {nu nv : List Int} {ts tv : Nat → List (Int × Int)} {idm : Nat → Nat} {K K' : KT} {cf : List (List Int)} {PF : List Int} {Ks : Nat → KT} {u m m' pn pn' bk : Nat} {a a' : Nat → Nat} {M : Nat → Nat → Int32} {T G MT : List Int} {st : Bool} {x x' fk fp : Int}
/-- the class acts -/
theorem act1 (C : CK h r r' nu ts idm K cf PF Ks u m pn) (L : CL h T G MT st x fk fp) (D : MK h bk nv tv K Ks u a M) (E : ML h T G MT st x fk fp) (ch : ChK Ks K u) {S O : List Nat} (w : AgW S O h h1) (hS : ∀ q ∈ S, q ∈ acR r) (hO : ∀ q ∈ O, q = 11 ∨ q = 49 ∨ q = 60) (h15 : hI h1 11 15 = iI x') (X' : ClsX h1 r nu ts idm K' cf PF) (H' : HiC h1 idm (pK Ks K u) (u - psh u + 1) m' pn') (sk : SaK K K') :
    CK h1 r r' nu ts idm K' cf PF (pK Ks K u) (u - psh u + 1) m' pn' ∧ CL h1 T G MT st x' fk fp ∧ MK h1 bk nv tv K Ks u a M ∧ ML h1 T G MT st x fk fp := by
  have hu : u ≤ 20 := C.2.2.2.2.2.2.1.1
  have A : AgRe h h1 := w.re (fun q hq => by have := hO q hq; omega)
  obtain ⟨c1, c2, c3, c4, c5, c6, c7, c8, c9⟩ := C
  obtain ⟨s1, s2⟩ := acR_no c2
  have n : ∀ q, q < 137 → q ∉ acR r → hR h1 q = hR h q := fun q h137 hq => (w.1 q h137).2.2.2.2 (fun z => hq (hS q z))
  have nn : ∀ q ∈ [1, 2, 4, 32, 33, 34, 35, 37, 72, 73, 74, 80], hR h1 q = hR h q := fun q hq => n q (by revert hq; revert q; decide) (s1 q hq)
  refine ⟨⟨X', c2, ?_, ?_, c5.rows (nn 32 (by decide)) (nn 33 (by decide)), ?_, H', c8.act hu sk (nn 34 (by decide)) (nn 37 (by decide)), ?_⟩, ?_, D.re A, E.re A⟩
  · obtain ⟨F, F1, F2⟩ := c3
    exact ⟨F, by rw [n _ (by omega) s2]; exact F1, F2⟩
  · unfold WdC
    rw [nn 4 (by decide)]
    exact c4
  · rw [nn 35 (by decide)]
    exact c6
  · have z := (c9.rows (h' := h1) (fun q hq => nn q (by revert hq; revert q; decide))).mono (sv0_act ch hu K')
    unfold RgA at z ⊢
    rw [sk.2.2.2.1]
    exact z
  · have i0 : hI h1 0 = hI h 0 := (w.1 0 (by decide)).2.2.1 (fun z => by have := hO 0 z; omega) (by decide)
    unfold CL
    rw [nn 1 (by decide), nn 2 (by decide), nn 80 (by decide), i0]
    exact ⟨L.1, L.2.1, L.2.2.1, L.2.2.2.1, L.2.2.2.2.1, L.2.2.2.2.2.1, h15⟩
/-- the reference acts -/
theorem act2 (hu : u ≤ 20) {Ks' : Nat → KT} {u' : Nat} (C : CK h1 r r' nu ts idm K' cf PF Ks' u' m' pn') (L : CL h1 T G MT st x' fk fp) (D : MK h1 bk nv tv K Ks u a M) (E : ML h1 T G MT st x fk fp) {S S5 : List Nat} (f : FrM S S5 h1 h2) (hS : ∀ q ∈ S, q ∈ [95, 109, 110, 111, 112, 120, 121, 124, 131, 132, 133]) (h5 : ∀ k ∈ S5, k ∈ [37, 39]) (hx : hL h2 95 40 = lI x') (km : KM h2 K') (hi : HiM h2 a' (pM M (hI h1 109) u) (u - psh u + 1)) (zf : ZF (kP K) h1 h2) (sk : SaK K K') :
    CK h2 r r' nu ts idm K' cf PF Ks' u' m' pn' ∧ CL h2 T G MT st x' fk fp ∧ MK h2 bk nv tv K' (pK Ks K u) (u - psh u + 1) a' (pM M (hI h1 109) u) ∧ ML h2 T G MT st x' fk fp := by
  have hp := (psh_le u hu).1
  have rg : ∀ q ∈ S, 95 ≤ q ∧ q < 137 := fun q hq => by
    have := hS q hq
    simp only [List.mem_cons, List.not_mem_nil, or_false] at this
    omega
  have A : AgCl h1 h2 := f.cl rg
  have e : ∀ q, q ≠ 95 → (q < 109 ∨ (112 < q ∧ q < 120) ∨ q = 134 ∨ q = 135) → hI h2 q = hI h1 q := fun q h95 hq => f.2.2.2.2.1 q (fun z => by
    have := hS q z
    simp only [List.mem_cons, List.not_mem_nil, or_false] at this
    omega) h95
  have e5 : ∀ k, k ≠ 37 → k ≠ 39 → hI h2 95 k = hI h1 95 k := fun k k1 k2 => f.2.2.2.2.2.1 k (fun z => by
    have := h5 k z
    simp only [List.mem_cons, List.not_mem_nil, or_false] at this
    omega)
  have ek : ∀ (W : Nat → Int32) (q : Nat), q ∈ [109, 113, 114, 115, 116, 117, 118, 119] → hI (sA h2 109 W) q = hI (sA h1 109 W) q := fun W q hq => by
    rw [hI_sA, hI_sA]
    by_cases z : q = 109
    · rw [z, u1_eq, u1_eq]
    · rw [u1_ne z, u1_ne z]
      simp only [List.mem_cons, List.not_mem_nil, or_false] at hq
      exact e q (by omega) (by omega)
  have e9 : ∀ (W : Nat → Int32), hI (sA h2 109 W) 109 = hI (sA h1 109 W) 109 := fun W => ek W 109 (by decide)
  refine ⟨C.m A, L.m A, ⟨?_, km, hi, ?_, fun i hi => ?_⟩, ?_⟩
  · have c1 := D.1
    unfold RuM CdM at c1 ⊢
    rw [e 97 (by decide) (by decide), e 98 (by decide) (by decide), e 99 (by decide) (by decide), e 100 (by decide) (by decide), e 101 (by decide) (by decide), e5 13 (by decide) (by decide)]
    exact c1
  · have z := D.2.2.2.1
    unfold ZrM byN at z ⊢
    rw [sk.2.2.2.2.1, sk.2.2.2.2.2]
    exact ⟨fun y y1 y2 => by rw [zf y (Or.inl y1) y2]; exact z.1 y y1 y2, by rw [zf 2 (Or.inr rfl) (by decide)]; exact z.2⟩
  · unfold pM pK
    by_cases c : i = u - psh u
    · rw [if_pos c, if_pos c]
      have e0 : hI (sA h1 109 (hI h1 109)) = hI h1 := by
        funext q
        rw [hI_sA]
        by_cases z : q = 109
        · rw [z, u1_eq]
        · rw [u1_ne z]
      refine ⟨KM.eq (h := h1) D.2.1 (fun q hq => ?_), ZrM.eq (h := h1) D.2.2.2.1 ?_⟩
      · rw [ek _ q hq, e0]
      · rw [e9, e0]
    · rw [if_neg c, if_neg c]
      have d := D.2.2.2.2 (i + psh u) (by omega)
      exact ⟨d.1.eq (ek _), d.2.eq (e9 _)⟩
  · unfold ML TapeM RefM MetM
    rw [e 96 (by decide) (by decide), e 108 (by decide) (by decide), e 134 (by decide) (by decide), e 135 (by decide) (by decide), e5 1 (by decide) (by decide), e5 65 (by decide) (by decide), e5 32 (by decide) (by decide), e5 10 (by decide) (by decide), e5 11 (by decide) (by decide)]
    exact ⟨E.1, E.2.1, E.2.2.1, E.2.2.2.1, E.2.2.2.2.1, E.2.2.2.2.2.1, hx⟩
theorem PI.act {n : Nat} (P : PI n nu ts K cf PF Ks u T G MT st x) (ok : KOk K) (hu : u ≤ 20) (hst : st = true) (sk : SaK K K') (hx : 0 ≤ x' ∧ x' < 2147483648) : PI (n + 1) nu ts K' cf PF (pK Ks K u) (u - psh u + 1) T G MT st x' := by
  obtain ⟨p1, p2, p3, p4, p5, p6, p7, p8, p9, p10, p11, p12⟩ := P
  have hp := (psh_le u hu).1
  refine ⟨p1, p2, sk.o2 p3, fun i hi => ?_, p5.act hu sk.ex (by rw [sk.2.2.2.1]; omega), fun z => (by rw [hst] at z; cases z), p7, p8, p9, p10, hx, ?_⟩
  · unfold pK
    by_cases c : i = u - psh u
    · rw [if_pos c]; exact ⟨ok, p3⟩
    · rw [if_neg c]; exact p4 (i + psh u) (by omega)
  · unfold NB byN
    rw [sk.1, sk.2.2.2.1, sk.2.2.2.2.1, sk.2.2.2.2.2]
    exact p12.up
end
