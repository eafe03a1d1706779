/-! ===== L2: the segments of a file are saved (reference) ===== -/
theorem useK_is (K : KT) (room : Int) (sg : Nat → Nat × Nat) (ch : List Int) (lf : Nat) (c : List Int) (hu : ∀ p ∈ kU K, p < kP K) (hf : ∀ p ∈ flat K, p < kP K) :
    ∃ p, kU (useK room sg ch lf K c) = kU K ++ [p] ∧ p < kP (useK room sg ch lf K c) ∧ kC (useK room sg ch lf K c) p = c ∧ (∀ q, q < kP K → kC (useK room sg ch lf K c) q = kC K q) ∧ kP K ≤ kP (useK room sg ch lf K c) ∧ ∀ q ∈ flat (useK room sg ch lf K c), q < kP (useK room sg ch lf K c) := by
  unfold useK
  rcases hadP_cases K sg ch lf c with ⟨p, h1, h2, h3⟩ | h1
  · rw [h1, if_pos (by omega), Int.toNat_natCast]
    exact ⟨p, rfl, hf p h2, h3, fun _ _ => rfl, Nat.le_refl _, hf⟩
  · rw [h1, if_neg (by omega)]
    have ef : flat (wrP K room c) = flat K ++ [kP K] := by
      show flt (wrX (addP K c) room (kD K) (kX K) (kP K)) = _
      rw [wrX_flt]; rfl
    refine ⟨kP K, rfl, Nat.lt_succ_self _, ?_, fun q hq => ?_, Nat.le_succ _, fun q hq => ?_⟩
    · show (if kP K = kP K then c else kC K (kP K)) = c
      rw [if_pos rfl]
    · show (if q = kP K then c else kC K q) = _
      rw [if_neg (by omega)]
    · have hq' : q ∈ flat (wrP K room c) := hq
      rw [ef] at hq'
      show q < kP K + 1
      rcases List.mem_append.mp hq' with z | z
      · have := hf q z; omega
      · rw [List.mem_singleton.mp z]; exact Nat.lt_succ_self _
theorem useF_is (K : KT) (room : Int) (sg : Nat → Nat × Nat) (ch : List Int) (lf : Nat) (cs : Nat → List Int) (hu : ∀ p ∈ kU K, p < kP K) (hf : ∀ p ∈ flat K, p < kP K) : ∀ n, (∀ p ∈ kU (useF room sg ch lf K cs n).1, p < kP (useF room sg ch lf K cs n).1) ∧ (∀ p ∈ flat (useF room sg ch lf K cs n).1, p < kP (useF room sg ch lf K cs n).1) ∧ (kU (useF room sg ch lf K cs n).1).length = (kU K).length + n ∧ (∀ j, j < n → kC (useF room sg ch lf K cs n).1 ((kU (useF room sg ch lf K cs n).1).getD ((kU K).length + j) 0) = cs j) ∧ ∃ A, kU (useF room sg ch lf K cs n).1 = kU K ++ A
  | 0 => ⟨hu, hf, rfl, fun j hj => absurd hj (Nat.not_lt_zero _), [], (List.append_nil _).symm⟩
  | n + 1 => by
    obtain ⟨i1, i2, i3, i4, A, i5⟩ := useF_is K room sg ch lf cs hu hf n
    show (∀ p ∈ kU (useK room sg ch lf (useF room sg ch lf K cs n).1 (cs n)), p < kP (useK room sg ch lf (useF room sg ch lf K cs n).1 (cs n))) ∧ (∀ p ∈ flat (useK room sg ch lf (useF room sg ch lf K cs n).1 (cs n)), p < kP (useK room sg ch lf (useF room sg ch lf K cs n).1 (cs n))) ∧ (kU (useK room sg ch lf (useF room sg ch lf K cs n).1 (cs n))).length = (kU K).length + (n + 1) ∧ (∀ j, j < n + 1 → kC (useK room sg ch lf (useF room sg ch lf K cs n).1 (cs n)) ((kU (useK room sg ch lf (useF room sg ch lf K cs n).1 (cs n))).getD ((kU K).length + j) 0) = cs j) ∧ ∃ A, kU (useK room sg ch lf (useF room sg ch lf K cs n).1 (cs n)) = kU K ++ A
    generalize (useF room sg ch lf K cs n).1 = K' at *
    obtain ⟨p, w1, w2, w3, w4, w5, w6⟩ := useK_is K' room sg ch lf (cs n) i1 i2
    refine ⟨fun q hq => ?_, w6, ?_, fun j hj => ?_, A ++ [p], by rw [w1, i5, List.append_assoc]⟩
    · rw [w1] at hq
      rcases List.mem_append.mp hq with z | z
      · have := i1 q z; omega
      · rw [List.mem_singleton.mp z]; exact w2
    · rw [w1, List.length_append, List.length_singleton, i3]; rfl
    · rw [w1]
      by_cases z : j < n
      · have e : (kU K' ++ [p]).getD ((kU K).length + j) 0 = (kU K').getD ((kU K).length + j) 0 := by
          rw [List.getD_eq_getElem?_getD, List.getElem?_append_left (by omega), ← List.getD_eq_getElem?_getD]
        rw [e, w4 _ (i1 _ (by rw [List.getD_eq_getElem?_getD, List.getElem?_eq_getElem (by omega)]; exact List.getElem_mem _))]
        exact i4 j z
      · have ej : j = n := by omega
        have e : (kU K' ++ [p]).getD ((kU K).length + j) 0 = p := by
          rw [ej, ← i3, List.getD_eq_getElem?_getD, List.getElem?_append_right (Nat.le_refl _), Nat.sub_self]; rfl
        rw [e, w3, ej]
theorem telF_set (K : KT) (seg lf : Nat) (hk : Nat → Int) (cs : Nat → List Int) : ∀ n, ∃ H, telF K seg lf hk cs n = setH K H ∧ (kH K).length ≤ H.length
  | 0 => ⟨kH K, rfl, Nat.le_refl _⟩
  | n + 1 => by
    obtain ⟨H, e1, e2⟩ := telF_set K seg lf hk cs n
    unfold telF
    rw [e1]
    split
    · unfold telK
      split
      · exact ⟨_, rfl, by rw [List.length_set]; exact e2⟩
      · exact ⟨_, rfl, by rw [List.length_append]; exact Nat.le_trans e2 (Nat.le_add_right _ _)⟩
    · exact ⟨H, rfl, e2⟩
theorem segK_set (nu : List Int) (ts : Nat → List (Int × Int)) (F E : List Int) (K : KT) (a n : Nat) : ∃ H, segK nu ts F E K a n = setH (setG (segU nu ts F E K a n).1 (kG K ++ [(kU K).length])) H ∧ (kH (segU nu ts F E K a n).1).length ≤ H.length := telF_set _ _ _ _ _ n
theorem lenS_add (F E : List Int) (a : Nat) : ∀ n, lenS (pcs F E) (a + n) = lenS (pcs F E) a + lenS (csF F E a) n
  | 0 => rfl
  | n + 1 => by
    show lenS (pcs F E) (a + n) + (pcs F E (a + n)).length = lenS (pcs F E) a + (lenS (csF F E a) n + (pcs F E (a + n)).length)
    rw [lenS_add F E a n]; omega
theorem lenS_end {F E : List Int} (eo : EndOk E) (he : ∀ x ∈ E, x ≤ F.length) : ∀ k, k ≤ E.length → (lenS (pcs F E) k : Int) = (0 :: E).getD k 0
  | 0, _ => rfl
  | k + 1, hk => by
    have i := lenS_end eo he k (by omega)
    obtain ⟨p1, p2, p3⟩ := pcs_at eo he (k := k) (by omega)
    obtain ⟨t1, t2, t3⟩ := eo.fst (k := k) (by omega)
    obtain ⟨u1, u2, u3⟩ := eo.len (k := k) (by omega)
    show ((lenS (pcs F E) k + (pcs F E k).length : Nat) : Int) = E.getD k 0
    rw [p1]
    omega
theorem lenS_le {F E : List Int} (eo : EndOk E) (he : ∀ x ∈ E, x ≤ F.length) (k : Nat) (hk : k ≤ E.length) : lenS (pcs F E) k ≤ F.length := by
  have := lenS_end eo he k hk
  cases k with
  | zero => exact Nat.zero_le _
  | succ k =>
    have e : (0 :: E).getD (k + 1) 0 = E.getD k 0 := rfl
    rw [e] at this
    have := he (E.getD k 0) (by rw [List.getD_eq_getElem?_getD, List.getElem?_eq_getElem (by omega)]; exact List.getElem_mem _)
    omega
/-- a file's first a pieces have been saved since K -/
def SvP (F E : List Int) (K K' : KT) (a : Nat) : Prop := KOk K' ∧ KO2 K' ∧ (kU K').length = (kU K).length + a ∧ (∀ j, j < a → (kU K').getD ((kU K).length + j) 0 ∈ flat K') ∧ (∀ j, j < a → kC K' ((kU K').getD ((kU K).length + j) 0) = pcs F E j) ∧ (kP K ≤ kP K' ∧ kP K' ≤ kP K + a) ∧ (flat K').length ≤ (flat K).length + a ∧ (byN K ≤ byN K' ∧ byN K' ≤ byN K + lenS (pcs F E) a) ∧ (∃ A, kU K' = kU K ++ A) ∧ (∃ A, kG K' = kG K ++ A) ∧ (kH K).length ≤ (kH K').length ∧ (∀ p, p < kP K → kC K' p = kC K p) ∧ (∀ p ∈ flat K, p ∈ flat K') ∧ kD K' = kD K ∧ kB K' = kB K ∧ kK K' = kK K ∧ (∀ p, p < kP K → kS K' p = kS K p)
theorem SvP.rf (F E : List Int) {K : KT} (ok : KOk K) (o2 : KO2 K) : SvP F E K K 0 := ⟨ok, o2, rfl, fun j hj => absurd hj (Nat.not_lt_zero _), fun j hj => absurd hj (Nat.not_lt_zero _), ⟨Nat.le_refl _, Nat.le_refl _⟩, Nat.le_refl _, ⟨Nat.le_refl _, Nat.le_refl _⟩, ⟨[], (List.append_nil _).symm⟩, ⟨[], (List.append_nil _).symm⟩, Nat.le_refl _, fun _ _ => rfl, fun _ h => h, rfl, rfl, rfl, fun _ _ => rfl⟩
theorem SvP.seg {F E : List Int} {K K' : KT} {a : Nat} (S : SvP F E K K' a) (nu : List Int) (ts : Nat → List (Int × Int)) (n : Nat) (U : UsP K' (segU nu ts F E K' a n).1 (kU K').length n (lenS (csF F E a) n)) (ok' : KOk (segK nu ts F E K' a n)) (o2' : KO2 (segK nu ts F E K' a n)) : SvP F E K (segK nu ts F E K' a n) (a + n) := by
  obtain ⟨H, eS, eH⟩ := segK_set nu ts F E K' a n
  obtain ⟨s1, s2, s3, s4, s5, ⟨s6, s6'⟩, s7, ⟨s8, s8'⟩, ⟨A, s9⟩, ⟨B, s10⟩, s11, s12, s13, s14, s15, s16, s17⟩ := S
  obtain ⟨u1, u2, u3, ⟨u4, u4'⟩, u5, u6, u6', u7, u8, u9, u10, u11, u12, u13, u14, u15⟩ := U
  obtain ⟨f1, f2, f3, f4, A', f5⟩ := useF_is K' (nu.getD 0 0) (sgF K') (chF nu ts K' F E a n) (kU K').length (csF F E a) s1.2.2.2.2.2.2.1 s1.2.2.1 n
  have eU : useF (nu.getD 0 0) (sgF K') (chF nu ts K' F E a n) (kU K').length K' (csF F E a) n = segU nu ts F E K' a n := rfl
  rw [eU] at f4 f5
  rw [eS] at ok' o2' ⊢
  generalize segU nu ts F E K' a n = SU at *
  have hul : ∀ j, j < a → (kU K').getD ((kU K).length + j) 0 < kP K' := fun j hj => s1.2.2.1 _ (s4 j hj)
  refine ⟨ok', o2', by show (kU SU.1).length = _; omega, fun j hj => ?_, fun j hj => ?_, ⟨by show _ ≤ kP SU.1; omega, by show kP SU.1 ≤ _; omega⟩, by show (flat SU.1).length ≤ _; omega, ⟨by show _ ≤ byN SU.1; omega, by show byN SU.1 ≤ _; rw [lenS_add]; omega⟩, ⟨A ++ A', by show kU SU.1 = _; rw [f5, s9, List.append_assoc]⟩, ⟨B ++ [(kU K').length], by show kG K' ++ _ = _; rw [s10, List.append_assoc]⟩, by show _ ≤ H.length; rw [u11] at eH; omega, fun p hp => ?_, fun p hp => u9 p (s13 p hp), u12.trans s14, u13.trans s15, u14.trans s16, fun p hp => ?_⟩
  · show (kU SU.1).getD ((kU K).length + j) 0 ∈ flat SU.1
    by_cases z : j < a
    · rw [u7 _ (by omega)]; exact u9 _ (s4 j z)
    · exact u3 _ (by omega) (by omega)
  · show kC SU.1 ((kU SU.1).getD ((kU K).length + j) 0) = _
    by_cases z : j < a
    · rw [u7 _ (by omega), u8 _ (hul j z)]; exact s5 j z
    · have := f4 (j - a) (by omega)
      have e1 : (kU K').length + (j - a) = (kU K).length + j := by omega
      rw [e1] at this
      rw [this]
      show pcs F E (a + (j - a)) = _
      congr 1
      omega
  · show kC SU.1 p = _
    rw [u8 p (by omega)]; exact s12 p hp
  · show kS SU.1 p = _
    rw [u15 p (by omega)]; exact s17 p hp
theorem ArF.le {K K' : KT} {h h' : AH} (A : ArF K' h h') (h1 : (kU K).length ≤ (kU K').length) (h2 : kP K ≤ kP K') (h3 : byN K ≤ byN K') (h4 : (kG K).length ≤ (kG K').length) (h5 : (kH K).length ≤ (kH K').length) : ArF K h h' :=
  ⟨fun i hi => A.1 i (by omega), fun p hp => A.2.1 p (by omega), fun x hx => A.2.2.1 x (by omega), fun s hs => A.2.2.2.1 s (by omega), fun i hi => A.2.2.2.2 i (by omega)⟩
theorem SvP.ar {F E : List Int} {K K' : KT} {a : Nat} (S : SvP F E K K' a) {h h' : AH} (A : ArF K' h h') : ArF K h h' := by
  obtain ⟨s1, s2, s3, s4, s5, ⟨s6, s6'⟩, s7, ⟨s8, s8'⟩, ⟨B, s9⟩, ⟨C, s10⟩, s11, s12⟩ := S
  exact A.le (by omega) s6 s8 (by rw [s10, List.length_append]; omega) s11
