/-! ===== L2: the index tells a segment (reference) ===== -/
def setG (K : KT) (G : List Nat) : KT := (kD K, kX K, kS K, kU K, G, kH K, kB K, kK K, kP K, kC K)
def setH (K : KT) (H : List (Nat × Nat)) : KT := (kD K, kX K, kS K, kU K, kG K, H, kB K, kK K, kP K, kC K)
/-- the index tells a segment for bytes; p: a piece that has them -/
def telK (K : KT) (seg p : Nat) (c : List Int) : KT := if 0 ≤ hkI K c then setH K ((kH K).set (hkI K c).toNat (((kH K).getD (hkI K c).toNat (0, 0)).1, seg)) else setH K (kH K ++ [(p, seg)])
def telF (K : KT) (seg lf : Nat) (hk : Nat → Int) (cs : Nat → List Int) : Nat → KT
  | 0 => K
  | j + 1 => if hk j = 1 then telK (telF K seg lf hk cs j) seg ((kU K).getD (lf + j) 0) (cs j) else telF K seg lf hk cs j
theorem KOk.sH {K : KT} (ok : KOk K) (H : List (Nat × Nat)) : KOk (setH K H) := ok
theorem KM.newS {h h' : AH} {K : KT} (R : KN h K) (f : FrM [109, 110, 111, 117, 118] [37] h h') (lf n : Nat) (hu : (kU K).length = lf + n) (hG : ∀ s, s < (kG K).length → hI h 117 s = iI ((kG K).getD s 0) ∧ hI h 118 s = iI (((kG K).getD (s + 1) lf : Int) - (kG K).getD s 0))
    (a117 : hI h' 117 = u1 (hI h 117) (kG K).length (iI ((lf : Nat) : Int))) (a118 : hI h' 118 = u1 (hI h 118) (kG K).length (iI ((n : Nat) : Int))) (M : hI h' 109 = u1 (hI h 109) 3 (iI (((kG K).length + 1 : Nat) : Int))) : KM h' (setG K (kG K ++ [lf])) := by
  have k : ∀ q, q ∉ [109, 110, 111, 117, 118] → q ≠ 95 → hI h' q = hI h q := f.2.2.2.2.1
  have mo : ∀ x, x ≠ 3 → hI h' 109 x = hI h 109 x := fun x hx => by rw [M, u1_ne hx]
  obtain ⟨r0, r1, r2, r3, r4, r5, r6, r7, r8, r9, r10, r11, r12, ⟨fr, q1, q2, q3⟩, r14⟩ := R
  unfold KM
  rw [k 113 (by decide) (by decide), k 114 (by decide) (by decide), k 115 (by decide) (by decide), k 116 (by decide) (by decide), k 119 (by decide) (by decide), a117, a118]
  refine ⟨by rw [mo _ (by omega)]; exact r0, by rw [mo _ (by omega)]; exact r1, ?_, by rw [mo _ (by omega)]; exact r3, by rw [mo _ (by omega)]; exact r4, by rw [mo _ (by omega)]; exact r5, by rw [mo _ (by omega)]; exact r6, fun b hb => ⟨by rw [mo _ (by omega)]; exact (r7 b hb).1, fun hf => ?_⟩, fun j hj => ⟨by rw [mo _ (by omega)]; exact (r8 j hj).1, by rw [mo _ (by omega)]; exact (r8 j hj).2.1, fun i hi => ⟨by rw [mo _ (by omega)]; exact ((r8 j hj).2.2 i hi).1, by rw [mo _ (by omega)]; exact ((r8 j hj).2.2 i hi).2⟩⟩, fun q hq => ⟨fun hn => by rw [mo _ (by omega)]; exact (r9 q hq).1 hn, by rw [mo _ (by omega)]; exact (r9 q hq).2.1, (r9 q hq).2.2⟩, r10, fun s hs => ?_, fun i hi => ⟨(r12 i hi).1, by rw [mo _ (by omega)]; exact (r12 i hi).2⟩, ⟨fr, q1, by rw [mo _ (by omega)]; exact q2, q3⟩, fun i hi => ⟨by rw [mo _ (by omega)]; exact (r14 i hi).1, by rw [mo _ (by omega)]; exact (r14 i hi).2.1, by rw [mo _ (by omega)]; exact (r14 i hi).2.2⟩⟩
  · rw [M, u1_eq]
    show _ = iI (((kG K ++ [lf]).length : Nat) : Int)
    rw [List.length_append]; rfl
  · obtain ⟨c1, c2, c3⟩ := (r7 b hb).2 hf
    rw [mo _ (by omega), mo (10 + 4 * b + 2) (by omega), mo (10 + 4 * b + 3) (by omega)]
    exact ⟨c1, c2, c3⟩
  · have hs' : s < (kG K).length + 1 := by
      have : s < (kG K ++ [lf]).length := hs
      rw [List.length_append] at this
      exact this
    have old : ∀ (j d : Nat), j < (kG K).length → (kG K ++ [lf]).getD j d = (kG K).getD j 0 := fun j d hj => by
      rw [List.getD_eq_getElem?_getD, List.getElem?_append_left hj, List.getD_eq_getElem?_getD, List.getElem?_eq_getElem hj]; rfl
    have new : ∀ d : Nat, (kG K ++ [lf]).getD (kG K).length d = lf := fun d => by
      rw [List.getD_eq_getElem?_getD, List.getElem?_append_right (Nat.le_refl _), Nat.sub_self]; rfl
    show u1 (hI h 117) (kG K).length _ s = iI (((kG K ++ [lf]).getD s 0 : Nat) : Int) ∧ u1 (hI h 118) (kG K).length _ s = iI ((((kG K ++ [lf]).getD (s + 1) (kU K).length : Nat) : Int) - (((kG K ++ [lf]).getD s 0 : Nat) : Int))
    by_cases z : s = (kG K).length
    · rw [z, u1_eq, u1_eq, new]
      have e : (kG K ++ [lf]).getD ((kG K).length + 1) (kU K).length = (kU K).length := by
        rw [List.getD_eq_getElem?_getD, List.getElem?_eq_none (by rw [List.length_append, List.length_singleton]; omega)]; rfl
      rw [e, hu]
      refine ⟨rfl, ?_⟩
      congr 1
      omega
    · rw [u1_ne z, u1_ne z, old s 0 (by omega)]
      obtain ⟨w1, w2⟩ := hG s (by omega)
      refine ⟨w1, ?_⟩
      rw [w2]
      by_cases z2 : s + 1 = (kG K).length
      · rw [z2, new]
        have e : (kG K).getD (kG K).length lf = lf := by rw [List.getD_eq_getElem?_getD, List.getElem?_eq_none (Nat.le_refl _)]; rfl
        rw [e]
      · rw [old (s + 1) _ (by omega)]
        have e : (kG K).getD (s + 1) lf = (kG K).getD (s + 1) 0 := by
          rw [List.getD_eq_getElem?_getD, List.getD_eq_getElem?_getD, List.getElem?_eq_getElem (by omega)]; rfl
        rw [e]
theorem KM.hooks {h h' : AH} {K : KT} (R : KM h K) (f : FrM [109, 110, 111, 119] [37] h h') (H : List (Nat × Nat)) (m4 : hI h' 109 4 = iI (H.length : Nat)) (mo : ∀ x, x ≠ 4 → x < 31698 → hI h' 109 x = hI h 109 x) (hh : ∀ i, i < H.length → hI h' 119 i = iI (H.getD i (0, 0)).1 ∧ hI h' 109 (31698 + i) = iI (H.getD i (0, 0)).2) (hk : kP K ≤ 10240) (hfl : ∀ q ∈ flat K, q < kP K) (hxl : (kX K).length ≤ 300) : KM h' (setH K H) := by
  have k : ∀ q, q ∉ [109, 110, 111, 119] → q ≠ 95 → hI h' q = hI h q := f.2.2.2.2.1
  obtain ⟨r0, r1, r2, r3, r4, r5, r6, r7, r8, r9, r10, r11, r12, ⟨fr, q1, q2, q3⟩, r14⟩ := R
  unfold KM
  rw [k 113 (by decide) (by decide), k 114 (by decide) (by decide), k 115 (by decide) (by decide), k 116 (by decide) (by decide), k 117 (by decide) (by decide), k 118 (by decide) (by decide)]
  refine ⟨by rw [mo _ (by omega) (by omega)]; exact r0, by rw [mo _ (by omega) (by omega)]; exact r1, by rw [mo _ (by omega) (by omega)]; exact r2, m4, by rw [mo _ (by omega) (by omega)]; exact r4, by rw [mo _ (by omega) (by omega)]; exact r5, by rw [mo _ (by omega) (by omega)]; exact r6, fun b hb => ⟨by rw [mo _ (by omega) (by omega)]; exact (r7 b hb).1, fun hf => ?_⟩, fun j hj => ?_, fun q hq => ?_, r10, r11, hh, ⟨fr, q1, by rw [mo _ (by omega) (by omega)]; exact q2, q3⟩, fun i hi => ?_⟩
  · obtain ⟨c1, c2, c3⟩ := (r7 b hb).2 hf
    rw [mo _ (by omega) (by omega), mo (10 + 4 * b + 2) (by omega) (by omega), mo (10 + 4 * b + 3) (by omega) (by omega)]
    exact ⟨c1, c2, c3⟩
  · have hj' : j < (kX K).length := hj
    obtain ⟨o1, o2, o3⟩ := r8 j hj
    refine ⟨by rw [mo _ (by omega) (by omega)]; exact o1, by rw [mo _ (by omega) (by omega)]; exact o2, fun i hi => ?_⟩
    have hm := hfl _ (itm_mem (K := K) (j := j) (i := i) hi)
    have hm' : ((kX K).getD j (0, 0, [])).2.2.getD i 0 < kP K := hm
    have o := o3 i hi
    show hI h' 109 (798 + ((kX K).getD j (0, 0, [])).2.2.getD i 0) = _ ∧ hI h' 109 (11098 + ((kX K).getD j (0, 0, [])).2.2.getD i 0) = _
    rw [mo _ (by omega) (by omega), mo (11098 + ((kX K).getD j (0, 0, [])).2.2.getD i 0) (by omega) (by omega)]
    exact o
  · have hq' : q < kP K := hq
    exact ⟨fun hn => by rw [mo _ (by omega) (by omega)]; exact (r9 q hq).1 hn, by rw [mo _ (by omega) (by omega)]; exact (r9 q hq).2.1, (r9 q hq).2.2⟩
  · have hi' : i < min (kK K).length 40 := hi
    exact ⟨by rw [mo _ (by omega) (by omega)]; exact (r14 i hi).1, by rw [mo _ (by omega) (by omega)]; exact (r14 i hi).2.1, by rw [mo _ (by omega) (by omega)]; exact (r14 i hi).2.2⟩
/-- what telling hooks leaves -/
theorem telK_rest (K : KT) (seg p : Nat) (c : List Int) : ∃ H, telK K seg p c = setH K H ∧ H.length ≤ (kH K).length + 1 ∧ (kH K).length ≤ H.length ∧ ∀ x ∈ H, x ∈ kH K ∨ (∃ y ∈ kH K, x = (y.1, seg)) ∨ x = (p, seg) := by
  unfold telK
  rcases hkI_cases K c with ⟨i, h1, h2, h3, h4, h5⟩ | ⟨h1, h2, h3⟩
  · rw [h4, if_pos (by omega), Int.toNat_natCast]
    refine ⟨_, rfl, by rw [List.length_set]; omega, by rw [List.length_set]; exact Nat.le_refl _, fun x hx => ?_⟩
    rcases List.mem_or_eq_of_mem_set hx with z | z
    · exact Or.inl z
    · exact Or.inr (Or.inl ⟨_, by rw [List.getD_eq_getElem?_getD, List.getElem?_eq_getElem h1]; exact List.getElem_mem h1, z⟩)
  · rw [h2, if_neg (by omega)]
    refine ⟨_, rfl, by rw [List.length_append, List.length_singleton]; omega, by rw [List.length_append]; omega, fun x hx => ?_⟩
    rcases List.mem_append.mp hx with z | z
    · exact Or.inl z
    · exact Or.inr (Or.inr (List.mem_singleton.mp z))
theorem telF_rest (K : KT) (seg lf : Nat) (hk : Nat → Int) (cs : Nat → List Int) (hs : seg < (kG K).length) (hp : ∀ j, (kU K).getD (lf + j) 0 < kP K) (hH : ∀ x ∈ kH K, x.1 < kP K ∧ x.2 < (kG K).length) : ∀ n, ∃ H, telF K seg lf hk cs n = setH K H ∧ H.length ≤ (kH K).length + n ∧ (kH K).length ≤ H.length ∧ ∀ x ∈ H, x.1 < kP K ∧ x.2 < (kG K).length
  | 0 => ⟨kH K, rfl, Nat.le_refl _, Nat.le_refl _, hH⟩
  | n + 1 => by
    obtain ⟨H, e1, e2, e3, e4⟩ := telF_rest K seg lf hk cs hs hp hH n
    unfold telF
    split
    · rw [e1]
      obtain ⟨H2, f1, f2, f3, f4⟩ := telK_rest (setH K H) seg ((kU K).getD (lf + n) 0) (cs n)
      have f2' : H2.length ≤ H.length + 1 := f2
      have f3' : H.length ≤ H2.length := f3
      refine ⟨H2, by rw [f1]; rfl, by omega, by omega, fun x hx => ?_⟩
      rcases f4 x hx with z | ⟨y, z1, z2⟩ | z
      · exact e4 x z
      · rw [z2]; exact ⟨(e4 y z1).1, hs⟩
      · rw [z]; exact ⟨hp n, hs⟩
    · exact ⟨H, e1, by omega, e3, e4⟩
