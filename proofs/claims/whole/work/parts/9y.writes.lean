/-! ===== L2: a piece is written (reference) ===== -/
def byS (C : Nat → List Int) : Nat → Nat
  | 0 => 0
  | n + 1 => byS C n + (C n).length
def byN (K : KT) : Nat := byS (kC K) (kP K)
/-- of pieces that are not yet nothing is told; how many bytes there are -/
def ZrM (h : AH) (K : KT) : Prop := (∀ x, 798 + kP K ≤ x → x < 11098 → hI h 109 x = iI 0) ∧ hI h 109 2 = iI ((byN K : Nat) : Int)
theorem byS_congr {C C' : Nat → List Int} : ∀ n, (∀ p, p < n → C' p = C p) → byS C' n = byS C n
  | 0, _ => rfl
  | n + 1, h => by
    unfold byS
    rw [byS_congr n (fun p hp => h p (by omega)), h n (by omega)]
theorem byS_fr {C : Nat → List Int} {fr : Nat → Nat} : ∀ n, (∀ p, p < n → fr (p + 1) = fr p + (C p).length) → fr n = fr 0 + byS C n
  | 0, _ => rfl
  | n + 1, h => by
    have := byS_fr (fr := fr) n (fun p hp => h p (by omega))
    rw [h n (by omega), this]
    show _ = fr 0 + (byS C n + _)
    omega
def okC (c : List Int) : Prop := 1 ≤ c.length ∧ c.length ≤ 60 ∧ ∀ x ∈ c, 0 ≤ x ∧ x ≤ 255
theorem sumN_cg {f f' : Nat → Int} : ∀ n : Nat, (∀ k, k < n → f' k = f k) → sumN f' n = sumN f n
  | 0, _ => rfl
  | n + 1, h => by
    unfold sumN
    rw [sumN_cg n (fun k hk => h k (by omega)), h n (by omega)]
theorem KOk.aP {K : KT} (ok : KOk K) {c : List Int} (hc : okC c) (hP : kP K < 10240) : KOk (addP K c) := by
  have okk := ok
  obtain ⟨o1, o2, o3, o4, o5, o6, o7, o8, o9, o10, o11⟩ := ok
  refine ⟨o1, o2, fun p hp => Nat.lt_succ_of_lt (o3 p hp), o4, o5, fun q => ?_, fun p hp => Nat.lt_succ_of_lt (o7 p hp), o8, hP, fun q hq => ?_, fun b hb hf => ?_⟩
  · show (if q = kP K then (0 : Int) else kS K q) = 0 ∨ (if q = kP K then (0 : Int) else kS K q) = 1
    split
    · exact Or.inl rfl
    · exact o6 q
  · show 1 ≤ (if q = kP K then c else kC K q).length ∧ (if q = kP K then c else kC K q).length ≤ 60 ∧ ∀ x ∈ (if q = kP K then c else kC K q), 0 ≤ x ∧ x ≤ 255
    have hq' : q < kP K + 1 := hq
    split
    · exact hc
    · exact o10 q (by omega)
  · obtain ⟨a1, a2, a3, a4, a5⟩ := o11 b hb hf
    refine ⟨a1, a2, a3, ?_, a5⟩
    have e : bLen (addP K c) b = bLen K b := by
      unfold bLen
      refine sumN_cg _ (fun k hk => ?_)
      show ((if pOf K b k = kP K then c else kC K (pOf K b k)).length : Int) = _
      rw [if_neg (by have := o3 _ (a5 k hk); omega)]; rfl
    rw [e]; exact a4
theorem kP_not {K : KT} (ok : KOk K) : kP K ∉ flat K := fun z => Nat.lt_irrefl _ (ok.2.2.1 _ z)
theorem byt_addP {K : KT} (ok : KOk K) (c : List Int) {b : Int × Int × List Nat} (hb : ∀ p ∈ b.2.2, p < kP K) : byt (addP K c) b = byt K b := by
  unfold byt
  congr 1
  apply List.map_congr_left
  intro p hp
  show ((if p = kP K then c else kC K p).length : Int) = _
  rw [if_neg (by have := hb p hp; omega)]; rfl
theorem KOk.wP {K : KT} (ok : KOk K) {c : List Int} (hc : okC c) (hP : kP K < 10240) (hl : (flat K).length < 300) (room : Int) : KOk (wrP K room c) := by
  have oa := ok.aP hc hP
  have hn := kP_not ok
  have ef : flat (wrP K room c) = flat K ++ [kP K] := by
    show flt (wrX (addP K c) room (kD K) (kX K) (kP K)) = _
    rw [wrX_flt]; rfl
  have ne : NE (kX K) := fun b hb => (ok.2.2.2.2.1 b hb).1
  have pb : PB (addP K c) (kX K) := fun b hb => (ok.2.2.2.2.1 b hb).2
  obtain ⟨o1, o2, o3, o4, o5, o6, o7, o8, o9, o10, o11⟩ := oa
  refine ⟨o1, ?_, ?_, ?_, fun b hb => ⟨ne.wr (addP K c) room (kD K) (kP K) b hb, pb.wr o1.1 room (kP K) b hb⟩, o6, o7, o8, o9, o10, fun b hb hf => ?_⟩
  · rw [ef]
    exact List.nodup_append.mpr ⟨ok.2.1, by simp, fun a ha b hb e => hn (by rw [List.mem_singleton.mp hb] at e; rw [← e]; exact ha)⟩
  · rw [ef]
    intro p hp
    rcases List.mem_append.mp hp with z | z
    · exact Nat.lt_succ_of_lt (ok.2.2.1 p z)
    · rw [List.mem_singleton.mp z]; exact Nat.lt_succ_self _
  · rw [ef, List.length_append, List.length_singleton]; omega
  · obtain ⟨a1, a2, a3, a4, a5⟩ := o11 b hb hf
    exact ⟨a1, a2, a3, a4, fun k hk => by rw [ef]; exact List.mem_append_left _ (a5 k hk)⟩
/-- arrays below what a core tells are the same -/
def ArF (K : KT) (h h' : AH) : Prop := (∀ i, i < (kU K).length → hI h' 113 i = hI h 113 i) ∧ (∀ p, p < kP K → hI h' 114 p = hI h 114 p ∧ hI h' 115 p = hI h 115 p) ∧ (∀ x, x < byN K → hI h' 116 x = hI h 116 x) ∧ (∀ s, s < (kG K).length → hI h' 117 s = hI h 117 s ∧ hI h' 118 s = hI h 118 s) ∧ ∀ i, i < (kH K).length → hI h' 119 i = hI h 119 i
theorem ArF.of {S S5 : List Nat} {h h' : AH} (K : KT) (f : FrM S S5 h h') (hs : ∀ q ∈ [113, 114, 115, 116, 117, 118, 119], q ∉ S) : ArF K h h' := by
  have k : ∀ q, q ∈ [113, 114, 115, 116, 117, 118, 119] → hI h' q = hI h q := fun q hq => f.2.2.2.2.1 q (hs q hq) (by rintro rfl; revert hq; decide)
  exact ⟨fun i _ => by rw [k 113 (by decide)], fun p _ => by rw [k 114 (by decide), k 115 (by decide)]; exact ⟨rfl, rfl⟩, fun x _ => by rw [k 116 (by decide)], fun s _ => by rw [k 117 (by decide), k 118 (by decide)]; exact ⟨rfl, rfl⟩, fun i _ => by rw [k 119 (by decide)]⟩
theorem ArF.tr {K : KT} {a b c : AH} (h1 : ArF K a b) (h2 : ArF K b c) : ArF K a c := ⟨fun i hi => (h2.1 i hi).trans (h1.1 i hi), fun p hp => ⟨(h2.2.1 p hp).1.trans (h1.2.1 p hp).1, (h2.2.1 p hp).2.trans (h1.2.1 p hp).2⟩, fun x hx => (h2.2.2.1 x hx).trans (h1.2.2.1 x hx), fun s hs => ⟨(h2.2.2.2.1 s hs).1.trans (h1.2.2.2.1 s hs).1, (h2.2.2.2.1 s hs).2.trans (h1.2.2.2.1 s hs).2⟩, fun i hi => (h2.2.2.2.2 i hi).trans (h1.2.2.2.2 i hi)⟩
theorem KN.addP {h h' : AH} {K : KT} (ok : KOk K) (R : KN h K) (Z : ZrM h K) {c : List Int} (hc : okC c) (hP : kP K < 10240) (hby : byN K + c.length ≤ 10240)
    (a113 : hI h' 113 = hI h 113) (a119 : hI h' 119 = hI h 119) (a114 : hI h' 114 = u1 (hI h 114) (kP K) (iI ((byN K : Nat) : Int))) (a115 : hI h' 115 = u1 (hI h 115) (kP K) (iI ((c.length : Nat) : Int))) (a116 : hI h' 116 = wrA (hI h 116) (byN K) c)
    (m1 : hI h' 109 1 = iI ((kP K + 1 : Nat) : Int)) (m2 : hI h' 109 2 = iI ((byN K + c.length : Nat) : Int)) (mS : hI h' 109 (21398 + kP K) = iI 0) (mo : ∀ x, x ≠ 1 → x ≠ 2 → x ≠ 21398 + kP K → hI h' 109 x = hI h 109 x) : KN h' (addP K c) := by
  obtain ⟨r0, r1, r2, r3, r4, r5, r6, r7, r8, r9, r10, r11, r12, ⟨fr, q1, q2, q3⟩, r14⟩ := R
  have hxl := kX_len ok
  have hfl := ok.2.2.2.1
  have hf : 0 < kP K → fr (kP K) = byN K := fun hp => by
    have h1 := q3 (kP K - 1) (by omega)
    have h2 := (q1 (kP K - 1) (by omega)).2.1
    have e : kP K - 1 + 1 = kP K := by omega
    rw [e] at h1
    have h3 := q2.symm.trans Z.2
    rw [iI_inj ⟨by omega, by omega⟩ ⟨by omega, by omega⟩] at h3
    omega
  unfold KN
  rw [a113, a119, a114, a115, a116]
  refine ⟨by rw [mo _ (by omega) (by omega) (by omega)]; exact r0, m1, by rw [mo _ (by omega) (by omega) (by omega)]; exact r2, by rw [mo _ (by omega) (by omega) (by omega)]; exact r3, by rw [mo _ (by omega) (by omega) (by omega)]; exact r4, by rw [mo _ (by omega) (by omega) (by omega)]; exact r5, by rw [mo _ (by omega) (by omega) (by omega)]; exact r6, fun b hb => ⟨by rw [mo _ (by omega) (by omega) (by omega)]; exact (r7 b hb).1, fun hff => ?_⟩, fun j hj => ?_, fun q hq => ⟨fun hn => ?_, ?_, ?_⟩, r10, trivial, fun i hi => ⟨(r12 i hi).1, ?_⟩, ⟨fun q => if q = kP K then byN K else if q = kP K + 1 then byN K + c.length else fr q, fun q hq => ?_, ?_, fun q hq => ?_⟩, fun i hi => ?_⟩
  · obtain ⟨c1, c2, c3⟩ := (r7 b hb).2 hff
    rw [mo _ (by omega) (by omega) (by omega), mo (10 + 4 * b + 2) (by omega) (by omega) (by omega), mo (10 + 4 * b + 3) (by omega) (by omega) (by omega)]
    exact ⟨c1, c2, c3⟩
  · have hj' : j < (kX K).length := hj
    obtain ⟨o1, o2, o3⟩ := r8 j hj
    refine ⟨by rw [mo _ (by omega) (by omega) (by omega)]; exact o1, by rw [mo _ (by omega) (by omega) (by omega)]; exact o2, fun i hi => ?_⟩
    have hm := ok.2.2.1 _ (itm_mem (K := K) (j := j) (i := i) hi)
    have hm' : ((kX K).getD j (0, 0, [])).2.2.getD i 0 < kP K := hm
    have o := o3 i hi
    show hI h' 109 (798 + ((kX K).getD j (0, 0, [])).2.2.getD i 0) = _ ∧ hI h' 109 (11098 + ((kX K).getD j (0, 0, [])).2.2.getD i 0) = _
    rw [mo _ (by omega) (by omega) (by omega), mo (11098 + ((kX K).getD j (0, 0, [])).2.2.getD i 0) (by omega) (by omega) (by omega)]
    exact o
  · have hq' : q < kP K + 1 := hq
    rw [mo _ (by omega) (by omega) (by omega)]
    by_cases z : q = kP K
    · rw [z]; exact Z.1 _ (by omega) (by omega)
    · exact (r9 q (by omega)).1 hn
  · have hq' : q < kP K + 1 := hq
    show hI h' 109 (21398 + q) = iI (if q = kP K then 0 else kS K q)
    by_cases z : q = kP K
    · rw [if_pos z, z]; exact mS
    · rw [if_neg z, mo _ (by omega) (by omega) (by omega)]; exact (r9 q (by omega)).2.1
  · have hq' : q < kP K + 1 := hq
    show u1 (hI h 115) (kP K) _ q = iI ((if q = kP K then c else kC K q).length : Int)
    by_cases z : q = kP K
    · rw [if_pos z, z, u1_eq]
    · rw [if_neg z, u1_ne z]; exact (r9 q (by omega)).2.2
  · rw [mo _ (by omega) (by omega) (by omega)]; exact (r12 i hi).2
  · have hq' : q < kP K + 1 := hq
    show u1 (hI h 114) (kP K) _ q = iI ((if q = kP K then byN K else if q = kP K + 1 then byN K + c.length else fr q : Nat) : Int) ∧ (if q = kP K then byN K else if q = kP K + 1 then byN K + c.length else fr q) + (if q = kP K then c else kC K q).length ≤ 10240 ∧ ∀ i, i < (if q = kP K then c else kC K q).length → wrA (hI h 116) (byN K) c ((if q = kP K then byN K else if q = kP K + 1 then byN K + c.length else fr q) + i) = iI ((if q = kP K then c else kC K q).getD i 0)
    by_cases z : q = kP K
    · rw [if_pos z, if_pos z, z, u1_eq]
      refine ⟨rfl, hby, fun i hi => ?_⟩
      unfold wrA
      rw [if_pos ⟨by omega, by omega⟩]
      congr 2
      omega
    · rw [if_neg z, if_neg z, if_neg (by omega), u1_ne z]
      obtain ⟨w1, w2, w3⟩ := q1 q (by omega)
      refine ⟨w1, w2, fun i hi => ?_⟩
      have hlt : fr q + i < byN K := by
        have e1 := byS_fr (C := kC K) (fr := fr) (kP K) q3
        have e2 := hf (by omega)
        have e3 : fr (q + 1) ≤ fr (kP K) := by
          have e4 := byS_fr (C := kC K) (fr := fr) (q + 1) (fun p hp => q3 p (by omega))
          have mono : ∀ k, byS (kC K) (q + 1) ≤ byS (kC K) (q + 1 + k) := fun k => by
            induction k with
            | zero => exact Nat.le_refl _
            | succ k ih => exact Nat.le_trans ih (Nat.le_add_right _ _)
          have := mono (kP K - (q + 1))
          have e5 : q + 1 + (kP K - (q + 1)) = kP K := by omega
          rw [e5] at this
          omega
        have e6 := q3 q (by omega)
        omega
      unfold wrA
      rw [if_neg (by omega)]
      exact w3 i hi
  · show hI h' 109 2 = iI ((if kP K + 1 = kP K then byN K else if kP K + 1 = kP K + 1 then byN K + c.length else fr (kP K + 1) : Nat) : Int)
    rw [if_neg (by omega), if_pos rfl]; exact m2
  · have hq' : q < kP K + 1 := hq
    show (if q + 1 = kP K then byN K else if q + 1 = kP K + 1 then byN K + c.length else fr (q + 1)) = (if q = kP K then byN K else if q = kP K + 1 then byN K + c.length else fr q) + (if q = kP K then c else kC K q).length
    by_cases z : q = kP K
    · rw [if_neg (by omega), if_pos (by omega), if_pos z, if_pos z]
    · rw [if_neg z, if_neg (show ¬ q = kP K + 1 by omega), if_neg z]
      by_cases z2 : q + 1 = kP K
      · rw [if_pos z2, ← hf (by omega), ← q3 q (by omega), z2]
      · rw [if_neg z2, if_neg (by omega)]; exact q3 q (by omega)
  · have hi' : i < min (kK K).length 40 := hi
    obtain ⟨c1, c2, c3⟩ := r14 i hi
    rw [mo _ (by omega) (by omega) (by omega), mo (678 + 3 * i + 1) (by omega) (by omega) (by omega), mo (678 + 3 * i + 2) (by omega) (by omega) (by omega)]
    exact ⟨c1, c2, c3⟩
