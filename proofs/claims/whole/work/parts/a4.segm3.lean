/-! ===== L2: a segment is saved (reference), whole ===== -/
def sgF (K : KT) (s : Nat) : Nat × Nat := ((kG K).getD s 0, (kG K).getD (s + 1) (kU K).length - (kG K).getD s 0)
def hkF (ts : Nat → List (Int × Int)) (K : KT) (F E : List Int) (a i : Nat) : Int := hkV ts (kD K) F E (a + i)
def csF (F E : List Int) (a i : Nat) : List Int := pcs F E (a + i)
def tlL (ts : Nat → List (Int × Int)) (K : KT) (F E : List Int) (a n : Nat) : List Int := (List.range n).map (tfV K (hkF ts K F E a) (csF F E a))
def chF (nu : List Int) (ts : Nat → List (Int × Int)) (K : KT) (F E : List Int) (a n : Nat) : List Int := chs (tlL ts K F E a n) (nu.getD 6 0).toNat
def segU (nu : List Int) (ts : Nat → List (Int × Int)) (F E : List Int) (K : KT) (a n : Nat) : KT × Int := useF (nu.getD 0 0) (sgF K) (chF nu ts K F E a n) (kU K).length K (csF F E a) n
/-- a segment of n pieces from the a-th on is saved: the core; how many were written -/
def segK (nu : List Int) (ts : Nat → List (Int × Int)) (F E : List Int) (K : KT) (a n : Nat) : KT := telF (setG (segU nu ts F E K a n).1 (kG K ++ [(kU K).length])) (kG K).length (kU K).length (hkF ts K F E a) (csF F E a) n
theorem hkS_lt {K : KT} (o2 : KO2 K) (c : List Int) : -1 ≤ hkS K c ∧ hkS K c ≤ ((kG K).length : Int) - 1 := by
  rcases hkI_cases K c with ⟨i, h1, h2, h3, h4, h5⟩ | ⟨h1, h2, h3⟩
  · have hm : (kH K).getD i (0, 0) ∈ kH K := by rw [List.getD_eq_getElem?_getD, List.getElem?_eq_getElem h1]; exact List.getElem_mem h1
    have := (o2.2.2.2.1 _ hm).2
    rw [h5]
    omega
  · rw [h3]; omega
theorem tlL_rg {K : KT} (o2 : KO2 K) (ts : Nat → List (Int × Int)) (F E : List Int) (a n : Nat) : ∀ x ∈ tlL ts K F E a n, -1 ≤ x ∧ x ≤ ((kG K).length : Int) - 1 := fun x hx => by
  obtain ⟨i, -, rfl⟩ := List.mem_map.mp hx
  have := hkS_lt o2 (csF F E a i)
  unfold tfV
  split
  · exact this
  · omega
theorem sgF_M {h : AH} {K : KT} (o2 : KO2 K) (R : KM h K) : SgM h (sgF K) (kG K).length (kU K).length ∧ ∀ s, s < (kG K).length → ((sgF K s).2 : Int) = ((kG K).getD (s + 1) (kU K).length : Int) - (kG K).getD s 0 := by
  have key : ∀ s, s < (kG K).length → (kG K).getD s 0 ≤ (kG K).getD (s + 1) (kU K).length ∧ (kG K).getD (s + 1) (kU K).length ≤ (kU K).length := fun s hs => by
    have e1 : (kG K).getD s 0 = (kG K)[s] := by rw [List.getD_eq_getElem?_getD, List.getElem?_eq_getElem hs]; rfl
    have h1 := o2.2.2.1 _ (List.getElem_mem hs)
    by_cases z : s + 1 < (kG K).length
    · have e2 : (kG K).getD (s + 1) (kU K).length = (kG K)[s + 1] := by rw [List.getD_eq_getElem?_getD, List.getElem?_eq_getElem z]; rfl
      have h2 := List.pairwise_iff_getElem.mp o2.2.1 s (s + 1) hs z (by omega)
      have h3 := o2.2.2.1 _ (List.getElem_mem z)
      rw [e1, e2]; omega
    · have e2 : (kG K).getD (s + 1) (kU K).length = (kU K).length := by rw [List.getD_eq_getElem?_getD, List.getElem?_eq_none (by omega)]; rfl
      rw [e1, e2]; omega
  refine ⟨fun s hs => ?_, fun s hs => ?_⟩
  · obtain ⟨w1, w2⟩ := R.2.2.2.2.2.2.2.2.2.2.2.1 s hs
    obtain ⟨k1, k2⟩ := key s hs
    refine ⟨w1, ?_, ?_⟩
    · rw [w2]
      congr 1
      show _ = (((kG K).getD (s + 1) (kU K).length - (kG K).getD s 0 : Nat) : Int)
      omega
    · show (kG K).getD s 0 + ((kG K).getD (s + 1) (kU K).length - (kG K).getD s 0) ≤ _
      omega
  · obtain ⟨k1, k2⟩ := key s hs
    show (((kG K).getD (s + 1) (kU K).length - (kG K).getD s 0 : Nat) : Int) = _
    omega
theorem m_segment {h : AH} (g : Gr h) {bk : Nat} {nu : List Int} {ts : Nat → List (Int × Int)} {K : KT} (ok : KOk K) (o2 : KO2 K) (R : KM h K) (Z : ZrM h K) (Q : RuM h bk nu ts) (hnu : nuOk nu) (h60 : 60 ≤ nu.getD 0 0) (h6 : nu.getD 6 0 ≤ 4) (ht : tsOk 1 (ts 1)) {F E : List Int} (C : FlM h F E) (hmo : ∀ k, k < E.length → eLen E k ≤ 60) (a n : Nat) (hn1 : 1 ≤ n) (hn : n ≤ 8) (han : a + n ≤ E.length)
    (hP : kP K + n ≤ 10240) (hU : (kU K).length + n ≤ 10240) (hfl : (flat K).length + n ≤ 300) (hby : byN K + lenS (csF F E a) n ≤ 10240) {K0 : KT} {W : Nat} (G : BgW K0 K W) (hW : W + lenS (csF F E a) n ≤ 400) {c : Nat} (L : Lc h (c + 60 + 9 * n + 42)) :
    ∃ h', mX12_savesSegment [.ref 95, .int (iI (a : Int)), .int (iI ((a + n : Nat) : Int))] h = some (some (.int (iI (segU nu ts F E K a n).2)), h') ∧ FrM [109, 110, 111, 113, 114, 115, 116, 117, 118, 119, 120, 121, 125, 126, 127, 128] [37, 59] h h' ∧ LogR (9 * n + 3 * ((kX (segK nu ts F E K a n)).length - (kX K).length)) h h' ∧ KM h' (segK nu ts F E K a n) ∧ ZrM h' (segK nu ts F E K a n) ∧ ArF K h h' ∧ UsP K (segU nu ts F E K a n).1 (kU K).length n (lenS (csF F E a) n) ∧ BgW K0 (segK nu ts F E K a n) (W + lenS (csF F E a) n) ∧ KOk (segK nu ts F E K a n) ∧ KO2 (segK nu ts F E K a n) := by
  have hul := ok.2.2.2.2.2.2.2.1
  have hgl := o2.1
  have hHl := o2.2.2.2.2.1
  have d0 := R.1
  have n6 := hnu.at 6
  -- hooks
  obtain ⟨h1, a1, a2, a3⟩ := m_hooksOf g ok o2 R Q ht C a n hn han
  have g1 := a2.gr g
  have Q1 : RuM h1 bk nu ts := Q.fr a2 (by decide) (by decide)
  have tll : (tlL ts K F E a n).length = n := by simp [tlL]
  have T1 : TfM h1 (tlL ts K F E a n) := fun i hi => by
    rw [tll] at hi
    rw [(a3 i hi).2]
    congr 1
    unfold tlL
    rw [List.getD_eq_getElem?_getD, List.getElem?_map, List.getElem?_range hi]; rfl
  have trg := tlL_rg o2 ts F E a n
  obtain ⟨h2, b1, b2, b3⟩ := m_findsChampions g1 Q1 hnu h6 T1 (by omega) (fun x hx => by have := trg x hx; omega)
  rw [tll] at b1
  have g2 := b2.gr g1
  have f2 : FrM [120, 121, 125, 126, 127, 128] [59] h h2 := (a2.mono (by simp) (by simp)).tr (b2.mono (by simp) (by simp))
  have R2 : KM h2 K := R.fr f2 (by decide)
  have C2 : FlM h2 F E := C.fr f2 (by decide) (by decide)
  have Q2 : RuM h2 bk nu ts := Q.fr f2 (by decide) (by decide)
  obtain ⟨S2, S2'⟩ := sgF_M o2 R2
  have Z2 : ZrM h2 K := ⟨fun x x1 x2 => by rw [f2.2.2.2.2.1 109 (by decide) (by decide)]; exact Z.1 x x1 x2, by rw [f2.2.2.2.2.1 109 (by decide) (by decide)]; exact Z.2⟩
  have chl : (chF nu ts K F E a n).length ≤ 4 := by
    have := (chs_spec (tlL ts K F E a n) (nu.getD 6 0).toNat).1
    unfold chF
    omega
  have chr : ∀ x ∈ chF nu ts K F E a n, 0 ≤ x ∧ x < ((kG K).length : Int) := fun x hx => by
    have := chs_rg (tlL ts K F E a n) (((kG K).length : Int) - 1) (by omega) trg (nu.getD 6 0).toNat x hx
    omega
  have lg2 : LogR 0 h h2 := LogR.of f2 (by decide) (by decide)
  have L2 : Lc h2 (c + 60 + 9 * n + 42) := Lc.log (j := 0) L lg2
  obtain ⟨h3, c1, c2, c3, c4, c5, c6, c7, c8⟩ := m_pieces (c := c + 3 * n + 50) g2 ok R2.n Z2 Q2 hnu h60 C2 hmo a n han S2 (by omega) b3 chl chr hP hU hfl hby G hW (L2.mono (by omega))
  have eU : useF (nu.getD 0 0) (sgF K) (chF nu ts K F E a n) (kU K).length K (fun i => pcs F E (a + i)) n = segU nu ts F E K a n := rfl
  have eU2 : useF (nu.getD 0 0) (sgF K) (chs (tlL ts K F E a n) (nu.getD 6 0).toNat) (kU K).length K (fun i => pcs F E (a + i)) n = segU nu ts F E K a n := rfl
  simp only [eU2] at c1 c3 c4 c5 c7 c8
  generalize hSU : segU nu ts F E K a n = SU at *
  have g3 := c2.gr g2
  obtain ⟨u1, u2, u3, ⟨u4, u4'⟩, u5, u6, u6', u7, u8, u9, u10, u11, u12, u13, u14, u15⟩ := c7
  have c8' : BgW K0 SU.1 (W + lenS (csF F E a) n) := c8
  have gl := c8'.le u1 hW
  have gg := c8.1
  have GG := G.1
  have hgr : (kX SU.1).length - (kX K).length ≤ 14 := by omega
  -- the segment itself
  have d3 : hI h3 109 3 = iI (((kG K).length : Nat) : Int) := by have := c4.2.2.1; rw [u10] at this; exact this
  have L3 : Lc h3 (c + 3 * n + 50) := by
    have : Lc h2 ((c + 3 * n + 50) + (6 * n + 3 * ((kX SU.1).length - (kX K).length))) := L2.mono (by omega)
    exact this.log c3
  have fa : FrM [117, 118] [] h3 (sI (sI h3 117 (kG K).length (iI (((kU K).length : Nat) : Int))) 118 (kG K).length (iI ((n : Nat) : Int))) := ((FrM.rf _ _ h3).wI 117 _ (by simp) (by decide) _).wI 118 _ (by simp) (by decide) _
  have ga := fa.gr g3
  have lga := LogR.of fa (by decide) (by decide)
  have ga1 : Gr (sI h3 117 (kG K).length (iI (((kU K).length : Nat) : Int))) := g3.sI 117 _ _
  obtain ⟨h4, p1, p2, p3, p4⟩ := m_lput (k := c + 3 * n + 49) ga 3 (iI (((kG K).length + 1 : Nat) : Int)) (by omega) (Lc.log (j := 0) L3 lga)
  have g4 := p2.1.gr ga
  have f4 : FrM [109, 110, 111, 117, 118] [37] h3 h4 := (fa.mono (by simp) (by simp)).tr (p2.1.mono (by simp) (by simp))
  have m117 : hI h4 117 = id (fun j => if j = (kG K).length then iI (((kU K).length : Nat) : Int) else hI h3 117 j) := by
    rw [p2.1.2.2.2.2.1 117 (by decide) (by decide), hI_sI, u2_ne (by decide), sI_toA, hI_sA, u1_eq]
    rfl
  have m118 : hI h4 118 = id (fun j => if j = (kG K).length then iI ((n : Nat) : Int) else hI h3 118 j) := by
    rw [p2.1.2.2.2.2.1 118 (by decide) (by decide), sI_toA, hI_sA, u1_eq, hI_sI, u2_ne (by decide)]
    rfl
  have m9 : hI h4 109 = id (fun j => if j = 3 then iI (((kG K).length + 1 : Nat) : Int) else hI h3 109 j) := by
    rw [p3, fa.2.2.2.2.1 109 (by decide) (by decide)]
    rfl
  have R4 : KM h4 (setG SU.1 (kG K ++ [(kU K).length])) := by
    have := KM.newS c4 f4 (kU K).length n u2 (fun s hs => by
      rw [u10] at hs ⊢
      rw [c2.2.2.2.2.1 117 (by decide) (by decide), c2.2.2.2.2.1 118 (by decide) (by decide)]
      exact R2.2.2.2.2.2.2.2.2.2.2.2.1 s hs) (by rw [u10]; exact m117) (by rw [u10]; exact m118) (by rw [u10]; exact m9)
    rw [u10] at this
    exact this
  have ok4 : KOk (setG SU.1 (kG K ++ [(kU K).length])) := u1
  have o24 : KO2 (setG SU.1 (kG K ++ [(kU K).length])) := by
    refine ⟨?_, ?_, ?_, ?_, ?_, ?_⟩
    · show (kG K ++ [(kU K).length]).length ≤ (kU SU.1).length
      rw [List.length_append, List.length_singleton, u2]; omega
    · show (kG K ++ [(kU K).length]).Pairwise (· < ·)
      refine List.pairwise_append.mpr ⟨o2.2.1, by simp, fun x hx y hy => ?_⟩
      rw [List.mem_singleton.mp hy]; exact o2.2.2.1 x hx
    · intro s hs
      have hs' : s ∈ kG K ++ [(kU K).length] := hs
      show s < (kU SU.1).length
      rcases List.mem_append.mp hs' with z | z
      · have := o2.2.2.1 s z; omega
      · rw [List.mem_singleton.mp z]; omega
    · intro x hx
      have hx' : x ∈ kH SU.1 := hx
      rw [u11] at hx'
      obtain ⟨w1, w2⟩ := o2.2.2.2.1 x hx'
      refine ⟨by show x.1 < kP SU.1; omega, ?_⟩
      show x.2 < (kG K ++ [(kU K).length]).length
      rw [List.length_append]; omega
    · show (kH SU.1).length ≤ (kU SU.1).length
      rw [u11]; omega
    · show (kK SU.1).length ≤ 10000
      rw [u14]; exact o2.2.2.2.2.2
  have f34 : FrM [109, 110, 111, 113, 114, 115, 116, 117, 118] [37] h2 h4 := (c2.mono (by simp) (by simp)).tr (f4.mono (by simp) (by simp))
  have C4 : FlM h4 F E := C2.fr f34 (by decide) (by decide)
  have v25 : ∀ j, j < n → hI h4 125 j = iI (hkF ts K F E a j) := fun j hj => by
    rw [f34.2.2.2.2.1 125 (by decide) (by decide), b2.2.2.2.2.1 125 (by decide) (by decide)]; exact (a3 j hj).1
  have h01 : ∀ j, j < n → hkF ts K F E a j = 0 ∨ hkF ts K F E a j = 1 := fun j hj => (m_isHook g Q ht (kD K) ok.1 R.2.2.2.2.2.1 C (a + j) (by omega)).1
  obtain ⟨h5, e1, e2, e3, e4, e5, e6⟩ := m_tell (c := c) g4 ok4 o24 R4 C4 a n (kU K).length (kG K).length hn han u2 (by show _ < (kG K ++ [(kU K).length]).length; rw [List.length_append]; simp) (by show (kH SU.1).length ≤ _; rw [u11]; exact hHl) (hkF ts K F E a) h01 v25 (iI SU.2) (p4.mono (by omega))
  have eS : telF (setG SU.1 (kG K ++ [(kU K).length])) (kG K).length (kU K).length (hkF ts K F E a) (fun i => pcs F E (a + i)) n = segK nu ts F E K a n := by
    unfold segK; rw [hSU]; rfl
  rw [eS] at e4
  obtain ⟨HH, t1, t2, t3, t4⟩ := telF_rest (setG SU.1 (kG K ++ [(kU K).length])) (kG K).length (kU K).length (hkF ts K F E a) (csF F E a) (by show _ < (kG K ++ [(kU K).length]).length; rw [List.length_append]; simp) (fun j => by
      show (kU SU.1).getD ((kU K).length + j) 0 < kP SU.1
      by_cases z : (kU K).length + j < (kU SU.1).length
      · exact u1.2.2.2.2.2.2.1 _ (by rw [List.getD_eq_getElem?_getD, List.getElem?_eq_getElem z]; exact List.getElem_mem z)
      · rw [List.getD_eq_getElem?_getD, List.getElem?_eq_none (by omega)]
        show 0 < kP SU.1
        have := u3 (kU K).length (Nat.le_refl _) (by omega)
        have := u1.2.2.1 _ this
        omega) o24.2.2.2.1 n
  have eSK : segK nu ts F E K a n = setH (setG SU.1 (kG K ++ [(kU K).length])) HH := by
    unfold segK; rw [hSU]; exact t1
  have t2' : HH.length ≤ (kH SU.1).length + n := t2
  have F5 : FrM [109, 110, 111, 113, 114, 115, 116, 117, 118, 119, 120, 121, 125, 126, 127, 128] [37, 59] h h5 := ((f2.mono (by simp) (by simp)).tr (f34.mono (by simp) (by simp))).tr (e2.mono (by simp) (by simp))
  refine ⟨h5, ?_, F5, ?_, e4, ?_, ?_, ⟨u1, u2, u3, ⟨u4, u4'⟩, u5, u6, u6', u7, u8, u9, u10, u11, u12, u13, u14, u15⟩, ?_, ?_, ?_⟩
  · have ei1 : (((kG K).length : Nat) : Int) + 1 = (((kG K).length + 1 : Nat) : Int) := by omega
    have ei2 : ((a + n : Nat) : Int) - (a : Int) = ((n : Nat) : Int) := by omega
    have ii : ¬ (((kG K).length : Nat) : Int) < 0 ∧ (kG K).length < 10300 := by omega
    have p1' : mX12_puts [.ref 95, .int (iI 3), .int (iI (((kG K).length + 1 : Nat) : Int))] (sI (sI h3 117 (kG K).length (iI (((kU K).length : Nat) : Int))) 118 (kG K).length (iI ((n : Nat) : Int))) = some (none, h4) := p1
    simp -implicitDefEqProofs (disch := omega) only [bind_ite, ev_itea, ev_seq, ev_seq0, ev_seq1, ev_seq2, ev_seqr, ev_if, ev_ift, ev_iff, ev_ifd, ev_ife, ev_ifet, ev_ifef, ev_ifed, ev_skip, ev_cont, ev_brk, ev_retV, ev_retI, ev_retIv, ev_retL, ev_retLv, ev_retR, ev_retRv, ev_for, ev_for0, ev_for2, ev_for1, ev_forr, ev_sc, ev_scv, ev_ex, ev_exv, ev_lsI, ev_lsIv, ev_lsL, ev_lsLv, ev_lsR, ev_lsRv, ev_ciI, ev_clL, ev_lvI0, ev_lvL0, ev_lvR0, ev_inc0, ev_s1_0, ev_s2_0, ev_lvI1, ev_lvL1, ev_lvR1, ev_inc1, ev_s1_1i, ev_s2_1i, ev_s1_1r, ev_s2_1r, ev_s1_1u, ev_s2_1u, ev_s1_1s, ev_s2_1s, ev_lvI2, ev_lvL2, ev_lvR2, ev_inc2, ev_s1_2i, ev_s2_2i, ev_s1_2r, ev_s2_2r, ev_s1_2u, ev_s2_2u, ev_s1_2s, ev_s2_2s, ev_lvI3, ev_lvL3, ev_lvR3, ev_inc3, ev_s1_3i, ev_s2_3i, ev_s1_3r, ev_s2_3r, ev_s1_3u, ev_s2_3u, ev_s1_3s, ev_s2_3s, ev_lvI4, ev_lvL4, ev_lvR4, ev_inc4, ev_s1_4i, ev_s2_4i, ev_s1_4r, ev_s2_4r, ev_s1_4u, ev_s2_4u, ev_s1_4s, ev_s2_4s, ev_lvI5, ev_lvL5, ev_lvR5, ev_inc5, ev_s1_5i, ev_s2_5i, ev_s1_5r, ev_s2_5r, ev_s1_5u, ev_s2_5u, ev_s1_5s, ev_s2_5s, ev_lvI6, ev_lvL6, ev_lvR6, ev_inc6, ev_s1_6i, ev_s2_6i, ev_s1_6r, ev_s2_6r, ev_s1_6u, ev_s2_6u, ev_s1_6s, ev_s2_6s, ev_lvI7, ev_lvL7, ev_lvR7, ev_inc7, ev_s1_7i, ev_s2_7i, ev_s1_7r, ev_s2_7r, ev_s1_7u, ev_s2_7u, ev_s1_7s, ev_s2_7s, ev_lvI8, ev_lvL8, ev_lvR8, ev_inc8, ev_s1_8i, ev_s2_8i, ev_s1_8r, ev_s2_8r, ev_s1_8u, ev_s2_8u, ev_s1_8s, ev_s2_8s, ev_lvI9, ev_lvL9, ev_lvR9, ev_inc9, ev_s1_9i, ev_s2_9i, ev_s1_9r, ev_s2_9r, ev_s1_9u, ev_s2_9u, ev_s1_9s, ev_s2_9s, ev_lvI10, ev_lvL10, ev_lvR10, ev_inc10, ev_s1_10i, ev_s2_10i, ev_s1_10r, ev_s2_10r, ev_s1_10u, ev_s2_10u, ev_s1_10s, ev_s2_10s, ev_lvI11, ev_lvL11, ev_lvR11, ev_inc11, ev_s1_11i, ev_s2_11i, ev_s1_11r, ev_s2_11r, ev_s1_11u, ev_s2_11u, ev_s1_11s, ev_s2_11s, ev_lvI12, ev_lvL12, ev_lvR12, ev_inc12, ev_s1_12i, ev_s2_12i, ev_s1_12r, ev_s2_12r, ev_s1_12u, ev_s2_12u, ev_s1_12s, ev_s2_12s, ev_lvI13, ev_lvL13, ev_lvR13, ev_inc13, ev_s1_13i, ev_s2_13i, ev_s1_13r, ev_s2_13r, ev_s1_13u, ev_s2_13u, ev_s1_13s, ev_s2_13s, ev_cut1_0, ev_cut1_1, ev_cut2_0, ev_cut2_1, ev_cut2_2, ev_cut3_0, ev_cut3_1, ev_cut3_2, ev_cut3_3, ev_cut4_0, ev_cut4_1, ev_cut4_2, ev_cut4_3, ev_cut4_4, ev_cut5_0, ev_cut5_1, ev_cut5_2, ev_cut5_3, ev_cut5_4, ev_cut5_5, ev_cut6_0, ev_cut6_1, ev_cut6_2, ev_cut6_3, ev_cut6_4, ev_cut6_5, ev_cut6_6, ev_cut7_0, ev_cut7_1, ev_cut7_2, ev_cut7_3, ev_cut7_4, ev_cut7_5, ev_cut7_6, ev_cut7_7, ev_cut8_0, ev_cut8_1, ev_cut8_2, ev_cut8_3, ev_cut8_4, ev_cut8_5, ev_cut8_6, ev_cut8_7, ev_cut8_8, ev_cut9_0, ev_cut9_1, ev_cut9_2, ev_cut9_3, ev_cut9_4, ev_cut9_5, ev_cut9_6, ev_cut9_7, ev_cut9_8, ev_cut9_9, ev_cut10_0, ev_cut10_1, ev_cut10_2, ev_cut10_3, ev_cut10_4, ev_cut10_5, ev_cut10_6, ev_cut10_7, ev_cut10_8, ev_cut10_9, ev_cut10_10, ev_cut11_0, ev_cut11_1, ev_cut11_2, ev_cut11_3, ev_cut11_4, ev_cut11_5, ev_cut11_6, ev_cut11_7, ev_cut11_8, ev_cut11_9, ev_cut11_10, ev_cut11_11, ev_cut12_0, ev_cut12_1, ev_cut12_2, ev_cut12_3, ev_cut12_4, ev_cut12_5, ev_cut12_6, ev_cut12_7, ev_cut12_8, ev_cut12_9, ev_cut12_10, ev_cut12_11, ev_cut12_12, ev_cut13_0, ev_cut13_1, ev_cut13_2, ev_cut13_3, ev_cut13_4, ev_cut13_5, ev_cut13_6, ev_cut13_7, ev_cut13_8, ev_cut13_9, ev_cut13_10, ev_cut13_11, ev_cut13_12, ev_cut13_13, ev_bin, ev_addI, ev_addIv, ev_subI, ev_subIv, ev_mulI, ev_mulIv, ev_andI, ev_andIv, ev_orI, ev_orIv, ev_xorI, ev_xorIv, ev_shlI, ev_shlIv, ev_shrI, ev_shrIv, ev_ushrI, ev_ushrIv, ev_addL, ev_addLv, ev_subL, ev_subLv, ev_mulL, ev_mulLv, ev_andL, ev_andLv, ev_orL, ev_orLv, ev_shlL, ev_shlLv, ev_divI, ev_divIv, ev_remI, ev_remIv, ev_divL, ev_divLv, ev_remL, ev_remLv, ev_eqI, ev_eqIv, ev_eqL, ev_eqLv, ev_eq0, ev_eq0v, ev_neI, ev_neIv, ev_neL, ev_neLv, ev_ne0, ev_ne0v, ev_ltI, ev_ltIv, ev_ltL, ev_ltLv, ev_lt0, ev_lt0v, ev_geI, ev_geIv, ev_geL, ev_geLv, ev_ge0, ev_ge0v, ev_gtI, ev_gtIv, ev_gtL, ev_gtLv, ev_gt0, ev_gt0v, ev_leI, ev_leIv, ev_leL, ev_leLv, ev_le0, ev_le0v, ev_i2L, ev_i2Lv, ev_l2I, ev_l2Iv, ev_nul, ev_nuls, ev_nuln, ev_andX, ev_andXt, ev_andXf, ev_andXd, ev_orX, ev_orXt, ev_orXf, ev_orXd, ev_notX, ev_notXv, ev_notd, ev_iteX, ev_iteXt, ev_iteXf, ev_iteXd, ev_getI, ev_getIv, ev_getL, ev_getLv, ev_getR, ev_getRv, ev_rsz, ev_rszv, ev_aldI, ev_aldIq, ev_aldIv, ev_aldL, ev_aldLq, ev_aldLv, ev_aldR, ev_aldRq, ev_aldRv, ev_aln, ev_putI, ev_putIq, ev_putIv, ev_putZ, ev_putZq, ev_putZv, ev_putL, ev_putLq, ev_putLv, ev_putR, ev_putRq, ev_putRv, ev_astI, ev_astIq, ev_astIi, ev_astIv, ev_astZ, ev_astZq, ev_astZi, ev_astZv, ev_astL, ev_astLq, ev_astLi, ev_astLv, ev_astR, ev_upd, ev_updq, ev_updv, ev_ina, ev_inaq, ev_inav, ev_rzs, ev_rzsq, ev_rzsv, ev_sw, ev_swx, ev_swr, ev_agN, ev_agC, ev_agi, ev_agl, ev_agr, ev_ag2, ev_calX, ev_calv, ev_decI, ev_decL, ev_decR, ev_calS, ev_clsv, ev_clsd, ev_ck0, ev_ck1, ev_cs1, ev_ck2, ev_cs2, ev_ck3, ev_cs3, ev_ck4, ev_cs4, ev_ck5, ev_cs5, ev_finV, ev_finI, ev_finL, ev_finR, ev_fin1, ev_fin0, ev_finZ, ev_newO, ev_newv, ev_newR, ev_newA, ev_newAv, ev_oi, ev_oiv, Option.bind_some, Option.bind_none, Option.bind_fun_some, reduceCtorEq, reduceIte, List.take_zero, Sum.inl.injEq, Sum.inr.injEq, Option.some.injEq, Prod.mk.injEq, Nat.reduceEqDiff, Nat.reduceAdd, Nat.reduceSub, Nat.reduceMul, Nat.reduceLT, Nat.reduceLeDiff, decide_true, decide_false, decide_eq_true_eq, decide_eq_false_iff_not, Bool.and_true, Bool.true_and, Bool.and_false, Bool.false_and, Bool.false_or, Bool.or_false, Bool.true_or, Bool.or_true, Bool.and_self, Bool.or_self, true_or, or_true, and_true, true_and, false_and, and_false, false_or, or_false, not_true_eq_false, not_false_eq_true, Bool.not_true, Bool.not_false, Bool.false_eq_true, and_self, ite_true, ite_false, eq_self, hT_sR, hP_sR, hI_sR, hL_sR, hN_sR, hR_sRu, hT_sI, hP_sI, hR_sI, hL_sI, hN_sI, hI_sI, hT_sL, hP_sL, hR_sL, hI_sL, hN_sL, hL_sL, hT_sP, hR_sP, hI_sP, hL_sP, hN_sP, hP_sP, u1_app, u2_app, hT_sA, hP_sA, hR_sA, hL_sA, hN_sA, hI_sA, sI_sA, sI_sI, sA_sA, sA_sI, hT_sLA, hP_sLA, hR_sLA, hI_sLA, hN_sLA, hL_sLA, sL_sLA, eX12_savesSegment, bX12_savesSegment, gT95 g, gT96 g, gT97 g, gT98 g, gT99 g, gT100 g, gT101 g, gT102 g, gT103 g, gT104 g, gT105 g, gT106 g, gT107 g, gT108 g, gT109 g, gT110 g, gT111 g, gT112 g, gT113 g, gT114 g, gT115 g, gT116 g, gT117 g, gT118 g, gT119 g, gT120 g, gT121 g, gT122 g, gT123 g, gT124 g, gT125 g, gT126 g, gT127 g, gT128 g, gT129 g, gT130 g, gT131 g, gT132 g, gT133 g, gT134 g, gT135 g, gT136 g, gP95_0 g, gP95_14 g, gP95_15 g, gP95_16 g, gP95_17 g, gP95_18 g, gP95_22 g, gP95_23 g, gP95_24 g, gP95_25 g, gP95_26 g, gP95_29 g, gP95_33 g, gP95_34 g, gP95_35 g, gP95_36 g, gP95_38 g, gP95_41 g, gP95_42 g, gP95_43 g, gP95_44 g, gP95_45 g, gP95_46 g, gP95_47 g, gP95_48 g, gP95_49 g, gP95_50 g, gP95_52 g, gP95_54 g, gP95_55 g, gP95_56 g, gP95_57 g, gP95_58 g, gP95_60 g, gP95_61 g, gP95_62 g, gP95_63 g, gP95_64 g, gP95_66 g, gP95_67 g, gP95_68 g, gT95 g1, gT96 g1, gT97 g1, gT98 g1, gT99 g1, gT100 g1, gT101 g1, gT102 g1, gT103 g1, gT104 g1, gT105 g1, gT106 g1, gT107 g1, gT108 g1, gT109 g1, gT110 g1, gT111 g1, gT112 g1, gT113 g1, gT114 g1, gT115 g1, gT116 g1, gT117 g1, gT118 g1, gT119 g1, gT120 g1, gT121 g1, gT122 g1, gT123 g1, gT124 g1, gT125 g1, gT126 g1, gT127 g1, gT128 g1, gT129 g1, gT130 g1, gT131 g1, gT132 g1, gT133 g1, gT134 g1, gT135 g1, gT136 g1, gP95_0 g1, gP95_14 g1, gP95_15 g1, gP95_16 g1, gP95_17 g1, gP95_18 g1, gP95_22 g1, gP95_23 g1, gP95_24 g1, gP95_25 g1, gP95_26 g1, gP95_29 g1, gP95_33 g1, gP95_34 g1, gP95_35 g1, gP95_36 g1, gP95_38 g1, gP95_41 g1, gP95_42 g1, gP95_43 g1, gP95_44 g1, gP95_45 g1, gP95_46 g1, gP95_47 g1, gP95_48 g1, gP95_49 g1, gP95_50 g1, gP95_52 g1, gP95_54 g1, gP95_55 g1, gP95_56 g1, gP95_57 g1, gP95_58 g1, gP95_60 g1, gP95_61 g1, gP95_62 g1, gP95_63 g1, gP95_64 g1, gP95_66 g1, gP95_67 g1, gP95_68 g1, gT95 g2, gT96 g2, gT97 g2, gT98 g2, gT99 g2, gT100 g2, gT101 g2, gT102 g2, gT103 g2, gT104 g2, gT105 g2, gT106 g2, gT107 g2, gT108 g2, gT109 g2, gT110 g2, gT111 g2, gT112 g2, gT113 g2, gT114 g2, gT115 g2, gT116 g2, gT117 g2, gT118 g2, gT119 g2, gT120 g2, gT121 g2, gT122 g2, gT123 g2, gT124 g2, gT125 g2, gT126 g2, gT127 g2, gT128 g2, gT129 g2, gT130 g2, gT131 g2, gT132 g2, gT133 g2, gT134 g2, gT135 g2, gT136 g2, gP95_0 g2, gP95_14 g2, gP95_15 g2, gP95_16 g2, gP95_17 g2, gP95_18 g2, gP95_22 g2, gP95_23 g2, gP95_24 g2, gP95_25 g2, gP95_26 g2, gP95_29 g2, gP95_33 g2, gP95_34 g2, gP95_35 g2, gP95_36 g2, gP95_38 g2, gP95_41 g2, gP95_42 g2, gP95_43 g2, gP95_44 g2, gP95_45 g2, gP95_46 g2, gP95_47 g2, gP95_48 g2, gP95_49 g2, gP95_50 g2, gP95_52 g2, gP95_54 g2, gP95_55 g2, gP95_56 g2, gP95_57 g2, gP95_58 g2, gP95_60 g2, gP95_61 g2, gP95_62 g2, gP95_63 g2, gP95_64 g2, gP95_66 g2, gP95_67 g2, gP95_68 g2, gT95 g3, gT96 g3, gT97 g3, gT98 g3, gT99 g3, gT100 g3, gT101 g3, gT102 g3, gT103 g3, gT104 g3, gT105 g3, gT106 g3, gT107 g3, gT108 g3, gT109 g3, gT110 g3, gT111 g3, gT112 g3, gT113 g3, gT114 g3, gT115 g3, gT116 g3, gT117 g3, gT118 g3, gT119 g3, gT120 g3, gT121 g3, gT122 g3, gT123 g3, gT124 g3, gT125 g3, gT126 g3, gT127 g3, gT128 g3, gT129 g3, gT130 g3, gT131 g3, gT132 g3, gT133 g3, gT134 g3, gT135 g3, gT136 g3, gP95_0 g3, gP95_14 g3, gP95_15 g3, gP95_16 g3, gP95_17 g3, gP95_18 g3, gP95_22 g3, gP95_23 g3, gP95_24 g3, gP95_25 g3, gP95_26 g3, gP95_29 g3, gP95_33 g3, gP95_34 g3, gP95_35 g3, gP95_36 g3, gP95_38 g3, gP95_41 g3, gP95_42 g3, gP95_43 g3, gP95_44 g3, gP95_45 g3, gP95_46 g3, gP95_47 g3, gP95_48 g3, gP95_49 g3, gP95_50 g3, gP95_52 g3, gP95_54 g3, gP95_55 g3, gP95_56 g3, gP95_57 g3, gP95_58 g3, gP95_60 g3, gP95_61 g3, gP95_62 g3, gP95_63 g3, gP95_64 g3, gP95_66 g3, gP95_67 g3, gP95_68 g3, gT95 ga1, gT96 ga1, gT97 ga1, gT98 ga1, gT99 ga1, gT100 ga1, gT101 ga1, gT102 ga1, gT103 ga1, gT104 ga1, gT105 ga1, gT106 ga1, gT107 ga1, gT108 ga1, gT109 ga1, gT110 ga1, gT111 ga1, gT112 ga1, gT113 ga1, gT114 ga1, gT115 ga1, gT116 ga1, gT117 ga1, gT118 ga1, gT119 ga1, gT120 ga1, gT121 ga1, gT122 ga1, gT123 ga1, gT124 ga1, gT125 ga1, gT126 ga1, gT127 ga1, gT128 ga1, gT129 ga1, gT130 ga1, gT131 ga1, gT132 ga1, gT133 ga1, gT134 ga1, gT135 ga1, gT136 ga1, gP95_0 ga1, gP95_14 ga1, gP95_15 ga1, gP95_16 ga1, gP95_17 ga1, gP95_18 ga1, gP95_22 ga1, gP95_23 ga1, gP95_24 ga1, gP95_25 ga1, gP95_26 ga1, gP95_29 ga1, gP95_33 ga1, gP95_34 ga1, gP95_35 ga1, gP95_36 ga1, gP95_38 ga1, gP95_41 ga1, gP95_42 ga1, gP95_43 ga1, gP95_44 ga1, gP95_45 ga1, gP95_46 ga1, gP95_47 ga1, gP95_48 ga1, gP95_49 ga1, gP95_50 ga1, gP95_52 ga1, gP95_54 ga1, gP95_55 ga1, gP95_56 ga1, gP95_57 ga1, gP95_58 ga1, gP95_60 ga1, gP95_61 ga1, gP95_62 ga1, gP95_63 ga1, gP95_64 ga1, gP95_66 ga1, gP95_67 ga1, gP95_68 ga1, gT95 ga, gT96 ga, gT97 ga, gT98 ga, gT99 ga, gT100 ga, gT101 ga, gT102 ga, gT103 ga, gT104 ga, gT105 ga, gT106 ga, gT107 ga, gT108 ga, gT109 ga, gT110 ga, gT111 ga, gT112 ga, gT113 ga, gT114 ga, gT115 ga, gT116 ga, gT117 ga, gT118 ga, gT119 ga, gT120 ga, gT121 ga, gT122 ga, gT123 ga, gT124 ga, gT125 ga, gT126 ga, gT127 ga, gT128 ga, gT129 ga, gT130 ga, gT131 ga, gT132 ga, gT133 ga, gT134 ga, gT135 ga, gT136 ga, gP95_0 ga, gP95_14 ga, gP95_15 ga, gP95_16 ga, gP95_17 ga, gP95_18 ga, gP95_22 ga, gP95_23 ga, gP95_24 ga, gP95_25 ga, gP95_26 ga, gP95_29 ga, gP95_33 ga, gP95_34 ga, gP95_35 ga, gP95_36 ga, gP95_38 ga, gP95_41 ga, gP95_42 ga, gP95_43 ga, gP95_44 ga, gP95_45 ga, gP95_46 ga, gP95_47 ga, gP95_48 ga, gP95_49 ga, gP95_50 ga, gP95_52 ga, gP95_54 ga, gP95_55 ga, gP95_56 ga, gP95_57 ga, gP95_58 ga, gP95_60 ga, gP95_61 ga, gP95_62 ga, gP95_63 ga, gP95_64 ga, gP95_66 ga, gP95_67 ga, gP95_68 ga, gT95 g4, gT96 g4, gT97 g4, gT98 g4, gT99 g4, gT100 g4, gT101 g4, gT102 g4, gT103 g4, gT104 g4, gT105 g4, gT106 g4, gT107 g4, gT108 g4, gT109 g4, gT110 g4, gT111 g4, gT112 g4, gT113 g4, gT114 g4, gT115 g4, gT116 g4, gT117 g4, gT118 g4, gT119 g4, gT120 g4, gT121 g4, gT122 g4, gT123 g4, gT124 g4, gT125 g4, gT126 g4, gT127 g4, gT128 g4, gT129 g4, gT130 g4, gT131 g4, gT132 g4, gT133 g4, gT134 g4, gT135 g4, gT136 g4, gP95_0 g4, gP95_14 g4, gP95_15 g4, gP95_16 g4, gP95_17 g4, gP95_18 g4, gP95_22 g4, gP95_23 g4, gP95_24 g4, gP95_25 g4, gP95_26 g4, gP95_29 g4, gP95_33 g4, gP95_34 g4, gP95_35 g4, gP95_36 g4, gP95_38 g4, gP95_41 g4, gP95_42 g4, gP95_43 g4, gP95_44 g4, gP95_45 g4, gP95_46 g4, gP95_47 g4, gP95_48 g4, gP95_49 g4, gP95_50 g4, gP95_52 g4, gP95_54 g4, gP95_55 g4, gP95_56 g4, gP95_57 g4, gP95_58 g4, gP95_60 g4, gP95_61 g4, gP95_62 g4, gP95_63 g4, gP95_64 g4, gP95_66 g4, gP95_67 g4, gP95_68 g4, iI_lt2, iI_le2, iI_eq2, iI_lt0, iI_0lt, iI_le0, iI_0le, iI_eq0, iI_eq1, iI_nat2, iI_add, iI_sub, iI_mul, Int.toNat_natCast, if_pos, if_neg, d0, a1, ei2, b1, c1, d3, ii, ei1, p1', e1, show (0:Int).toNat = 0 from rfl, show (3:Int).toNat = 3 from rfl]
  · have := (((lg2.tr c3).tr lga).tr p2.log).tr e3
    refine this.mono ?_
    rw [eSK]
    show 0 + (6 * n + 3 * ((kX SU.1).length - (kX K).length)) + 0 + 1 + 2 * n ≤ 9 * n + 3 * ((kX SU.1).length - (kX K).length)
    omega
  · rw [eSK]
    refine ⟨fun x x1 x2 => ?_, ?_⟩
    · have x1' : 798 + kP SU.1 ≤ x := x1
      rw [e5 x (Or.inl x1') x2, m9]
      show (if x = 3 then _ else hI h3 109 x) = _
      rw [if_neg (by omega)]; exact c5.1 x x1' x2
    · rw [e5 2 (Or.inr rfl) (by omega), m9]
      exact c5.2
  · refine (ArF.of K f2 (by decide)).tr (c6.tr ⟨fun i _ => ?_, fun p _ => ?_, fun x _ => ?_, fun s hs => ?_, fun i hi => ?_⟩)
    · rw [e2.2.2.2.2.1 113 (by decide) (by decide), f4.2.2.2.2.1 113 (by decide) (by decide)]
    · rw [e2.2.2.2.2.1 114 (by decide) (by decide), f4.2.2.2.2.1 114 (by decide) (by decide), e2.2.2.2.2.1 115 (by decide) (by decide), f4.2.2.2.2.1 115 (by decide) (by decide)]; exact ⟨rfl, rfl⟩
    · rw [e2.2.2.2.2.1 116 (by decide) (by decide), f4.2.2.2.2.1 116 (by decide) (by decide)]
    · rw [e2.2.2.2.2.1 117 (by decide) (by decide), e2.2.2.2.2.1 118 (by decide) (by decide), m117, m118]
      show (if s = (kG K).length then _ else hI h3 117 s) = _ ∧ (if s = (kG K).length then _ else hI h3 118 s) = _
      rw [if_neg (by omega), if_neg (by omega)]; exact ⟨rfl, rfl⟩
    · rw [e6 i (by show i < (kH SU.1).length; rw [u11]; exact hi), f4.2.2.2.2.1 119 (by decide) (by decide)]
  · rw [eSK]; exact c8
  · rw [eSK]; exact u1
  · rw [eSK]
    exact ⟨o24.1, o24.2.1, o24.2.2.1, t4, by show HH.length ≤ (kU SU.1).length; rw [u11] at t2'; omega, o24.2.2.2.2.2⟩
