/-! ===== L2: Saver.saveSegment (class) ===== -/
theorem hkS_eq {K K' : KT} (hH : kH K' = kH K) (hC : ∀ x ∈ kH K, kC K' x.1 = kC K x.1) (c : List Int) : hkS K' c = hkS K c := by
  have mem : ∀ j, j < (kH K).length → (kH K).getD j (0, 0) ∈ kH K := fun j hj => by rw [List.getD_eq_getElem?_getD, List.getElem?_eq_getElem hj]; exact List.getElem_mem hj
  rcases hkI_cases K c with ⟨i, a1, a2, a3, a4, a5⟩ | ⟨b1, b2, b3⟩
  · rw [a5, hkS_at (K := K') (c := c) (i := i) (by rw [hH]; exact a1) (by rw [hH, hC _ (mem i a1)]; exact a2) (fun j hj => by rw [hH, hC _ (mem j (by omega))]; exact a3 j hj), hH]
  · rw [b3]
    exact hkS_no (fun j hj => by rw [hH] at hj ⊢; rw [hC _ (mem j hj)]; exact b1 j hj)
theorem TdOk.cg {TD : List Int} {cf : List (List Int)} {K K' : KT} (T : TdOk TD cf K) (h : ∀ c, hkS K' c = hkS K c) : TdOk TD cf K' := ⟨T.1, fun f hf => by rw [h]; exact T.2 f hf⟩
theorem TdOk.ext {TD : List Int} {cf : List (List Int)} {K : KT} (T : TdOk TD cf K) (A : List (List Int)) (hnd : (cf ++ A).Nodup) (hcov : ∀ x ∈ kH K, kC K x.1 ∈ cf) : TdOk (TD ++ List.replicate A.length (-1)) (cf ++ A) K := by
  obtain ⟨t1, t2⟩ := T
  refine ⟨by rw [List.length_append, List.length_append, List.length_replicate, t1], fun f hf => ?_⟩
  rw [List.length_append] at hf
  by_cases z : f < cf.length
  · have e1 : (TD ++ List.replicate A.length (-1 : Int)).getD f 0 = TD.getD f 0 := by rw [List.getD_eq_getElem?_getD, List.getElem?_append_left (by omega), ← List.getD_eq_getElem?_getD]
    have e2 : (cf ++ A).getD f [] = cf.getD f [] := by rw [List.getD_eq_getElem?_getD, List.getElem?_append_left z, ← List.getD_eq_getElem?_getD]
    rw [e1, e2]; exact t2 f z
  · have e1 : (TD ++ List.replicate A.length (-1 : Int)).getD f 0 = -1 := by
      rw [List.getD_eq_getElem?_getD, List.getElem?_append_right (by omega), List.getElem?_replicate, if_pos (by omega)]; rfl
    have hA : (cf ++ A).getD f [] ∈ A := by
      rw [List.getD_eq_getElem?_getD, List.getElem?_append_right (by omega), List.getElem?_eq_getElem (by omega)]; exact List.getElem_mem _
    rw [e1, hkS_no]
    intro j hj e
    have hm : (kH K).getD j (0, 0) ∈ kH K := by rw [List.getD_eq_getElem?_getD, List.getElem?_eq_getElem hj]; exact List.getElem_mem hj
    have hc := hcov _ hm
    rw [e] at hc
    exact (List.nodup_append.mp hnd).2.2 _ hc _ hA rfl
theorem sgF_key {K : KT} (o2 : KO2 K) (s : Nat) (hs : s < (kG K).length) : (kG K ++ [(kU K).length]).getD s 0 = (sgF K s).1 ∧ (kG K ++ [(kU K).length]).getD (s + 1) 0 = (sgF K s).1 + (sgF K s).2 ∧ (sgF K s).1 + (sgF K s).2 ≤ (kU K).length := by
  have e1 : (kG K).getD s 0 = (kG K)[s] := by rw [List.getD_eq_getElem?_getD, List.getElem?_eq_getElem hs]; rfl
  have h1 := o2.2.2.1 _ (List.getElem_mem hs)
  have e0 : (kG K ++ [(kU K).length]).getD s 0 = (kG K).getD s 0 := by rw [List.getD_eq_getElem?_getD, List.getElem?_append_left hs, ← List.getD_eq_getElem?_getD]
  show _ = (kG K).getD s 0 ∧ _ = (kG K).getD s 0 + ((kG K).getD (s + 1) (kU K).length - (kG K).getD s 0) ∧ (kG K).getD s 0 + ((kG K).getD (s + 1) (kU K).length - (kG K).getD s 0) ≤ _
  by_cases z : s + 1 < (kG K).length
  · have e2 : (kG K).getD (s + 1) (kU K).length = (kG K)[s + 1] := by rw [List.getD_eq_getElem?_getD, List.getElem?_eq_getElem z]; rfl
    have e3 : (kG K ++ [(kU K).length]).getD (s + 1) 0 = (kG K)[s + 1] := by rw [List.getD_eq_getElem?_getD, List.getElem?_append_left z, List.getElem?_eq_getElem z]; rfl
    have h2 := List.pairwise_iff_getElem.mp o2.2.1 s (s + 1) hs z (by omega)
    have h3 := o2.2.2.1 _ (List.getElem_mem z)
    rw [e0, e1, e2, e3]; omega
  · have e2 : (kG K).getD (s + 1) (kU K).length = (kU K).length := by rw [List.getD_eq_getElem?_getD, List.getElem?_eq_none (by omega)]; rfl
    have e3 : (kG K ++ [(kU K).length]).getD (s + 1) 0 = (kU K).length := by
      have : s + 1 = (kG K).length := by omega
      rw [this, List.getD_eq_getElem?_getD, List.getElem?_append_right (Nat.le_refl _), Nat.sub_self]; rfl
    rw [e0, e1, e2, e3]; omega
theorem SvX.sg {h h' : AH} {r : Nat} {nu : List Int} {ts : Nat → List (Int × Int)} {idm : Nat → Nat} {K : KT} {cf : List (List Int)} {PF : List Int} (X : SvX h r nu ts idm K cf PF) (f : FrR [46] h h') {G : List Nat} (h46 : hR h' 46 = mI (G.map fun s : Nat => (s : Int))) : SvX h' r nu ts idm (setG K G) cf PF := by
  obtain ⟨x1, x2, x3, x4, x5, x6, ⟨⟨s1, s2, s3, s4, s5, s6, s7⟩, s8⟩, ⟨v1, v2, v3, v4, v5, v6, PS, v7, v8⟩, ⟨m1, m2, m3, m4, m5⟩⟩ := X
  have k : ∀ q, q ≠ 46 → hR h' q = hR h q := fun q hq => f.2.2.2.2.2 q (by simpa using hq)
  have fi := f.2.2.2.1
  refine ⟨f.gr x1, x2, by rw [f.2.2.1]; exact x3, x4.frr f (by rcases x2 with rfl | rfl <;> decide), x5, x6, ⟨⟨?_, ?_, ?_, ?_, ?_, ?_, ?_⟩, ?_⟩, ⟨?_, h46, ?_, v4, v5, v6, PS, ?_, v8⟩, ⟨?_, ?_, ?_, ?_, m5⟩⟩
  · rw [k _ (by decide)]; exact s1
  · rw [k _ (by decide)]; exact s2
  · rw [k _ (by decide)]; exact s3
  · rw [k _ (by decide)]; exact s4
  · rw [k _ (by decide)]; exact s5
  · rw [k _ (by decide)]; exact s6
  · rw [k _ (by decide)]; exact s7
  · rw [fi]; exact s8
  · rw [k _ (by decide)]; exact v1
  · rw [k _ (by decide)]; exact v3
  · rw [k _ (by decide)]; exact v7
  · rw [k _ (by decide)]; exact m1
  · rw [k _ (by decide)]; exact m2
  · rw [k _ (by decide)]; exact m3
  · rw [k _ (by decide)]; exact m4
theorem segK_o2 {K : KT} (o2 : KO2 K) (nu : List Int) (ts : Nat → List (Int × Int)) (F E : List Int) (a n W : Nat) (hn1 : 1 ≤ n) (U : UsP K (segU nu ts F E K a n).1 (kU K).length n W) : KO2 (segK nu ts F E K a n) := by
  have eS : segK nu ts F E K a n = telF (setG (segU nu ts F E K a n).1 (kG K ++ [(kU K).length])) (kG K).length (kU K).length (hkF ts K F E a) (csF F E a) n := rfl
  rw [eS]
  generalize (segU nu ts F E K a n).1 = SU at *
  obtain ⟨u1, u2, u3, ⟨u4, u4'⟩, u5, u6, u6', u7, u8, u9, u10, u11, u12, u13, u14, u15⟩ := U
  have gl1 : (kG K ++ [(kU K).length]).length = (kG K).length + 1 := by rw [List.length_append]; rfl
  have hH : ∀ x ∈ kH (setG SU (kG K ++ [(kU K).length])), x.1 < kP (setG SU (kG K ++ [(kU K).length])) ∧ x.2 < (kG (setG SU (kG K ++ [(kU K).length]))).length := fun x hx => by
    have hx' : x ∈ kH SU := hx
    rw [u11] at hx'
    obtain ⟨w1, w2⟩ := o2.2.2.2.1 x hx'
    exact ⟨by show x.1 < kP SU; omega, by show x.2 < (kG K ++ [(kU K).length]).length; omega⟩
  obtain ⟨HH, t1, t2, t3, t4⟩ := telF_rest (setG SU (kG K ++ [(kU K).length])) (kG K).length (kU K).length (hkF ts K F E a) (csF F E a) (by show _ < (kG K ++ [(kU K).length]).length; omega) (fun j => by
      show (kU SU).getD ((kU K).length + j) 0 < kP SU
      by_cases z : (kU K).length + j < (kU SU).length
      · exact u1.2.2.2.2.2.2.1 _ (by rw [List.getD_eq_getElem?_getD, List.getElem?_eq_getElem z]; exact List.getElem_mem z)
      · rw [List.getD_eq_getElem?_getD, List.getElem?_eq_none (by omega)]
        show 0 < kP SU
        have := u3 (kU K).length (Nat.le_refl _) (by omega)
        have := u1.2.2.1 _ this
        omega) hH n
  rw [t1]
  have t2' : HH.length ≤ (kH SU).length + n := t2
  have q1 := o2.1
  have q2 := o2.2.2.2.2.1
  refine ⟨?_, ?_, ?_, t4, ?_, ?_⟩
  · show (kG K ++ [(kU K).length]).length ≤ (kU SU).length
    omega
  · show (kG K ++ [(kU K).length]).Pairwise (· < ·)
    refine List.pairwise_append.mpr ⟨o2.2.1, by simp, fun x hx y hy => ?_⟩
    rw [List.mem_singleton.mp hy]; exact o2.2.2.1 x hx
  · intro s hs
    have hs' : s ∈ kG K ++ [(kU K).length] := hs
    show s < (kU SU).length
    rcases List.mem_append.mp hs' with z | z
    · have := o2.2.2.1 s z; omega
    · rw [List.mem_singleton.mp z]; omega
  · show HH.length ≤ (kU SU).length
    rw [u11] at t2'
    omega
  · show (kK SU).length ≤ 10000
    rw [u14]; exact o2.2.2.2.2.2
def svR (r : Nat) : List Nat := [28, 29, 30, 31, 32, 33, 34, 35, 37, 38, 39, 40, 41, 42, 43, 44, 45, 46, 50, 51, 52, 53, 54, 55, 56, r + 7, r + 11]
theorem c_saveSegment {h : AH} {r : Nat} {nu : List Int} {ts : Nat → List (Int × Int)} {idm : Nat → Nat} {K : KT} {cf : List (List Int)} {PF : List Int} (X : SvX h r nu ts idm K cf PF) (o2 : KO2 K) (H : HsC h cf) (ht : tsOk 1 (ts 1)) (h6 : nu.getD 6 0 ≤ 4) {TD TB : List Int} (h34 : hR h 34 = mI TD) (T : TdOk TD cf K) (h37 : hR h 37 = mI TB) (hTB : TB.length = (kU K).length) (hTr : ∀ x ∈ TB, -2 ≤ x ∧ x ≤ 20000) (h35 : hR h 35 = mI (List.replicate cf.length 0))
    {F E : List Int} (C : FlC h F) (hF4 : F.length ≤ 400) (eo : EndOk E) (hE : hR h 26 = mI E) (hEF : ∀ x ∈ E, x ≤ F.length) (hmo : ∀ k, k < E.length → eLen E k ≤ 60) (a n : Nat) (hn1 : 1 ≤ n) (hn : n ≤ 8) (han : a + n ≤ E.length) (hc : cf.length + n ≤ 16384) (hf : cf.flatten.length + lenS (csF F E a) n ≤ 16384) (hkP : kP K + n ≤ 10240) (hU : (kU K).length + n ≤ 10240) (hfl : (flat K).length + n ≤ 300) (hPF : PF.length + n ≤ 16384) :
    ∃ h' idm' A B TD' TB', mX7_saveSegment [.ref 36, .ref 11, .int (iI (a : Int)), .int (iI ((a + n : Nat) : Int))] h = some (none, h') ∧ FrC (svR r) [49] h h' ∧ (∀ k, k ≠ 11 → hI h' 49 k = hI h 49 k) ∧ SvX h' r nu ts idm' (segK nu ts F E K a n) (cf ++ B) (PF ++ A) ∧ HsC h' (cf ++ B) ∧ (B.length ≤ n ∧ B.flatten.length ≤ lenS (csF F E a) n) ∧ A.length ≤ n ∧ hR h' 34 = mI TD' ∧ hR h' 37 = mI TB' ∧ TdOk TD' (cf ++ B) (segK nu ts F E K a n) ∧ TB'.length = (kU K).length + n ∧ (∀ x ∈ TB', -2 ≤ x ∧ x ≤ 20000) ∧ (∀ j, j < (kU K).length → TB'.getD j 0 = TB.getD j 0) ∧ hR h' 35 = mI (List.replicate (cf ++ B).length 0) ∧ (∀ q, q < kP K → idm' q = idm q) ∧ untL (foU (PF ++ A) idm' (segK nu ts F E K a n)) TB' (kU K).length n TD' = TD ++ List.replicate B.length (-1) ∧ UsP K (segU nu ts F E K a n).1 (kU K).length n (lenS (csF F E a) n) := by
  have g := X.1
  have x2 := X.2.1
  have ok := X.2.2.2.2.2.1
  have hnu := X.2.2.2.2.1
  have hgl := o2.1
  have hel := eo.1
  have n6 := hnu.at 6
  have rr : ∀ q, q < 60 → q ≠ 19 → q ≠ 23 → q ≠ r + 7 ∧ q ≠ r + 11 := fun q h1 h2 h3 => by rcases x2 with rfl | rfl <;> omega
  have s46 := ro_size (gT46 g) X.2.2.2.2.2.2.2.1.2.1
  rw [List.length_map] at s46
  have s45 := ro_size (gT45 g) X.2.2.2.2.2.2.2.1.1
  rw [List.length_map] at s45
  -- pieces
  obtain ⟨h1, a1, a2, a3, a4, a5, a6, a7, a8⟩ := c_readPieces X H ht h34 T.1 h35 C hF4 eo hE hEF a n han hn hc hf
  obtain ⟨⟨B, b1, b2, b3⟩, b4⟩ := adS_pre cf (csF F E a) n
  rw [b1] at a3 a4 a5 a6 a7 b4
  have eB : (cf ++ B).length - cf.length = B.length := by rw [List.length_append]; omega
  rw [eB] at a5
  have hndB : (cf ++ B).Nodup := a3.2.2.2.2.2.2.2.2.2.2.2.2.1
  have hclB : (cf ++ B).length ≤ 16384 := a3.2.2.2.2.2.2.2.2.2.2.2.2.2.1
  have hcov : ∀ x ∈ kH K, kC K x.1 ∈ cf := fun x hx => by
    obtain ⟨-, f, w2, -, w4⟩ := X.2.2.2.2.2.2.2.1.2.2.2.2.1 x.1 (o2.2.2.2.1 x hx).1
    exact List.mem_of_getElem? w4
  have T1 := T.ext B hndB hcov
  have g1 := a2.gr g
  -- hooks
  have h01 : ∀ j, j < n → hkF ts K F E a j = 0 ∨ hkF ts K F E a j = 1 := fun j hj => by
    have hkE : a + j < E.length := by omega
    obtain ⟨p1, p2, p3⟩ := pcs_at eo hEF hkE
    obtain ⟨u1', u2', u3'⟩ := eo.len hkE
    have hpr := prt_rgl (l := pcs F E (a + j)) (fun y hy => C.2.2 y (slc_mem hy))
    exact (c_isHook X.gr ht X.2.2.2.1 (kD K) (prt (pcs F E (a + j))) (eLen E (a + j)) ((a + j : Nat) : Int) ok.1 ⟨by omega, by omega⟩ ⟨by omega, by omega⟩ ⟨by omega, by omega⟩).1
  obtain ⟨h2, c1, c2, c3, c4⟩ := c_readHooks g1 hndB hclB a5 T1 (hkF ts K F E a) (csF F E a) n hn h01 b4 a7 a8
  have g2 := c2.gr g1
  have X2 := a3.frX c2 (by decide) (a3.2.2.2.1.frr c2 (by rcases x2 with rfl | rfl <;> decide))
  -- champions
  have lrg : ∀ x ∈ (uhk (hkF ts K F E a) (csF F E a) n).map fun j => hkS K (csF F E a j), -1 ≤ x ∧ x ≤ 20000 := fun x hx => by
    obtain ⟨j, hj, rfl⟩ := List.mem_map.mp hx
    have := hkS_lt o2 (csF F E a j)
    omega
  have ulen : (uhk (hkF ts K F E a) (csF F E a) n).length ≤ n := by
    unfold uhk
    have := List.length_filter_le (fun i => decide (hkF ts K F E a i = 1) && unl (hkF ts K F E a) (csF F E a) i i) (List.range n)
    rw [List.length_range] at this
    exact this
  have nb : mX6_number [.ref r, .int (iI 6)] h2 = some (some (.int (iI (nu.getD 6 0))), h2) := c_number X2.gr hnu X2.2.2.2.1.1 6 (by omega)
  have e6 : nu.getD 6 0 = (((nu.getD 6 0).toNat : Nat) : Int) := by omega
  obtain ⟨h3, d1, d2, d3⟩ := c_findChampions g2 _ (by rw [List.length_map]; omega) lrg c4 (nu.getD 6 0).toNat (by omega)
  rw [← e6] at d1
  have ech : chs ((uhk (hkF ts K F E a) (csF F E a) n).map fun j => hkS K (csF F E a j)) (nu.getD 6 0).toNat = chF nu ts K F E a n := (chs_uhk K (hkF ts K F E a) (csF F E a) n (nu.getD 6 0).toNat).symm
  rw [ech] at d3
  have trg := tlL_rg o2 ts F E a n
  have chl : (chF nu ts K F E a n).length ≤ 4 := by
    have := (chs_spec (tlL ts K F E a n) (nu.getD 6 0).toNat).1
    unfold chF
    omega
  have chr : ∀ x ∈ chF nu ts K F E a n, 0 ≤ x ∧ x < ((kG K).length : Int) := fun x hx => by
    have := chs_rg (tlL ts K F E a n) (((kG K).length : Int) - 1) (by omega) trg (nu.getD 6 0).toNat x hx
    omega
  have g3 := d2.gr g2
  have X3 := X2.frX d2 (by decide) (X2.2.2.2.1.frr d2 (by rcases x2 with rfl | rfl <;> decide))
  -- the segment's first
  have a46 := ro_add (v := (((kU K).length : Nat) : Int)) (gT46 g3) X3.2.2.2.2.2.2.2.1.2.1 (by rw [List.length_map]; omega)
  obtain ⟨h4, eh4⟩ : ∃ h4, h4 = sR h3 46 (mI (((kG K).map fun s : Nat => (s : Int)) ++ [(((kU K).length : Nat) : Int)])) := ⟨_, rfl⟩
  rw [← eh4] at a46
  have f4 : FrR [46] h3 h4 := by rw [eh4]; exact (FrR.rf _ h3).put 46 (by simp) _
  have X4 := X3.sg (G := kG K ++ [(kU K).length]) f4 (by rw [eh4, hR_sRu, u1_eq, List.map_append]; rfl)
  have g4 := f4.gr g3
  have q4 : ∀ q, q ≠ 40 → q ≠ 41 → q ≠ 42 → q ≠ 46 → hR h4 q = hR h1 q := fun q y1 y2 y3 y4 => by
    rw [f4.2.2.2.2.2 q (by simpa using y4), d2.2.2.2.2.2 q (by simpa using y3), c2.2.2.2.2.2 q (by simp; omega)]
  have m38 : hR h4 38 = mI ((List.range n).map fun j => (((cf ++ B).idxOf (csF F E a j) : Nat) : Int)) := by rw [q4 38 (by omega) (by omega) (by omega) (by omega)]; exact a7
  have m39 : hR h4 39 = mI ((List.range n).map (hkF ts K F E a)) := by rw [q4 39 (by omega) (by omega) (by omega) (by omega)]; exact a8
  have m37 : hR h4 37 = mI TB := by
    rw [q4 37 (by omega) (by omega) (by omega) (by omega), a2.2.2.2.2.2 37 (by have := rr 37 (by omega) (by omega) (by omega); simp; omega)]
    exact h37
  have m42 : hR h4 42 = mI (chF nu ts K F E a n) := by rw [f4.2.2.2.2.2 42 (by decide)]; exact d3
  have hcs : ∀ j, j < n → okC (csF F E a j) := fun j hj => by
    obtain ⟨p1, p2, p3⟩ := pcs_at eo hEF (k := a + j) (by omega)
    have := eo.len (k := a + j) (by omega)
    have := hmo (a + j) (by omega)
    exact ⟨by show 1 ≤ (pcs F E (a + j)).length; omega, by show (pcs F E (a + j)).length ≤ 60; omega, fun x hx => C.2.2 x (slc_mem hx)⟩
  -- the pieces are saved
  obtain ⟨h5, im, A, w1, w2, w3, w4, w5, w6, w7⟩ := c_pieces X4 (sg := sgF K) (ns := (kG K).length) (by omega) (by rw [List.length_append]; rfl) (fun s hs => sgF_key o2 s hs) m42 chl chr (csF F E a) n hn hcs b4 m38 m37 hTB hkP hU hfl hPF (.val (.int (iI (a : Int)))) (.val (.int (iI ((a + n : Nat) : Int)))) (.val (.int (iI (((kG K).length : Nat) : Int))))
  have eU : useF (nu.getD 0 0) (sgF K) (chF nu ts K F E a n) (kU K).length K (csF F E a) n = segU nu ts F E K a n := rfl
  obtain ⟨f1, f2, f3, f5, A', f6⟩ := useF_is K (nu.getD 0 0) (sgF K) (chF nu ts K F E a n) (kU K).length (csF F E a) ok.2.2.2.2.2.2.1 ok.2.2.1 n
  have eS : segK nu ts F E K a n = telF (setG (segU nu ts F E K a n).1 (kG K ++ [(kU K).length])) (kG K).length (kU K).length (hkF ts K F E a) (csF F E a) n := rfl
  rw [eU] at w3 w7 f5 f6
  rw [eS]
  generalize (segU nu ts F E K a n).1 = SU at *
  have g5 := w2.gr g4
  have w7' := w7
  obtain ⟨u1, u2, u3, ⟨u4, u4'⟩, u5, u6, u6', u7, u8, u9, u10, u11, u12, u13, u14, u15⟩ := w7
  -- told
  have q5 : ∀ q, q ∉ [37, 43, 44, 45, 50, 51, 52, 53, 54, 55, 56] → hR h5 q = hR h4 q := w2.2.2.2.2.2
  have n34 : hR h5 34 = mI (TD ++ List.replicate B.length (-1)) := by rw [q5 34 (by decide), q4 34 (by omega) (by omega) (by omega) (by omega)]; exact a5
  have T5 : TdOk (TD ++ List.replicate B.length (-1)) (cf ++ B) (setG SU (kG K ++ [(kU K).length])) := T1.cg (fun c => hkS_eq (K := K) (K' := setG SU (kG K ++ [(kU K).length])) u11 (fun x hx => u8 x.1 (o2.2.2.2.1 x hx).1) c)
  have gl1 : (kG K ++ [(kU K).length]).length = (kG K).length + 1 := by rw [List.length_append]; rfl
  obtain ⟨h6', TD', TB', t1, t2, t3, t4, t5, t6, t7, t8, t9, t10, t11⟩ := c_tellHooks w3 (kG K).length (kU K).length n hn (by show _ < (kG K ++ [(kU K).length]).length; omega) (by show (kG K ++ [(kU K).length]).length ≤ _; omega) (hkF ts K F E a) (csF F E a) h01 b4 f5 u2 (by rw [q5 38 (by decide)]; exact m38) (by rw [q5 39 (by decide)]; exact m39) n34 w6 T5 (by rw [List.length_append, List.length_replicate, hTB]) hU
    (fun j hj => by rw [← hTB, List.getD_eq_getElem?_getD, List.getElem?_append_right (by omega), List.getElem?_replicate, if_pos (by omega)]; rfl)
    (fun x hx => by
      rcases List.mem_append.mp hx with z | z
      · exact hTr x z
      · rw [(List.mem_replicate.mp z).2]; omega)
    (fun x hx => by
      have hx' : x ∈ kH SU := hx
      rw [u11] at hx'
      have := o2.2.2.2.1 x hx'
      exact ⟨by show x.1 < kP SU; omega, by show x.2 < (kG K ++ [(kU K).length]).length; omega⟩)
    (by show (kH SU).length ≤ _; rw [u11]; have := o2.2.2.2.2.1; have := ok.2.2.2.2.2.2.2.1; omega) hn1
  have z10 : ¬ (1 : Int) = 0 := by decide
  have tr := X2.gr.1
  have x3 : hP h2 11 0 = some r := X2.2.2.1
  refine ⟨h6', im, A, B, TD', TB', ?_, ?_, fun k hk => ?_, t4, ?_, ⟨b2, b3⟩, w4, t5, t6, t7, t8, t9, fun j hj => ?_, ?_, w5, ?_, w7'⟩
  · simp -implicitDefEqProofs (disch := omega) only [bind_ite, ev_itea, ev_seq, ev_seq0, ev_seq1, ev_seq2, ev_seqr, ev_if, ev_ift, ev_iff, ev_ifd, ev_ife, ev_ifet, ev_ifef, ev_ifed, ev_skip, ev_cont, ev_brk, ev_retV, ev_retI, ev_retIv, ev_retL, ev_retLv, ev_retR, ev_retRv, ev_for, ev_for0, ev_for2, ev_for1, ev_forr, ev_sc, ev_scv, ev_ex, ev_exv, ev_lsI, ev_lsIv, ev_lsL, ev_lsLv, ev_lsR, ev_lsRv, ev_ciI, ev_clL, ev_lvI0, ev_lvL0, ev_lvR0, ev_inc0, ev_s1_0, ev_s2_0, ev_lvI1, ev_lvL1, ev_lvR1, ev_inc1, ev_s1_1i, ev_s2_1i, ev_s1_1r, ev_s2_1r, ev_s1_1u, ev_s2_1u, ev_s1_1s, ev_s2_1s, ev_lvI2, ev_lvL2, ev_lvR2, ev_inc2, ev_s1_2i, ev_s2_2i, ev_s1_2r, ev_s2_2r, ev_s1_2u, ev_s2_2u, ev_s1_2s, ev_s2_2s, ev_lvI3, ev_lvL3, ev_lvR3, ev_inc3, ev_s1_3i, ev_s2_3i, ev_s1_3r, ev_s2_3r, ev_s1_3u, ev_s2_3u, ev_s1_3s, ev_s2_3s, ev_lvI4, ev_lvL4, ev_lvR4, ev_inc4, ev_s1_4i, ev_s2_4i, ev_s1_4r, ev_s2_4r, ev_s1_4u, ev_s2_4u, ev_s1_4s, ev_s2_4s, ev_lvI5, ev_lvL5, ev_lvR5, ev_inc5, ev_s1_5i, ev_s2_5i, ev_s1_5r, ev_s2_5r, ev_s1_5u, ev_s2_5u, ev_s1_5s, ev_s2_5s, ev_lvI6, ev_lvL6, ev_lvR6, ev_inc6, ev_s1_6i, ev_s2_6i, ev_s1_6r, ev_s2_6r, ev_s1_6u, ev_s2_6u, ev_s1_6s, ev_s2_6s, ev_lvI7, ev_lvL7, ev_lvR7, ev_inc7, ev_s1_7i, ev_s2_7i, ev_s1_7r, ev_s2_7r, ev_s1_7u, ev_s2_7u, ev_s1_7s, ev_s2_7s, ev_lvI8, ev_lvL8, ev_lvR8, ev_inc8, ev_s1_8i, ev_s2_8i, ev_s1_8r, ev_s2_8r, ev_s1_8u, ev_s2_8u, ev_s1_8s, ev_s2_8s, ev_lvI9, ev_lvL9, ev_lvR9, ev_inc9, ev_s1_9i, ev_s2_9i, ev_s1_9r, ev_s2_9r, ev_s1_9u, ev_s2_9u, ev_s1_9s, ev_s2_9s, ev_lvI10, ev_lvL10, ev_lvR10, ev_inc10, ev_s1_10i, ev_s2_10i, ev_s1_10r, ev_s2_10r, ev_s1_10u, ev_s2_10u, ev_s1_10s, ev_s2_10s, ev_lvI11, ev_lvL11, ev_lvR11, ev_inc11, ev_s1_11i, ev_s2_11i, ev_s1_11r, ev_s2_11r, ev_s1_11u, ev_s2_11u, ev_s1_11s, ev_s2_11s, ev_lvI12, ev_lvL12, ev_lvR12, ev_inc12, ev_s1_12i, ev_s2_12i, ev_s1_12r, ev_s2_12r, ev_s1_12u, ev_s2_12u, ev_s1_12s, ev_s2_12s, ev_lvI13, ev_lvL13, ev_lvR13, ev_inc13, ev_s1_13i, ev_s2_13i, ev_s1_13r, ev_s2_13r, ev_s1_13u, ev_s2_13u, ev_s1_13s, ev_s2_13s, ev_cut1_0, ev_cut1_1, ev_cut2_0, ev_cut2_1, ev_cut2_2, ev_cut3_0, ev_cut3_1, ev_cut3_2, ev_cut3_3, ev_cut4_0, ev_cut4_1, ev_cut4_2, ev_cut4_3, ev_cut4_4, ev_cut5_0, ev_cut5_1, ev_cut5_2, ev_cut5_3, ev_cut5_4, ev_cut5_5, ev_cut6_0, ev_cut6_1, ev_cut6_2, ev_cut6_3, ev_cut6_4, ev_cut6_5, ev_cut6_6, ev_cut7_0, ev_cut7_1, ev_cut7_2, ev_cut7_3, ev_cut7_4, ev_cut7_5, ev_cut7_6, ev_cut7_7, ev_cut8_0, ev_cut8_1, ev_cut8_2, ev_cut8_3, ev_cut8_4, ev_cut8_5, ev_cut8_6, ev_cut8_7, ev_cut8_8, ev_cut9_0, ev_cut9_1, ev_cut9_2, ev_cut9_3, ev_cut9_4, ev_cut9_5, ev_cut9_6, ev_cut9_7, ev_cut9_8, ev_cut9_9, ev_cut10_0, ev_cut10_1, ev_cut10_2, ev_cut10_3, ev_cut10_4, ev_cut10_5, ev_cut10_6, ev_cut10_7, ev_cut10_8, ev_cut10_9, ev_cut10_10, ev_cut11_0, ev_cut11_1, ev_cut11_2, ev_cut11_3, ev_cut11_4, ev_cut11_5, ev_cut11_6, ev_cut11_7, ev_cut11_8, ev_cut11_9, ev_cut11_10, ev_cut11_11, ev_cut12_0, ev_cut12_1, ev_cut12_2, ev_cut12_3, ev_cut12_4, ev_cut12_5, ev_cut12_6, ev_cut12_7, ev_cut12_8, ev_cut12_9, ev_cut12_10, ev_cut12_11, ev_cut12_12, ev_cut13_0, ev_cut13_1, ev_cut13_2, ev_cut13_3, ev_cut13_4, ev_cut13_5, ev_cut13_6, ev_cut13_7, ev_cut13_8, ev_cut13_9, ev_cut13_10, ev_cut13_11, ev_cut13_12, ev_cut13_13, ev_bin, ev_addI, ev_addIv, ev_subI, ev_subIv, ev_mulI, ev_mulIv, ev_andI, ev_andIv, ev_orI, ev_orIv, ev_xorI, ev_xorIv, ev_shlI, ev_shlIv, ev_shrI, ev_shrIv, ev_ushrI, ev_ushrIv, ev_addL, ev_addLv, ev_subL, ev_subLv, ev_mulL, ev_mulLv, ev_andL, ev_andLv, ev_orL, ev_orLv, ev_shlL, ev_shlLv, ev_divI, ev_divIv, ev_remI, ev_remIv, ev_divL, ev_divLv, ev_remL, ev_remLv, ev_eqI, ev_eqIv, ev_eqL, ev_eqLv, ev_eq0, ev_eq0v, ev_neI, ev_neIv, ev_neL, ev_neLv, ev_ne0, ev_ne0v, ev_ltI, ev_ltIv, ev_ltL, ev_ltLv, ev_lt0, ev_lt0v, ev_geI, ev_geIv, ev_geL, ev_geLv, ev_ge0, ev_ge0v, ev_gtI, ev_gtIv, ev_gtL, ev_gtLv, ev_gt0, ev_gt0v, ev_leI, ev_leIv, ev_leL, ev_leLv, ev_le0, ev_le0v, ev_i2L, ev_i2Lv, ev_l2I, ev_l2Iv, ev_nul, ev_nuls, ev_nuln, ev_andX, ev_andXt, ev_andXf, ev_andXd, ev_orX, ev_orXt, ev_orXf, ev_orXd, ev_notX, ev_notXv, ev_notd, ev_iteX, ev_iteXt, ev_iteXf, ev_iteXd, ev_getI, ev_getIv, ev_getL, ev_getLv, ev_getR, ev_getRv, ev_rsz, ev_rszv, ev_aldI, ev_aldIq, ev_aldIv, ev_aldL, ev_aldLq, ev_aldLv, ev_aldR, ev_aldRq, ev_aldRv, ev_aln, ev_putI, ev_putIq, ev_putIv, ev_putZ, ev_putZq, ev_putZv, ev_putL, ev_putLq, ev_putLv, ev_putR, ev_putRq, ev_putRv, ev_astI, ev_astIq, ev_astIi, ev_astIv, ev_astZ, ev_astZq, ev_astZi, ev_astZv, ev_astL, ev_astLq, ev_astLi, ev_astLv, ev_astR, ev_upd, ev_updq, ev_updv, ev_ina, ev_inaq, ev_inav, ev_rzs, ev_rzsq, ev_rzsv, ev_sw, ev_swx, ev_swr, ev_agN, ev_agC, ev_agi, ev_agl, ev_agr, ev_ag2, ev_calX, ev_calv, ev_decI, ev_decL, ev_decR, ev_calS, ev_clsv, ev_clsd, ev_ck0, ev_ck1, ev_cs1, ev_ck2, ev_cs2, ev_ck3, ev_cs3, ev_ck4, ev_cs4, ev_ck5, ev_cs5, ev_finV, ev_finI, ev_finL, ev_finR, ev_fin1, ev_fin0, ev_finZ, ev_newO, ev_newv, ev_newR, ev_newA, ev_newAv, ev_oi, ev_oiv, Option.bind_some, Option.bind_none, Option.bind_fun_some, reduceCtorEq, reduceIte, List.take_zero, Sum.inl.injEq, Sum.inr.injEq, Option.some.injEq, Prod.mk.injEq, Nat.reduceEqDiff, Nat.reduceAdd, Nat.reduceSub, Nat.reduceMul, Nat.reduceLT, Nat.reduceLeDiff, decide_true, decide_false, decide_eq_true_eq, decide_eq_false_iff_not, Bool.and_true, Bool.true_and, Bool.and_false, Bool.false_and, Bool.false_or, Bool.or_false, Bool.true_or, Bool.or_true, Bool.and_self, Bool.or_self, true_or, or_true, and_true, true_and, false_and, and_false, false_or, or_false, not_true_eq_false, not_false_eq_true, Bool.not_true, Bool.not_false, Bool.false_eq_true, and_self, ite_true, ite_false, eq_self, hT_sR, hP_sR, hI_sR, hL_sR, hN_sR, hR_sRu, hT_sI, hP_sI, hR_sI, hL_sI, hN_sI, hI_sI, hT_sL, hP_sL, hR_sL, hI_sL, hN_sL, hL_sL, hT_sP, hR_sP, hI_sP, hL_sP, hN_sP, hP_sP, u1_app, u2_app, hT_sA, hP_sA, hR_sA, hL_sA, hN_sA, hI_sA, sI_sA, sI_sI, sA_sA, sA_sI, hT_sLA, hP_sLA, hR_sLA, hI_sLA, hN_sLA, hL_sLA, sL_sLA, eX7_saveSegment, bX7_saveSegment, gT0 g, gT1 g, gT2 g, gT3 g, gT4 g, gT5 g, gT6 g, gT7 g, gT8 g, gT9 g, gT10 g, gT11 g, gT12 g, gT13 g, gT14 g, gT15 g, gT16 g, gT17 g, gT18 g, gT19 g, gT20 g, gT21 g, gT22 g, gT23 g, gT24 g, gT25 g, gT26 g, gT27 g, gT28 g, gT29 g, gT30 g, gT31 g, gT32 g, gT33 g, gT34 g, gT35 g, gT36 g, gT37 g, gT38 g, gT39 g, gT40 g, gT41 g, gT42 g, gT43 g, gT44 g, gT45 g, gT46 g, gT47 g, gT48 g, gT49 g, gT50 g, gT51 g, gT52 g, gT53 g, gT54 g, gT55 g, gT56 g, gT57 g, gT58 g, gT59 g, gT60 g, gT61 g, gT62 g, gT63 g, gT64 g, gT65 g, gT66 g, gT67 g, gT68 g, gT69 g, gT70 g, gT71 g, gT72 g, gT73 g, gT74 g, gT75 g, gT76 g, gT77 g, gT78 g, gT79 g, gT80 g, gT81 g, gT82 g, gT83 g, gT84 g, gT85 g, gT86 g, gT87 g, gT88 g, gT89 g, gT90 g, gT91 g, gT92 g, gT93 g, gT94 g, gP0_0 g, gP0_1 g, gP0_2 g, gP0_3 g, gP0_4 g, gP0_5 g, gP3_0 g, gP3_1 g, gP3_2 g, gP3_3 g, gP8_0 g, gP8_1 g, gP11_1 g, gP11_2 g, gP11_3 g, gP11_4 g, gP11_5 g, gP11_6 g, gP11_7 g, gP11_8 g, gP11_9 g, gP11_10 g, gP11_11 g, gP11_12 g, gP11_16 g, gP11_17 g, gP11_18 g, gP12_0 g, gP12_1 g, gP12_2 g, gP12_3 g, gP12_4 g, gP14_0 g, gP14_1 g, gP17_0 g, gP17_1 g, gP20_0 g, gP20_1 g, gP24_0 g, gP24_1 g, gP27_0 g, gP27_1 g, gP27_2 g, gP27_3 g, gP27_4 g, gP27_5 g, gP27_6 g, gP27_7 g, gP36_0 g, gP36_1 g, gP36_2 g, gP36_3 g, gP36_4 g, gP36_5 g, gP49_0 g, gP49_1 g, gP49_2 g, gP49_3 g, gP49_4 g, gP49_5 g, gP49_6 g, gP49_7 g, gP49_8 g, gP49_9 g, gP60_0 g, gP60_1 g, gP60_2 g, gP60_3 g, gP60_4 g, gP60_5 g, gP60_6 g, gP60_7 g, gP60_8 g, gP60_9 g, gP75_0 g, gP75_1 g, gP75_2 g, gP79_0 g, gP79_1 g, gP79_2 g, gP83_0 g, gP83_1 g, gP83_2 g, gP83_3 g, gP83_4 g, gP85_0 g, gP85_1 g, gP88_0 g, gP88_1 g, gP91_0 g, gP91_1 g, gT0 g1, gT1 g1, gT2 g1, gT3 g1, gT4 g1, gT5 g1, gT6 g1, gT7 g1, gT8 g1, gT9 g1, gT10 g1, gT11 g1, gT12 g1, gT13 g1, gT14 g1, gT15 g1, gT16 g1, gT17 g1, gT18 g1, gT19 g1, gT20 g1, gT21 g1, gT22 g1, gT23 g1, gT24 g1, gT25 g1, gT26 g1, gT27 g1, gT28 g1, gT29 g1, gT30 g1, gT31 g1, gT32 g1, gT33 g1, gT34 g1, gT35 g1, gT36 g1, gT37 g1, gT38 g1, gT39 g1, gT40 g1, gT41 g1, gT42 g1, gT43 g1, gT44 g1, gT45 g1, gT46 g1, gT47 g1, gT48 g1, gT49 g1, gT50 g1, gT51 g1, gT52 g1, gT53 g1, gT54 g1, gT55 g1, gT56 g1, gT57 g1, gT58 g1, gT59 g1, gT60 g1, gT61 g1, gT62 g1, gT63 g1, gT64 g1, gT65 g1, gT66 g1, gT67 g1, gT68 g1, gT69 g1, gT70 g1, gT71 g1, gT72 g1, gT73 g1, gT74 g1, gT75 g1, gT76 g1, gT77 g1, gT78 g1, gT79 g1, gT80 g1, gT81 g1, gT82 g1, gT83 g1, gT84 g1, gT85 g1, gT86 g1, gT87 g1, gT88 g1, gT89 g1, gT90 g1, gT91 g1, gT92 g1, gT93 g1, gT94 g1, gP0_0 g1, gP0_1 g1, gP0_2 g1, gP0_3 g1, gP0_4 g1, gP0_5 g1, gP3_0 g1, gP3_1 g1, gP3_2 g1, gP3_3 g1, gP8_0 g1, gP8_1 g1, gP11_1 g1, gP11_2 g1, gP11_3 g1, gP11_4 g1, gP11_5 g1, gP11_6 g1, gP11_7 g1, gP11_8 g1, gP11_9 g1, gP11_10 g1, gP11_11 g1, gP11_12 g1, gP11_16 g1, gP11_17 g1, gP11_18 g1, gP12_0 g1, gP12_1 g1, gP12_2 g1, gP12_3 g1, gP12_4 g1, gP14_0 g1, gP14_1 g1, gP17_0 g1, gP17_1 g1, gP20_0 g1, gP20_1 g1, gP24_0 g1, gP24_1 g1, gP27_0 g1, gP27_1 g1, gP27_2 g1, gP27_3 g1, gP27_4 g1, gP27_5 g1, gP27_6 g1, gP27_7 g1, gP36_0 g1, gP36_1 g1, gP36_2 g1, gP36_3 g1, gP36_4 g1, gP36_5 g1, gP49_0 g1, gP49_1 g1, gP49_2 g1, gP49_3 g1, gP49_4 g1, gP49_5 g1, gP49_6 g1, gP49_7 g1, gP49_8 g1, gP49_9 g1, gP60_0 g1, gP60_1 g1, gP60_2 g1, gP60_3 g1, gP60_4 g1, gP60_5 g1, gP60_6 g1, gP60_7 g1, gP60_8 g1, gP60_9 g1, gP75_0 g1, gP75_1 g1, gP75_2 g1, gP79_0 g1, gP79_1 g1, gP79_2 g1, gP83_0 g1, gP83_1 g1, gP83_2 g1, gP83_3 g1, gP83_4 g1, gP85_0 g1, gP85_1 g1, gP88_0 g1, gP88_1 g1, gP91_0 g1, gP91_1 g1, gT0 g2, gT1 g2, gT2 g2, gT3 g2, gT4 g2, gT5 g2, gT6 g2, gT7 g2, gT8 g2, gT9 g2, gT10 g2, gT11 g2, gT12 g2, gT13 g2, gT14 g2, gT15 g2, gT16 g2, gT17 g2, gT18 g2, gT19 g2, gT20 g2, gT21 g2, gT22 g2, gT23 g2, gT24 g2, gT25 g2, gT26 g2, gT27 g2, gT28 g2, gT29 g2, gT30 g2, gT31 g2, gT32 g2, gT33 g2, gT34 g2, gT35 g2, gT36 g2, gT37 g2, gT38 g2, gT39 g2, gT40 g2, gT41 g2, gT42 g2, gT43 g2, gT44 g2, gT45 g2, gT46 g2, gT47 g2, gT48 g2, gT49 g2, gT50 g2, gT51 g2, gT52 g2, gT53 g2, gT54 g2, gT55 g2, gT56 g2, gT57 g2, gT58 g2, gT59 g2, gT60 g2, gT61 g2, gT62 g2, gT63 g2, gT64 g2, gT65 g2, gT66 g2, gT67 g2, gT68 g2, gT69 g2, gT70 g2, gT71 g2, gT72 g2, gT73 g2, gT74 g2, gT75 g2, gT76 g2, gT77 g2, gT78 g2, gT79 g2, gT80 g2, gT81 g2, gT82 g2, gT83 g2, gT84 g2, gT85 g2, gT86 g2, gT87 g2, gT88 g2, gT89 g2, gT90 g2, gT91 g2, gT92 g2, gT93 g2, gT94 g2, gP0_0 g2, gP0_1 g2, gP0_2 g2, gP0_3 g2, gP0_4 g2, gP0_5 g2, gP3_0 g2, gP3_1 g2, gP3_2 g2, gP3_3 g2, gP8_0 g2, gP8_1 g2, gP11_1 g2, gP11_2 g2, gP11_3 g2, gP11_4 g2, gP11_5 g2, gP11_6 g2, gP11_7 g2, gP11_8 g2, gP11_9 g2, gP11_10 g2, gP11_11 g2, gP11_12 g2, gP11_16 g2, gP11_17 g2, gP11_18 g2, gP12_0 g2, gP12_1 g2, gP12_2 g2, gP12_3 g2, gP12_4 g2, gP14_0 g2, gP14_1 g2, gP17_0 g2, gP17_1 g2, gP20_0 g2, gP20_1 g2, gP24_0 g2, gP24_1 g2, gP27_0 g2, gP27_1 g2, gP27_2 g2, gP27_3 g2, gP27_4 g2, gP27_5 g2, gP27_6 g2, gP27_7 g2, gP36_0 g2, gP36_1 g2, gP36_2 g2, gP36_3 g2, gP36_4 g2, gP36_5 g2, gP49_0 g2, gP49_1 g2, gP49_2 g2, gP49_3 g2, gP49_4 g2, gP49_5 g2, gP49_6 g2, gP49_7 g2, gP49_8 g2, gP49_9 g2, gP60_0 g2, gP60_1 g2, gP60_2 g2, gP60_3 g2, gP60_4 g2, gP60_5 g2, gP60_6 g2, gP60_7 g2, gP60_8 g2, gP60_9 g2, gP75_0 g2, gP75_1 g2, gP75_2 g2, gP79_0 g2, gP79_1 g2, gP79_2 g2, gP83_0 g2, gP83_1 g2, gP83_2 g2, gP83_3 g2, gP83_4 g2, gP85_0 g2, gP85_1 g2, gP88_0 g2, gP88_1 g2, gP91_0 g2, gP91_1 g2, gT0 g3, gT1 g3, gT2 g3, gT3 g3, gT4 g3, gT5 g3, gT6 g3, gT7 g3, gT8 g3, gT9 g3, gT10 g3, gT11 g3, gT12 g3, gT13 g3, gT14 g3, gT15 g3, gT16 g3, gT17 g3, gT18 g3, gT19 g3, gT20 g3, gT21 g3, gT22 g3, gT23 g3, gT24 g3, gT25 g3, gT26 g3, gT27 g3, gT28 g3, gT29 g3, gT30 g3, gT31 g3, gT32 g3, gT33 g3, gT34 g3, gT35 g3, gT36 g3, gT37 g3, gT38 g3, gT39 g3, gT40 g3, gT41 g3, gT42 g3, gT43 g3, gT44 g3, gT45 g3, gT46 g3, gT47 g3, gT48 g3, gT49 g3, gT50 g3, gT51 g3, gT52 g3, gT53 g3, gT54 g3, gT55 g3, gT56 g3, gT57 g3, gT58 g3, gT59 g3, gT60 g3, gT61 g3, gT62 g3, gT63 g3, gT64 g3, gT65 g3, gT66 g3, gT67 g3, gT68 g3, gT69 g3, gT70 g3, gT71 g3, gT72 g3, gT73 g3, gT74 g3, gT75 g3, gT76 g3, gT77 g3, gT78 g3, gT79 g3, gT80 g3, gT81 g3, gT82 g3, gT83 g3, gT84 g3, gT85 g3, gT86 g3, gT87 g3, gT88 g3, gT89 g3, gT90 g3, gT91 g3, gT92 g3, gT93 g3, gT94 g3, gP0_0 g3, gP0_1 g3, gP0_2 g3, gP0_3 g3, gP0_4 g3, gP0_5 g3, gP3_0 g3, gP3_1 g3, gP3_2 g3, gP3_3 g3, gP8_0 g3, gP8_1 g3, gP11_1 g3, gP11_2 g3, gP11_3 g3, gP11_4 g3, gP11_5 g3, gP11_6 g3, gP11_7 g3, gP11_8 g3, gP11_9 g3, gP11_10 g3, gP11_11 g3, gP11_12 g3, gP11_16 g3, gP11_17 g3, gP11_18 g3, gP12_0 g3, gP12_1 g3, gP12_2 g3, gP12_3 g3, gP12_4 g3, gP14_0 g3, gP14_1 g3, gP17_0 g3, gP17_1 g3, gP20_0 g3, gP20_1 g3, gP24_0 g3, gP24_1 g3, gP27_0 g3, gP27_1 g3, gP27_2 g3, gP27_3 g3, gP27_4 g3, gP27_5 g3, gP27_6 g3, gP27_7 g3, gP36_0 g3, gP36_1 g3, gP36_2 g3, gP36_3 g3, gP36_4 g3, gP36_5 g3, gP49_0 g3, gP49_1 g3, gP49_2 g3, gP49_3 g3, gP49_4 g3, gP49_5 g3, gP49_6 g3, gP49_7 g3, gP49_8 g3, gP49_9 g3, gP60_0 g3, gP60_1 g3, gP60_2 g3, gP60_3 g3, gP60_4 g3, gP60_5 g3, gP60_6 g3, gP60_7 g3, gP60_8 g3, gP60_9 g3, gP75_0 g3, gP75_1 g3, gP75_2 g3, gP79_0 g3, gP79_1 g3, gP79_2 g3, gP83_0 g3, gP83_1 g3, gP83_2 g3, gP83_3 g3, gP83_4 g3, gP85_0 g3, gP85_1 g3, gP88_0 g3, gP88_1 g3, gP91_0 g3, gP91_1 g3, gT0 g4, gT1 g4, gT2 g4, gT3 g4, gT4 g4, gT5 g4, gT6 g4, gT7 g4, gT8 g4, gT9 g4, gT10 g4, gT11 g4, gT12 g4, gT13 g4, gT14 g4, gT15 g4, gT16 g4, gT17 g4, gT18 g4, gT19 g4, gT20 g4, gT21 g4, gT22 g4, gT23 g4, gT24 g4, gT25 g4, gT26 g4, gT27 g4, gT28 g4, gT29 g4, gT30 g4, gT31 g4, gT32 g4, gT33 g4, gT34 g4, gT35 g4, gT36 g4, gT37 g4, gT38 g4, gT39 g4, gT40 g4, gT41 g4, gT42 g4, gT43 g4, gT44 g4, gT45 g4, gT46 g4, gT47 g4, gT48 g4, gT49 g4, gT50 g4, gT51 g4, gT52 g4, gT53 g4, gT54 g4, gT55 g4, gT56 g4, gT57 g4, gT58 g4, gT59 g4, gT60 g4, gT61 g4, gT62 g4, gT63 g4, gT64 g4, gT65 g4, gT66 g4, gT67 g4, gT68 g4, gT69 g4, gT70 g4, gT71 g4, gT72 g4, gT73 g4, gT74 g4, gT75 g4, gT76 g4, gT77 g4, gT78 g4, gT79 g4, gT80 g4, gT81 g4, gT82 g4, gT83 g4, gT84 g4, gT85 g4, gT86 g4, gT87 g4, gT88 g4, gT89 g4, gT90 g4, gT91 g4, gT92 g4, gT93 g4, gT94 g4, gP0_0 g4, gP0_1 g4, gP0_2 g4, gP0_3 g4, gP0_4 g4, gP0_5 g4, gP3_0 g4, gP3_1 g4, gP3_2 g4, gP3_3 g4, gP8_0 g4, gP8_1 g4, gP11_1 g4, gP11_2 g4, gP11_3 g4, gP11_4 g4, gP11_5 g4, gP11_6 g4, gP11_7 g4, gP11_8 g4, gP11_9 g4, gP11_10 g4, gP11_11 g4, gP11_12 g4, gP11_16 g4, gP11_17 g4, gP11_18 g4, gP12_0 g4, gP12_1 g4, gP12_2 g4, gP12_3 g4, gP12_4 g4, gP14_0 g4, gP14_1 g4, gP17_0 g4, gP17_1 g4, gP20_0 g4, gP20_1 g4, gP24_0 g4, gP24_1 g4, gP27_0 g4, gP27_1 g4, gP27_2 g4, gP27_3 g4, gP27_4 g4, gP27_5 g4, gP27_6 g4, gP27_7 g4, gP36_0 g4, gP36_1 g4, gP36_2 g4, gP36_3 g4, gP36_4 g4, gP36_5 g4, gP49_0 g4, gP49_1 g4, gP49_2 g4, gP49_3 g4, gP49_4 g4, gP49_5 g4, gP49_6 g4, gP49_7 g4, gP49_8 g4, gP49_9 g4, gP60_0 g4, gP60_1 g4, gP60_2 g4, gP60_3 g4, gP60_4 g4, gP60_5 g4, gP60_6 g4, gP60_7 g4, gP60_8 g4, gP60_9 g4, gP75_0 g4, gP75_1 g4, gP75_2 g4, gP79_0 g4, gP79_1 g4, gP79_2 g4, gP83_0 g4, gP83_1 g4, gP83_2 g4, gP83_3 g4, gP83_4 g4, gP85_0 g4, gP85_1 g4, gP88_0 g4, gP88_1 g4, gP91_0 g4, gP91_1 g4, gT0 g5, gT1 g5, gT2 g5, gT3 g5, gT4 g5, gT5 g5, gT6 g5, gT7 g5, gT8 g5, gT9 g5, gT10 g5, gT11 g5, gT12 g5, gT13 g5, gT14 g5, gT15 g5, gT16 g5, gT17 g5, gT18 g5, gT19 g5, gT20 g5, gT21 g5, gT22 g5, gT23 g5, gT24 g5, gT25 g5, gT26 g5, gT27 g5, gT28 g5, gT29 g5, gT30 g5, gT31 g5, gT32 g5, gT33 g5, gT34 g5, gT35 g5, gT36 g5, gT37 g5, gT38 g5, gT39 g5, gT40 g5, gT41 g5, gT42 g5, gT43 g5, gT44 g5, gT45 g5, gT46 g5, gT47 g5, gT48 g5, gT49 g5, gT50 g5, gT51 g5, gT52 g5, gT53 g5, gT54 g5, gT55 g5, gT56 g5, gT57 g5, gT58 g5, gT59 g5, gT60 g5, gT61 g5, gT62 g5, gT63 g5, gT64 g5, gT65 g5, gT66 g5, gT67 g5, gT68 g5, gT69 g5, gT70 g5, gT71 g5, gT72 g5, gT73 g5, gT74 g5, gT75 g5, gT76 g5, gT77 g5, gT78 g5, gT79 g5, gT80 g5, gT81 g5, gT82 g5, gT83 g5, gT84 g5, gT85 g5, gT86 g5, gT87 g5, gT88 g5, gT89 g5, gT90 g5, gT91 g5, gT92 g5, gT93 g5, gT94 g5, gP0_0 g5, gP0_1 g5, gP0_2 g5, gP0_3 g5, gP0_4 g5, gP0_5 g5, gP3_0 g5, gP3_1 g5, gP3_2 g5, gP3_3 g5, gP8_0 g5, gP8_1 g5, gP11_1 g5, gP11_2 g5, gP11_3 g5, gP11_4 g5, gP11_5 g5, gP11_6 g5, gP11_7 g5, gP11_8 g5, gP11_9 g5, gP11_10 g5, gP11_11 g5, gP11_12 g5, gP11_16 g5, gP11_17 g5, gP11_18 g5, gP12_0 g5, gP12_1 g5, gP12_2 g5, gP12_3 g5, gP12_4 g5, gP14_0 g5, gP14_1 g5, gP17_0 g5, gP17_1 g5, gP20_0 g5, gP20_1 g5, gP24_0 g5, gP24_1 g5, gP27_0 g5, gP27_1 g5, gP27_2 g5, gP27_3 g5, gP27_4 g5, gP27_5 g5, gP27_6 g5, gP27_7 g5, gP36_0 g5, gP36_1 g5, gP36_2 g5, gP36_3 g5, gP36_4 g5, gP36_5 g5, gP49_0 g5, gP49_1 g5, gP49_2 g5, gP49_3 g5, gP49_4 g5, gP49_5 g5, gP49_6 g5, gP49_7 g5, gP49_8 g5, gP49_9 g5, gP60_0 g5, gP60_1 g5, gP60_2 g5, gP60_3 g5, gP60_4 g5, gP60_5 g5, gP60_6 g5, gP60_7 g5, gP60_8 g5, gP60_9 g5, gP75_0 g5, gP75_1 g5, gP75_2 g5, gP79_0 g5, gP79_1 g5, gP79_2 g5, gP83_0 g5, gP83_1 g5, gP83_2 g5, gP83_3 g5, gP83_4 g5, gP85_0 g5, gP85_1 g5, gP88_0 g5, gP88_1 g5, gP91_0 g5, gP91_1 g5, iI_lt2, iI_le2, iI_eq2, iI_lt0, iI_0lt, iI_le0, iI_0le, iI_eq0, iI_eq1, iI_nat2, iI_add, iI_sub, iI_mul, Int.toNat_natCast, if_pos, if_neg, s46, s45, a1, c1, x3, tr, nb, d1, a46, w1, t1]
  · have F1 : FrR (svR r) h h5 := ((((a2.mono (by unfold svR; simp)).tr (c2.mono (by unfold svR; simp))).tr (d2.mono (by unfold svR; simp))).tr (f4.mono (by unfold svR; simp))).tr (w2.mono (by unfold svR; simp))
    exact F1.c.tr (t2.mono (by unfold svR; simp) (by simp))
  · rw [t3 k hk, w2.2.2.2.1, f4.2.2.2.1, d2.2.2.2.1, c2.2.2.2.1, a2.2.2.2.1]
  · have e32 : ∀ q, q = 32 ∨ q = 33 → hR h6' q = hR h1 q := fun q hq => by
      rw [t2.2.2.2.2.2 q (by simp; omega), q5 q (by simp; omega), q4 q (by omega) (by omega) (by omega) (by omega)]
    unfold HsC
    rw [e32 32 (Or.inl rfl), e32 33 (Or.inr rfl)]
    exact a4
  · rw [t10 j hj, List.getD_eq_getElem?_getD, List.getElem?_append_left (by omega), ← List.getD_eq_getElem?_getD]
  · rw [t2.2.2.2.2.2 35 (by decide), q5 35 (by decide), q4 35 (by omega) (by omega) (by omega) (by omega)]; exact a6
  · refine t11 _ (fun j hj => ?_)
    obtain ⟨Hx, ex, -⟩ := telF_set (setG SU (kG K ++ [(kU K).length])) (kG K).length (kU K).length (hkF ts K F E a) (csF F E a) n
    rw [ex]
    show (((PF ++ A).getD (im ((kU SU).getD ((kU K).length + j) 0)) 0)).toNat = _
    have hp : (kU SU).getD ((kU K).length + j) 0 < kP SU := u1.2.2.1 _ (u3 _ (by omega) (by omega))
    obtain ⟨y1, f, y2, y3, y4⟩ := w3.2.2.2.2.2.2.2.1.2.2.2.2.1 _ hp
    have y4' : (cf ++ B)[f]? = some (kC SU ((kU SU).getD ((kU K).length + j) 0)) := y4
    rw [f5 j hj] at y4'
    have hix : (cf ++ B).idxOf (csF F E a j) < (cf ++ B).length := List.idxOf_lt_length_of_mem (b4 j hj)
    rw [y3, Int.toNat_natCast]
    exact (List.getElem?_inj y2 hndB).mp (by rw [y4', List.getElem?_eq_getElem hix, List.getElem_idxOf hix])
