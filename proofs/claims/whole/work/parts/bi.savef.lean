/-! ===== L2: Vault.saveFile (class) ===== -/
theorem tl_new {h : AH} {idm idm' : Nat → Nat} {K R : KT} {cf B : List (List Int)} {PF A TD TB TD' TB' : List Int} {N : Nat} (V : VaC h idm K cf PF) (ok : KOk K) (hU : ∀ j, j < (kU K).length → (kU R).getD j 0 = (kU K).getD j 0) (hN : (kU R).length = (kU K).length + N) (hid : ∀ q, q < kP K → idm' q = idm q) (hTB : ∀ j, j < (kU K).length → TB'.getD j 0 = TB.getD j 0) (un : untL (foU (PF ++ A) idm' R) TB' (kU K).length N TD' = TD ++ List.replicate B.length (-1)) (hTD : TD.length = cf.length) (hnd : (cf ++ B).Nodup) {K0 : KT} (o20 : KO2 K0) (e1 : kP K0 ≤ kP K) (e2 : ∀ p, p < kP K0 → kC K0 p = kC K p) (hm : (kU K0).length ≤ (kU K).length) (old : TdOk (untL (foU PF idm K) TB (kU K0).length ((kU K).length - (kU K0).length) TD) cf K0) : TdOk (untL (foU (PF ++ A) idm' R) TB' (kU K0).length ((kU R).length - (kU K0).length) TD') (cf ++ B) K0 := by
  have e : (kU R).length - (kU K0).length = (kU K).length - (kU K0).length + N := by omega
  rw [e, untL_split _ _ _ _ hm, un, untL_congr (fo' := foU PF idm K) (TB' := TB) _ _ (fun j j1 j2 => ?_), untL_app _ _ _ _ _ _ (fun j j1 j2 => by rw [hTD]; exact (V.foU ok (by omega)).1)]
  · exact old.ext B hnd (fun x hx => by
      have hx1 := (o20.2.2.2.1 x hx).1
      rw [e2 _ hx1]
      obtain ⟨-, f, w2, -, w4⟩ := V.2.2.2.2.1 x.1 (by omega)
      exact List.mem_of_getElem? w4)
  · have hj : j < (kU K).length := by omega
    obtain ⟨y1, y2, y3⟩ := V.foU ok hj
    exact ⟨foU_cg (hU j hj) (hid _ y3) y2, hTB j hj⟩
theorem HiC.idm {h : AH} {idm idm' : Nat → Nat} {Ks : Nat → KT} {u m pn : Nat} (H : HiC h idm Ks u m pn) (e : ∀ i, i < u → ∀ p ∈ flat (Ks i), idm' p = idm p) : HiC h idm' Ks u m pn := by
  obtain ⟨k1, k2, k3, k4, k5, k6, k7⟩ := H
  refine ⟨k1, k2, k3, k4, k5, k6, fun i hi => ⟨(k7 i hi).1, ?_⟩⟩
  obtain ⟨s1, s2⟩ := (k7 i hi).2
  refine ⟨?_, s2⟩
  rw [s1]
  congr 1
  exact List.map_congr_left (fun p hp => by rw [e i hi p hp])
theorem savK_B (nu : List Int) (ts : Nat → List (Int × Int)) (F E : List Int) (K : KT) (hB : kB (savR nu ts F E K).1 = kB K) (c : Nat) : kB (savK nu ts F E K) c = if c = frB K then (true, kD K, (kU K).length, E.length) else kB K c := by
  show (if c = frB K then (true, kD K, (kU K).length, E.length) else kB (savR nu ts F E K).1 c) = _
  rw [hB]
theorem c_saveFile {h : AH} {r : Nat} {nu : List Int} {ts : Nat → List (Int × Int)} {idm : Nat → Nat} {K : KT} {cf : List (List Int)} {PF : List Int} (X : ClsX h r nu ts idm K cf PF) (o2 : KO2 K) (H : HsC h cf) (h35 : hR h 35 = mI (List.replicate cf.length 0)) (ht : tsOk 1 (ts 1)) (h5 : 1 ≤ nu.getD 5 0 ∧ nu.getD 5 0 ≤ 8) (h6 : nu.getD 6 0 ≤ 4)
    {Ks : Nat → KT} {u m pn : Nat} (Hi : HiC h idm Ks u m pn) (Tl : TlC h idm K cf PF Ks u) (past : ∀ i, i < u → KO2 (Ks i) ∧ KOk (Ks i) ∧ ExK (Ks i) K) {s0 : Nat} (Rg : RgA h K s0) (hs0 : (kK K).length ≤ s0 + 19)
    {F E : List Int} (C : FlC h F) (hF4 : F.length ≤ 400) (eo : EndOk E) (hE : hR h 26 = mI E) (hEF : ∀ x ∈ E, x ≤ F.length) (hmo : ∀ k, k < E.length → eLen E k ≤ 60) (he1 : 1 ≤ E.length) (hb : frB K < 12) (hc : cf.length + E.length ≤ 16384) (hf : cf.flatten.length + F.length ≤ 16384) (hkP : kP K + E.length ≤ 10240) (hU : (kU K).length + E.length ≤ 10240) (hfl : (flat K).length + E.length ≤ 300) (hPF : PF.length + E.length ≤ 16384) (hkk : (kK K).length ≤ 9999) :
    ∃ h' idm' A B m', mX10_saveFile [.ref 11] h = some (some (.int (iI ((frB K : Nat) : Int))), h') ∧ AgF (svR r ++ [57, 58, 59, 72, 73, 74]) [49] h h' ∧ ClsX h' r nu ts idm' (savK nu ts F E K) (cf ++ B) (PF ++ A) ∧ HsC h' (cf ++ B) ∧ hR h' 35 = mI (List.replicate (cf ++ B).length 0) ∧ (B.length ≤ E.length ∧ B.flatten.length ≤ F.length ∧ A.length ≤ E.length) ∧ (∀ q, q < kP K → idm' q = idm q) ∧ HiC h' idm' (pK Ks K u) (u - psh u + 1) m' ((pn + 1) % 20) ∧ TlC h' idm' (savK nu ts F E K) (cf ++ B) (PF ++ A) (pK Ks K u) (u - psh u + 1) ∧ RgA h' (savK nu ts F E K) s0 ∧ SvP F E K (savR nu ts F E K).1 E.length := by
  have g := X.1
  have x2 := X.2.1
  have ok := X.2.2.2.2.2.1
  have hnu := X.2.2.2.2.1
  have hel := eo.1
  have hu20 := Hi.1
  obtain ⟨h1, m', r1, r2, r3⟩ := c_rem X Hi
  have X1 := X.ag r2
  have g1 := X1.1
  have q1 : ∀ q, q < 137 → hR h1 q = hR h q := fun q hq => (r2.1 q hq).2.2.2.2
  have fr := c_freeNumber g1 ok X1.2.2.2.2.2.2.1.2.2.2.2.2.2.2.2.1
  rw [if_pos hb] at fr
  have s50 := ro_size (gT50 g1) X1.2.2.2.2.2.2.1.1
  rw [List.length_map] at s50
  have s26 := c_ends g1 (E := E) (by rw [q1 26 (by omega)]; exact hE)
  have nb : mX6_number [.ref r, .int (iI 5)] h1 = some (some (.int (iI (nu.getD 5 0))), h1) := c_number X1.gr hnu X1.2.2.2.1.1 5 (by omega)
  have x3 : hP h1 11 0 = some r := X1.2.2.1
  have tr := X1.gr.1
  have mx := c_max (h := h1) (a := 1) (b := nu.getD 5 0) ⟨by decide, by decide⟩ ⟨by omega, by omega⟩
  have mx' : (if nu.getD 5 0 ≤ 1 then (1 : Int) else nu.getD 5 0) = nu.getD 5 0 := by split <;> omega
  rw [mx'] at mx
  obtain ⟨⟨D, O, w1, w2, w3, w4, w5, w6⟩, w7, w8, w9, w10, w11, w12⟩ := X1.2.2.2.2.2.2.1.rs
  have p57 := ro_put (k := ((frB K : Nat) : Int)) (v := kD K) (gT57 g1) w1 ⟨by omega, by omega⟩ (by omega)
  rw [pt_nat] at p57
  obtain ⟨ha, eha⟩ : ∃ ha, ha = sR h1 57 (mI (D.set (frB K) (kD K))) := ⟨_, rfl⟩
  rw [← eha] at p57
  have fa : FrR [57, 58, 59] h1 ha := by rw [eha]; exact (FrR.rf _ h1).put 57 (by simp) _
  have ga := fa.gr g1
  have s45 := ro_size (h := ha) (q := 45) (gT45 ga) (by rw [fa.2.2.2.2.2 45 (by decide)]; exact X1.2.2.2.2.2.2.2.1.1)
  rw [List.length_map] at s45
  have p58 := ro_put (h := ha) (q := 58) (k := ((frB K : Nat) : Int)) (v := (((kU K).length : Nat) : Int)) (gT58 ga) (by rw [eha, hR_sRu, u1_ne (by decide)]; exact w2) ⟨by omega, by omega⟩ (by omega)
  rw [pt_nat] at p58
  obtain ⟨hb', ehb⟩ : ∃ hb', hb' = sR ha 58 (mI (O.set (frB K) (((kU K).length : Nat) : Int))) := ⟨_, rfl⟩
  rw [← ehb] at p58
  have fb : FrR [57, 58, 59] h1 hb' := by rw [ehb]; exact fa.put 58 (by simp) _
  have gb := fb.gr g1
  have cl := cntL_len K
  have p59 := ro_put (h := hb') (q := 59) (k := ((frB K : Nat) : Int)) (v := ((E.length : Nat) : Int)) (gT59 gb) (by rw [ehb, hR_sRu, u1_ne (by decide), eha, hR_sRu, u1_ne (by decide)]; exact w7) ⟨by omega, by omega⟩ (by omega)
  rw [pt_nat] at p59
  obtain ⟨h2, eh2⟩ : ∃ h2, h2 = sR hb' 59 (mI ((cntL K).set (frB K) ((E.length : Nat) : Int))) := ⟨_, rfl⟩
  rw [← eh2] at p59
  have f2 : FrR [57, 58, 59] h1 h2 := by rw [eh2]; exact fb.put 59 (by simp) _
  have g2 := f2.gr g1
  have q2 : ∀ q, q < 137 → q ∉ [57, 58, 59] → hR h2 q = hR h q := fun q y1 y2 => by rw [f2.2.2.2.2.2 q y2, q1 q y1]
  have X2 : SvX h2 r nu ts idm K cf PF := X1.sv.frX f2 (by decide) (X1.2.2.2.1.frr f2 (by rcases x2 with rfl | rfl <;> decide))
  have H2 : HsC h2 cf := by
    unfold HsC
    rw [q2 32 (by omega) (by decide), q2 33 (by omega) (by decide)]
    exact H
  obtain ⟨TD, TB, t1, t2, t3, t4, t5, t6⟩ := Tl
  obtain ⟨h3, im, A, B, TD', TB', ev, l1, l2, l3, l4, l5, ⟨l6, l6'⟩, l7, l8, l9, l10, l11, l12, l13, l14, l15, l16, l17⟩ := c_file X2 o2 H2 ht h5 h6 (by rw [q2 34 (by omega) (by decide)]; exact t1) t5 (by rw [q2 37 (by omega) (by decide)]; exact t2) t3 t4 (by rw [q2 35 (by omega) (by decide)]; exact h35) (F := F) (E := E) ⟨by rw [q2 25 (by omega) (by decide)]; exact C.1, C.2⟩ hF4 eo (by rw [q2 26 (by omega) (by decide)]; exact hE) hEF hmo hc hf hkP hU hfl hPF (.val (.int (iI ((frB K : Nat) : Int)))) (.val (.int (iI (((flat K).length : Nat) : Int))))
  have hcnt := savR_cnt nu ts F E K
  have hKB := savK_B nu ts F E K l17.2.2.2.2.2.2.2.2.2.2.2.2.2.2.1
  have okS : KOk (savK nu ts F E K) := savB_ok ok l17 (frB K) he1 (Nat.le_trans (lenS_le eo hEF E.length (Nat.le_refl _)) hF4)
  have hR3 : ∀ q, q ∉ svR r → hR h3 q = hR h2 q := l2.2.2.2.2.2
  have g3 := l2.gr g2
  obtain ⟨R, eR⟩ : ∃ R, R = (savR nu ts F E K) := ⟨_, rfl⟩
  have uL : (kU R.1).length = (kU K).length + E.length := by rw [eR]; exact l17.2.2.1
  have eD : kD R.1 = kD K := by rw [eR]; exact l17.2.2.2.2.2.2.2.2.2.2.2.2.2.1
  have o2R : KO2 R.1 := by rw [eR]; exact l17.2.1
  have okR : KOk R.1 := by rw [eR]; exact l17.1
  have kkR : kK R.1 = kK K := by rw [eR]; exact l17.2.2.2.2.2.2.2.2.2.2.2.2.2.2.2.1
  have S3 := l4
  rw [← eR] at S3 l10 l16 hcnt
  have gl3 := o2R.1
  -- counts
  have z45 := ro_size (gT45 g3) S3.2.2.2.2.2.2.2.1.1
  rw [List.length_map] at z45
  have g3a := g3.sI 49 13 (iI (((kU R.1).length : Nat) : Int))
  have z46 := ro_size (h := sI h3 49 13 (iI (((kU R.1).length : Nat) : Int))) (q := 46) (gT46 g3a) S3.2.2.2.2.2.2.2.1.2.1
  rw [List.length_map] at z46
  obtain ⟨h4, eh4⟩ : ∃ h4, h4 = sI (sI h3 49 13 (iI (((kU R.1).length : Nat) : Int))) 49 14 (iI (((kG R.1).length : Nat) : Int)) := ⟨_, rfl⟩
  have f4 : FrC [72, 73, 74] [49] h3 h4 := by rw [eh4]; exact ((FrC.rf _ _ h3).putI 49 13 (by simp) _).putI 49 14 (by simp) _
  have g4 := f4.gr g3
  have fi : ∀ k, k ≠ 11 → k ≠ 13 → k ≠ 14 → hI h4 49 k = hI h1 49 k := fun k y1 y2 y3 => by
    rw [eh4, hI_sI, u2_app, if_neg (fun z => y3 z.2), hI_sI, u2_app, if_neg (fun z => y2 z.2), l3 k y1, f2.2.2.2.1]
  have i12 : hI h4 49 12 = iI (((kK K).length : Nat) : Int) := by rw [fi 12 (by omega) (by omega) (by omega)]; exact w10
  have i10 : hI h4 49 10 = iI (kD K) := by rw [fi 10 (by omega) (by omega) (by omega)]; exact w8
  have d10 : hI hb' 49 10 = iI (kD K) := by rw [fb.2.2.2.1]; exact w8
  have er : (((kK K).length : Nat) : Int) % 64 = (((kK K).length % 64 : Nat) : Int) := by omega
  obtain ⟨RA, RB, RC, ra, rb, rc, rla, rlb, rlc, rv⟩ := Rg
  have big : ∀ q, q = 72 ∨ q = 73 ∨ q = 74 → hR h4 q = hR h q := fun q hq => by
    have e1 : hR h4 q = hR h3 q := by rw [eh4]; rfl
    rw [e1, hR3 q (by unfold svR; rcases x2 with rfl | rfl <;> (simp; omega)), q2 q (by omega) (by simp; omega)]
  have hi64 : (kK K).length % 64 < 64 := Nat.mod_lt _ (by omega)
  have p72 := ro_put (h := h4) (q := 72) (k := (((kK K).length % 64 : Nat) : Int)) (v := kD K) (gT72 g4) (by rw [big 72 (by omega)]; exact ra) ⟨by omega, by omega⟩ (by omega)
  rw [pt_nat] at p72
  obtain ⟨h5', eh5⟩ : ∃ h5', h5' = sR h4 72 (mI (RA.set ((kK K).length % 64) (kD K))) := ⟨_, rfl⟩
  rw [← eh5] at p72
  have f5 : FrC [72, 73, 74] [49] h3 h5' := by rw [eh5]; exact f4.put 72 (by simp) _
  have g5 := f5.gr g3
  have p73 := ro_put (h := h5') (q := 73) (k := (((kK K).length % 64 : Nat) : Int)) (v := ((E.length : Nat) : Int)) (gT73 g5) (by rw [eh5, hR_sRu, u1_ne (by decide), big 73 (by omega)]; exact rb) ⟨by omega, by omega⟩ (by omega)
  rw [pt_nat] at p73
  obtain ⟨h6', eh6⟩ : ∃ h6', h6' = sR h5' 73 (mI (RB.set ((kK K).length % 64) ((E.length : Nat) : Int))) := ⟨_, rfl⟩
  rw [← eh6] at p73
  have f6 : FrC [72, 73, 74] [49] h3 h6' := by rw [eh6]; exact f5.put 73 (by simp) _
  have g6 := f6.gr g3
  have z50 := ro_size (h := h6') (q := 50) (gT50 g6) (by rw [f6.2.2.2.2.2 50 (by decide)]; exact S3.2.2.2.2.2.2.1.1.1)
  rw [List.length_map] at z50
  have efl : (flt (kX R.1)).length = (flat R.1).length := rfl
  rw [efl] at z50
  have p74 := ro_put (h := h6') (q := 74) (k := (((kK K).length % 64 : Nat) : Int)) (v := R.2) (gT74 g6) (by rw [eh6, hR_sRu, u1_ne (by decide), eh5, hR_sRu, u1_ne (by decide), big 74 (by omega)]; exact rc) ⟨by omega, by omega⟩ (by omega)
  rw [pt_nat] at p74
  obtain ⟨h7, eh7⟩ : ∃ h7, h7 = sR h6' 74 (mI (RC.set ((kK K).length % 64) R.2)) := ⟨_, rfl⟩
  rw [← eh7] at p74
  have f7 : FrC [72, 73, 74] [49] h3 h7 := by rw [eh7]; exact f6.put 74 (by simp) _
  have g7 := f7.gr g3
  have hI7 : hI h7 = hI h4 := by rw [eh7, hI_sR, eh6, hI_sR, eh5, hI_sR]
  have j12 : hI h7 49 12 = iI (((kK K).length : Nat) : Int) := by rw [hI7]; exact i12
  have ek : (((kK K).length : Nat) : Int) + 1 = (((kK K).length + 1 : Nat) : Int) := by omega
  obtain ⟨h8, eh8⟩ : ∃ h8, h8 = sI h7 49 12 (iI (((kK K).length + 1 : Nat) : Int)) := ⟨_, rfl⟩
  have f8 : FrC [72, 73, 74] [49] h3 h8 := by rw [eh8]; exact f7.putI 49 12 (by simp) _
  have F18 : FrC (svR r ++ [57, 58, 59, 72, 73, 74]) [49] h1 h8 := (((f2.c (O := [])).mono (by simp) (by simp)).tr (l2.mono (fun q hq => List.mem_append_left _ hq) (by simp))).tr (f8.mono (by simp) (by simp))
  have hR8 : ∀ q, q ∉ [72, 73, 74] → hR h8 q = hR h3 q := f8.2.2.2.2.2
  have i8 : ∀ k, k ≠ 12 → hI h8 49 k = hI h4 49 k := fun k hk => by rw [eh8, hI_sI, u2_app, if_neg (fun z => hk z.2), hI7]
  have fl3 := ok.2.2.2.1
  have flR := okR.2.2.2.1
  have stC : StC h8 49 im (savK nu ts F E K) := by
    refine StC.of ?_ ?_
    · show BxC h8 49 im (savR nu ts F E K).1 (kX (savR nu ts F E K).1)
      rw [← eR]
      obtain ⟨b1, b2, b3, b4, b5, b6, b7⟩ := S3.2.2.2.2.2.2.1.1
      exact ⟨by rw [hR8 _ (by decide)]; exact b1, by rw [hR8 _ (by decide)]; exact b2, by rw [hR8 _ (by decide)]; exact b3, by rw [hR8 _ (by decide)]; exact b4, by rw [hR8 _ (by decide)]; exact b5, by rw [hR8 _ (by decide)]; exact b6, by rw [hR8 _ (by decide)]; exact b7⟩
    · have n5 : ∀ q, q = 57 ∨ q = 58 ∨ q = 59 → hR h8 q = hR h2 q := fun q hq => by
        rw [hR8 q (by simp; omega), hR3 q (by unfold svR; rcases x2 with rfl | rfl <;> (simp; omega))]
      refine ⟨⟨D.set (frB K) (kD K), O.set (frB K) (((kU K).length : Nat) : Int), ?_, ?_, by rw [List.length_set]; exact w3, by rw [List.length_set]; exact w4, fun x hx => ?_, fun c hc hF => ?_⟩, ?_, ?_, ?_, ?_, ?_, ?_⟩
      · rw [n5 57 (by omega), eh2, hR_sRu, u1_ne (by decide), ehb, hR_sRu, u1_ne (by decide), eha, hR_sRu, u1_eq]
      · rw [n5 58 (by omega), eh2, hR_sRu, u1_ne (by decide), ehb, hR_sRu, u1_eq]
      · rcases List.mem_or_eq_of_mem_set hx with z | z
        · exact w5 x z
        · rw [z]; omega
      · unfold bF at hF
        unfold bD bO
        rw [hKB] at hF ⊢
        rw [getD_set1 _ _ _ _ (by omega), getD_set1 _ _ _ _ (by omega)]
        by_cases z : c = frB K
        · rw [if_pos z, if_pos z.symm, if_pos z.symm]
          exact ⟨rfl, rfl⟩
        · rw [if_neg z] at hF ⊢
          rw [if_neg (fun y => z y.symm), if_neg (fun y => z y.symm)]
          exact w6 c hc hF
      · rw [n5 59 (by omega), eh2, hR_sRu, u1_eq]
        congr 1
        apply List.ext_getElem?
        intro i
        rw [List.getElem?_set]
        unfold cntL
        rw [List.getElem?_map, List.length_map, List.length_range, List.getElem?_map]
        by_cases zi : i < 12
        · rw [List.getElem?_range zi]
          unfold bF bM
          rw [Option.map_some, Option.map_some, hKB]
          by_cases z : frB K = i
          · rw [if_pos z, if_pos (by omega), if_pos z.symm]
            rfl
          · have zz : ¬ i = frB K := fun y => z y.symm
            simp only [if_neg z, if_neg zz]
        · rw [List.getElem?_eq_none (by rw [List.length_range]; omega), if_neg (by omega)]
          rfl
      · rw [i8 10 (by omega), i10]
        show iI (kD K) = iI (kD (savR nu ts F E K).1)
        rw [← eR, eD]
      · rw [i8 11 (by omega), eh4, hI_sI, u2_app, if_neg (by omega), hI_sI, u2_app, if_neg (by omega)]
        show _ = iI (((kH (savR nu ts F E K).1).length : Nat) : Int)
        rw [← eR]
        exact S3.2.2.2.2.2.2.1.2.2
      · rw [eh8, hI_sI, u2_app, if_pos ⟨rfl, rfl⟩]
        show _ = iI (((kK (savR nu ts F E K).1 ++ [(kD K, (E.length : Int), (savR nu ts F E K).2)]).length : Nat) : Int)
        rw [← eR, kkR, List.length_append]; rfl
      · rw [i8 13 (by omega), eh4, hI_sI, u2_app, if_neg (by omega), hI_sI, u2_app, if_pos ⟨rfl, rfl⟩, eR]
        rfl
      · rw [i8 14 (by omega), eh4, hI_sI, u2_app, if_pos ⟨rfl, rfl⟩, eR]
        rfl
  have V8 : VaC h8 im (savK nu ts F E K) (cf ++ B) (PF ++ A) := by
    show VaC h8 im (savR nu ts F E K).1 (cf ++ B) (PF ++ A)
    rw [← eR]
    obtain ⟨v1, v2, v3, v4, v5, v6, PS, v7, v8⟩ := S3.2.2.2.2.2.2.2.1
    exact ⟨by rw [hR8 _ (by decide)]; exact v1, by rw [hR8 _ (by decide)]; exact v2, by rw [hR8 _ (by decide)]; exact v3, v4, v5, v6, PS, by rw [hR8 _ (by decide)]; exact v7, v8⟩
  have M8 : FmC h8 (cf ++ B) := by
    unfold FmC
    rw [hR8 28 (by decide), hR8 29 (by decide), hR8 30 (by decide), hR8 31 (by decide)]
    exact S3.2.2.2.2.2.2.2.2
  have hnd : (cf ++ B).Nodup := M8.2.2.2.2.1
  refine ⟨h8, im, A, B, m', ?_, ⟨h1, r2, F18⟩, ⟨f8.gr g3, x2, by rw [f8.2.2.1]; exact S3.2.2.1, S3.2.2.2.1.frC f8 (by rcases x2 with rfl | rfl <;> decide), hnu, okS, stC, V8, M8⟩, ?_, by rw [hR8 35 (by decide)]; exact l14, ⟨l6, l6', l7⟩, l15, ?_, ?_, ?_, l17⟩
  · have esub : (((flat R.1).length : Nat) : Int) - (((flat K).length : Nat) : Int) = R.2 := hcnt
    simp -implicitDefEqProofs (disch := omega) only [bind_ite, ev_itea, ev_seq, ev_seq0, ev_seq1, ev_seq2, ev_seqr, ev_if, ev_ift, ev_iff, ev_ifd, ev_ife, ev_ifet, ev_ifef, ev_ifed, ev_skip, ev_cont, ev_brk, ev_retV, ev_retI, ev_retIv, ev_retL, ev_retLv, ev_retR, ev_retRv, ev_for, ev_for0, ev_for2, ev_for1, ev_forr, ev_sc, ev_scv, ev_ex, ev_exv, ev_lsI, ev_lsIv, ev_lsL, ev_lsLv, ev_lsR, ev_lsRv, ev_ciI, ev_clL, ev_lvI0, ev_lvL0, ev_lvR0, ev_inc0, ev_s1_0, ev_s2_0, ev_lvI1, ev_lvL1, ev_lvR1, ev_inc1, ev_s1_1i, ev_s2_1i, ev_s1_1r, ev_s2_1r, ev_s1_1u, ev_s2_1u, ev_s1_1s, ev_s2_1s, ev_lvI2, ev_lvL2, ev_lvR2, ev_inc2, ev_s1_2i, ev_s2_2i, ev_s1_2r, ev_s2_2r, ev_s1_2u, ev_s2_2u, ev_s1_2s, ev_s2_2s, ev_lvI3, ev_lvL3, ev_lvR3, ev_inc3, ev_s1_3i, ev_s2_3i, ev_s1_3r, ev_s2_3r, ev_s1_3u, ev_s2_3u, ev_s1_3s, ev_s2_3s, ev_lvI4, ev_lvL4, ev_lvR4, ev_inc4, ev_s1_4i, ev_s2_4i, ev_s1_4r, ev_s2_4r, ev_s1_4u, ev_s2_4u, ev_s1_4s, ev_s2_4s, ev_lvI5, ev_lvL5, ev_lvR5, ev_inc5, ev_s1_5i, ev_s2_5i, ev_s1_5r, ev_s2_5r, ev_s1_5u, ev_s2_5u, ev_s1_5s, ev_s2_5s, ev_lvI6, ev_lvL6, ev_lvR6, ev_inc6, ev_s1_6i, ev_s2_6i, ev_s1_6r, ev_s2_6r, ev_s1_6u, ev_s2_6u, ev_s1_6s, ev_s2_6s, ev_lvI7, ev_lvL7, ev_lvR7, ev_inc7, ev_s1_7i, ev_s2_7i, ev_s1_7r, ev_s2_7r, ev_s1_7u, ev_s2_7u, ev_s1_7s, ev_s2_7s, ev_lvI8, ev_lvL8, ev_lvR8, ev_inc8, ev_s1_8i, ev_s2_8i, ev_s1_8r, ev_s2_8r, ev_s1_8u, ev_s2_8u, ev_s1_8s, ev_s2_8s, ev_lvI9, ev_lvL9, ev_lvR9, ev_inc9, ev_s1_9i, ev_s2_9i, ev_s1_9r, ev_s2_9r, ev_s1_9u, ev_s2_9u, ev_s1_9s, ev_s2_9s, ev_lvI10, ev_lvL10, ev_lvR10, ev_inc10, ev_s1_10i, ev_s2_10i, ev_s1_10r, ev_s2_10r, ev_s1_10u, ev_s2_10u, ev_s1_10s, ev_s2_10s, ev_lvI11, ev_lvL11, ev_lvR11, ev_inc11, ev_s1_11i, ev_s2_11i, ev_s1_11r, ev_s2_11r, ev_s1_11u, ev_s2_11u, ev_s1_11s, ev_s2_11s, ev_lvI12, ev_lvL12, ev_lvR12, ev_inc12, ev_s1_12i, ev_s2_12i, ev_s1_12r, ev_s2_12r, ev_s1_12u, ev_s2_12u, ev_s1_12s, ev_s2_12s, ev_lvI13, ev_lvL13, ev_lvR13, ev_inc13, ev_s1_13i, ev_s2_13i, ev_s1_13r, ev_s2_13r, ev_s1_13u, ev_s2_13u, ev_s1_13s, ev_s2_13s, ev_cut1_0, ev_cut1_1, ev_cut2_0, ev_cut2_1, ev_cut2_2, ev_cut3_0, ev_cut3_1, ev_cut3_2, ev_cut3_3, ev_cut4_0, ev_cut4_1, ev_cut4_2, ev_cut4_3, ev_cut4_4, ev_cut5_0, ev_cut5_1, ev_cut5_2, ev_cut5_3, ev_cut5_4, ev_cut5_5, ev_cut6_0, ev_cut6_1, ev_cut6_2, ev_cut6_3, ev_cut6_4, ev_cut6_5, ev_cut6_6, ev_cut7_0, ev_cut7_1, ev_cut7_2, ev_cut7_3, ev_cut7_4, ev_cut7_5, ev_cut7_6, ev_cut7_7, ev_cut8_0, ev_cut8_1, ev_cut8_2, ev_cut8_3, ev_cut8_4, ev_cut8_5, ev_cut8_6, ev_cut8_7, ev_cut8_8, ev_cut9_0, ev_cut9_1, ev_cut9_2, ev_cut9_3, ev_cut9_4, ev_cut9_5, ev_cut9_6, ev_cut9_7, ev_cut9_8, ev_cut9_9, ev_cut10_0, ev_cut10_1, ev_cut10_2, ev_cut10_3, ev_cut10_4, ev_cut10_5, ev_cut10_6, ev_cut10_7, ev_cut10_8, ev_cut10_9, ev_cut10_10, ev_cut11_0, ev_cut11_1, ev_cut11_2, ev_cut11_3, ev_cut11_4, ev_cut11_5, ev_cut11_6, ev_cut11_7, ev_cut11_8, ev_cut11_9, ev_cut11_10, ev_cut11_11, ev_cut12_0, ev_cut12_1, ev_cut12_2, ev_cut12_3, ev_cut12_4, ev_cut12_5, ev_cut12_6, ev_cut12_7, ev_cut12_8, ev_cut12_9, ev_cut12_10, ev_cut12_11, ev_cut12_12, ev_cut13_0, ev_cut13_1, ev_cut13_2, ev_cut13_3, ev_cut13_4, ev_cut13_5, ev_cut13_6, ev_cut13_7, ev_cut13_8, ev_cut13_9, ev_cut13_10, ev_cut13_11, ev_cut13_12, ev_cut13_13, ev_bin, ev_addI, ev_addIv, ev_subI, ev_subIv, ev_mulI, ev_mulIv, ev_andI, ev_andIv, ev_orI, ev_orIv, ev_xorI, ev_xorIv, ev_shlI, ev_shlIv, ev_shrI, ev_shrIv, ev_ushrI, ev_ushrIv, ev_addL, ev_addLv, ev_subL, ev_subLv, ev_mulL, ev_mulLv, ev_andL, ev_andLv, ev_orL, ev_orLv, ev_shlL, ev_shlLv, ev_divI, ev_divIv, ev_remI, ev_remIv, ev_divL, ev_divLv, ev_remL, ev_remLv, ev_eqI, ev_eqIv, ev_eqL, ev_eqLv, ev_eq0, ev_eq0v, ev_neI, ev_neIv, ev_neL, ev_neLv, ev_ne0, ev_ne0v, ev_ltI, ev_ltIv, ev_ltL, ev_ltLv, ev_lt0, ev_lt0v, ev_geI, ev_geIv, ev_geL, ev_geLv, ev_ge0, ev_ge0v, ev_gtI, ev_gtIv, ev_gtL, ev_gtLv, ev_gt0, ev_gt0v, ev_leI, ev_leIv, ev_leL, ev_leLv, ev_le0, ev_le0v, ev_i2L, ev_i2Lv, ev_l2I, ev_l2Iv, ev_nul, ev_nuls, ev_nuln, ev_andX, ev_andXt, ev_andXf, ev_andXd, ev_orX, ev_orXt, ev_orXf, ev_orXd, ev_notX, ev_notXv, ev_notd, ev_iteX, ev_iteXt, ev_iteXf, ev_iteXd, ev_getI, ev_getIv, ev_getL, ev_getLv, ev_getR, ev_getRv, ev_rsz, ev_rszv, ev_aldI, ev_aldIq, ev_aldIv, ev_aldL, ev_aldLq, ev_aldLv, ev_aldR, ev_aldRq, ev_aldRv, ev_aln, ev_putI, ev_putIq, ev_putIv, ev_putZ, ev_putZq, ev_putZv, ev_putL, ev_putLq, ev_putLv, ev_putR, ev_putRq, ev_putRv, ev_astI, ev_astIq, ev_astIi, ev_astIv, ev_astZ, ev_astZq, ev_astZi, ev_astZv, ev_astL, ev_astLq, ev_astLi, ev_astLv, ev_astR, ev_upd, ev_updq, ev_updv, ev_ina, ev_inaq, ev_inav, ev_rzs, ev_rzsq, ev_rzsv, ev_sw, ev_swx, ev_swr, ev_agN, ev_agC, ev_agi, ev_agl, ev_agr, ev_ag2, ev_calX, ev_calv, ev_decI, ev_decL, ev_decR, ev_calS, ev_clsv, ev_clsd, ev_ck0, ev_ck1, ev_cs1, ev_ck2, ev_cs2, ev_ck3, ev_cs3, ev_ck4, ev_cs4, ev_ck5, ev_cs5, ev_finV, ev_finI, ev_finL, ev_finR, ev_fin1, ev_fin0, ev_finZ, ev_newO, ev_newv, ev_newR, ev_newA, ev_newAv, ev_oi, ev_oiv, Option.bind_some, Option.bind_none, Option.bind_fun_some, reduceCtorEq, reduceIte, List.take_zero, Sum.inl.injEq, Sum.inr.injEq, Option.some.injEq, Prod.mk.injEq, Nat.reduceEqDiff, Nat.reduceAdd, Nat.reduceSub, Nat.reduceMul, Nat.reduceLT, Nat.reduceLeDiff, decide_true, decide_false, decide_eq_true_eq, decide_eq_false_iff_not, Bool.and_true, Bool.true_and, Bool.and_false, Bool.false_and, Bool.false_or, Bool.or_false, Bool.true_or, Bool.or_true, Bool.and_self, Bool.or_self, true_or, or_true, and_true, true_and, false_and, and_false, false_or, or_false, not_true_eq_false, not_false_eq_true, Bool.not_true, Bool.not_false, Bool.false_eq_true, and_self, ite_true, ite_false, eq_self, hT_sR, hP_sR, hI_sR, hL_sR, hN_sR, hR_sRu, hT_sI, hP_sI, hR_sI, hL_sI, hN_sI, hI_sI, hT_sL, hP_sL, hR_sL, hI_sL, hN_sL, hL_sL, hT_sP, hR_sP, hI_sP, hL_sP, hN_sP, hP_sP, u1_app, u2_app, hT_sA, hP_sA, hR_sA, hL_sA, hN_sA, hI_sA, sI_sA, sI_sI, sA_sA, sA_sI, hT_sLA, hP_sLA, hR_sLA, hI_sLA, hN_sLA, hL_sLA, sL_sLA, eX10_saveFile, bX10_saveFile, gT0 g, gT1 g, gT2 g, gT3 g, gT4 g, gT5 g, gT6 g, gT7 g, gT8 g, gT9 g, gT10 g, gT11 g, gT12 g, gT13 g, gT14 g, gT15 g, gT16 g, gT17 g, gT18 g, gT19 g, gT20 g, gT21 g, gT22 g, gT23 g, gT24 g, gT25 g, gT26 g, gT27 g, gT28 g, gT29 g, gT30 g, gT31 g, gT32 g, gT33 g, gT34 g, gT35 g, gT36 g, gT37 g, gT38 g, gT39 g, gT40 g, gT41 g, gT42 g, gT43 g, gT44 g, gT45 g, gT46 g, gT47 g, gT48 g, gT49 g, gT50 g, gT51 g, gT52 g, gT53 g, gT54 g, gT55 g, gT56 g, gT57 g, gT58 g, gT59 g, gT60 g, gT61 g, gT62 g, gT63 g, gT64 g, gT65 g, gT66 g, gT67 g, gT68 g, gT69 g, gT70 g, gT71 g, gT72 g, gT73 g, gT74 g, gT75 g, gT76 g, gT77 g, gT78 g, gT79 g, gT80 g, gT81 g, gT82 g, gT83 g, gT84 g, gT85 g, gT86 g, gT87 g, gT88 g, gT89 g, gT90 g, gT91 g, gT92 g, gT93 g, gT94 g, gP0_0 g, gP0_1 g, gP0_2 g, gP0_3 g, gP0_4 g, gP0_5 g, gP3_0 g, gP3_1 g, gP3_2 g, gP3_3 g, gP8_0 g, gP8_1 g, gP11_1 g, gP11_2 g, gP11_3 g, gP11_4 g, gP11_5 g, gP11_6 g, gP11_7 g, gP11_8 g, gP11_9 g, gP11_10 g, gP11_11 g, gP11_12 g, gP11_16 g, gP11_17 g, gP11_18 g, gP12_0 g, gP12_1 g, gP12_2 g, gP12_3 g, gP12_4 g, gP14_0 g, gP14_1 g, gP17_0 g, gP17_1 g, gP20_0 g, gP20_1 g, gP24_0 g, gP24_1 g, gP27_0 g, gP27_1 g, gP27_2 g, gP27_3 g, gP27_4 g, gP27_5 g, gP27_6 g, gP27_7 g, gP36_0 g, gP36_1 g, gP36_2 g, gP36_3 g, gP36_4 g, gP36_5 g, gP49_0 g, gP49_1 g, gP49_2 g, gP49_3 g, gP49_4 g, gP49_5 g, gP49_6 g, gP49_7 g, gP49_8 g, gP49_9 g, gP60_0 g, gP60_1 g, gP60_2 g, gP60_3 g, gP60_4 g, gP60_5 g, gP60_6 g, gP60_7 g, gP60_8 g, gP60_9 g, gP75_0 g, gP75_1 g, gP75_2 g, gP79_0 g, gP79_1 g, gP79_2 g, gP83_0 g, gP83_1 g, gP83_2 g, gP83_3 g, gP83_4 g, gP85_0 g, gP85_1 g, gP88_0 g, gP88_1 g, gP91_0 g, gP91_1 g, gT0 g1, gT1 g1, gT2 g1, gT3 g1, gT4 g1, gT5 g1, gT6 g1, gT7 g1, gT8 g1, gT9 g1, gT10 g1, gT11 g1, gT12 g1, gT13 g1, gT14 g1, gT15 g1, gT16 g1, gT17 g1, gT18 g1, gT19 g1, gT20 g1, gT21 g1, gT22 g1, gT23 g1, gT24 g1, gT25 g1, gT26 g1, gT27 g1, gT28 g1, gT29 g1, gT30 g1, gT31 g1, gT32 g1, gT33 g1, gT34 g1, gT35 g1, gT36 g1, gT37 g1, gT38 g1, gT39 g1, gT40 g1, gT41 g1, gT42 g1, gT43 g1, gT44 g1, gT45 g1, gT46 g1, gT47 g1, gT48 g1, gT49 g1, gT50 g1, gT51 g1, gT52 g1, gT53 g1, gT54 g1, gT55 g1, gT56 g1, gT57 g1, gT58 g1, gT59 g1, gT60 g1, gT61 g1, gT62 g1, gT63 g1, gT64 g1, gT65 g1, gT66 g1, gT67 g1, gT68 g1, gT69 g1, gT70 g1, gT71 g1, gT72 g1, gT73 g1, gT74 g1, gT75 g1, gT76 g1, gT77 g1, gT78 g1, gT79 g1, gT80 g1, gT81 g1, gT82 g1, gT83 g1, gT84 g1, gT85 g1, gT86 g1, gT87 g1, gT88 g1, gT89 g1, gT90 g1, gT91 g1, gT92 g1, gT93 g1, gT94 g1, gP0_0 g1, gP0_1 g1, gP0_2 g1, gP0_3 g1, gP0_4 g1, gP0_5 g1, gP3_0 g1, gP3_1 g1, gP3_2 g1, gP3_3 g1, gP8_0 g1, gP8_1 g1, gP11_1 g1, gP11_2 g1, gP11_3 g1, gP11_4 g1, gP11_5 g1, gP11_6 g1, gP11_7 g1, gP11_8 g1, gP11_9 g1, gP11_10 g1, gP11_11 g1, gP11_12 g1, gP11_16 g1, gP11_17 g1, gP11_18 g1, gP12_0 g1, gP12_1 g1, gP12_2 g1, gP12_3 g1, gP12_4 g1, gP14_0 g1, gP14_1 g1, gP17_0 g1, gP17_1 g1, gP20_0 g1, gP20_1 g1, gP24_0 g1, gP24_1 g1, gP27_0 g1, gP27_1 g1, gP27_2 g1, gP27_3 g1, gP27_4 g1, gP27_5 g1, gP27_6 g1, gP27_7 g1, gP36_0 g1, gP36_1 g1, gP36_2 g1, gP36_3 g1, gP36_4 g1, gP36_5 g1, gP49_0 g1, gP49_1 g1, gP49_2 g1, gP49_3 g1, gP49_4 g1, gP49_5 g1, gP49_6 g1, gP49_7 g1, gP49_8 g1, gP49_9 g1, gP60_0 g1, gP60_1 g1, gP60_2 g1, gP60_3 g1, gP60_4 g1, gP60_5 g1, gP60_6 g1, gP60_7 g1, gP60_8 g1, gP60_9 g1, gP75_0 g1, gP75_1 g1, gP75_2 g1, gP79_0 g1, gP79_1 g1, gP79_2 g1, gP83_0 g1, gP83_1 g1, gP83_2 g1, gP83_3 g1, gP83_4 g1, gP85_0 g1, gP85_1 g1, gP88_0 g1, gP88_1 g1, gP91_0 g1, gP91_1 g1, gT0 ga, gT1 ga, gT2 ga, gT3 ga, gT4 ga, gT5 ga, gT6 ga, gT7 ga, gT8 ga, gT9 ga, gT10 ga, gT11 ga, gT12 ga, gT13 ga, gT14 ga, gT15 ga, gT16 ga, gT17 ga, gT18 ga, gT19 ga, gT20 ga, gT21 ga, gT22 ga, gT23 ga, gT24 ga, gT25 ga, gT26 ga, gT27 ga, gT28 ga, gT29 ga, gT30 ga, gT31 ga, gT32 ga, gT33 ga, gT34 ga, gT35 ga, gT36 ga, gT37 ga, gT38 ga, gT39 ga, gT40 ga, gT41 ga, gT42 ga, gT43 ga, gT44 ga, gT45 ga, gT46 ga, gT47 ga, gT48 ga, gT49 ga, gT50 ga, gT51 ga, gT52 ga, gT53 ga, gT54 ga, gT55 ga, gT56 ga, gT57 ga, gT58 ga, gT59 ga, gT60 ga, gT61 ga, gT62 ga, gT63 ga, gT64 ga, gT65 ga, gT66 ga, gT67 ga, gT68 ga, gT69 ga, gT70 ga, gT71 ga, gT72 ga, gT73 ga, gT74 ga, gT75 ga, gT76 ga, gT77 ga, gT78 ga, gT79 ga, gT80 ga, gT81 ga, gT82 ga, gT83 ga, gT84 ga, gT85 ga, gT86 ga, gT87 ga, gT88 ga, gT89 ga, gT90 ga, gT91 ga, gT92 ga, gT93 ga, gT94 ga, gP0_0 ga, gP0_1 ga, gP0_2 ga, gP0_3 ga, gP0_4 ga, gP0_5 ga, gP3_0 ga, gP3_1 ga, gP3_2 ga, gP3_3 ga, gP8_0 ga, gP8_1 ga, gP11_1 ga, gP11_2 ga, gP11_3 ga, gP11_4 ga, gP11_5 ga, gP11_6 ga, gP11_7 ga, gP11_8 ga, gP11_9 ga, gP11_10 ga, gP11_11 ga, gP11_12 ga, gP11_16 ga, gP11_17 ga, gP11_18 ga, gP12_0 ga, gP12_1 ga, gP12_2 ga, gP12_3 ga, gP12_4 ga, gP14_0 ga, gP14_1 ga, gP17_0 ga, gP17_1 ga, gP20_0 ga, gP20_1 ga, gP24_0 ga, gP24_1 ga, gP27_0 ga, gP27_1 ga, gP27_2 ga, gP27_3 ga, gP27_4 ga, gP27_5 ga, gP27_6 ga, gP27_7 ga, gP36_0 ga, gP36_1 ga, gP36_2 ga, gP36_3 ga, gP36_4 ga, gP36_5 ga, gP49_0 ga, gP49_1 ga, gP49_2 ga, gP49_3 ga, gP49_4 ga, gP49_5 ga, gP49_6 ga, gP49_7 ga, gP49_8 ga, gP49_9 ga, gP60_0 ga, gP60_1 ga, gP60_2 ga, gP60_3 ga, gP60_4 ga, gP60_5 ga, gP60_6 ga, gP60_7 ga, gP60_8 ga, gP60_9 ga, gP75_0 ga, gP75_1 ga, gP75_2 ga, gP79_0 ga, gP79_1 ga, gP79_2 ga, gP83_0 ga, gP83_1 ga, gP83_2 ga, gP83_3 ga, gP83_4 ga, gP85_0 ga, gP85_1 ga, gP88_0 ga, gP88_1 ga, gP91_0 ga, gP91_1 ga, gT0 gb, gT1 gb, gT2 gb, gT3 gb, gT4 gb, gT5 gb, gT6 gb, gT7 gb, gT8 gb, gT9 gb, gT10 gb, gT11 gb, gT12 gb, gT13 gb, gT14 gb, gT15 gb, gT16 gb, gT17 gb, gT18 gb, gT19 gb, gT20 gb, gT21 gb, gT22 gb, gT23 gb, gT24 gb, gT25 gb, gT26 gb, gT27 gb, gT28 gb, gT29 gb, gT30 gb, gT31 gb, gT32 gb, gT33 gb, gT34 gb, gT35 gb, gT36 gb, gT37 gb, gT38 gb, gT39 gb, gT40 gb, gT41 gb, gT42 gb, gT43 gb, gT44 gb, gT45 gb, gT46 gb, gT47 gb, gT48 gb, gT49 gb, gT50 gb, gT51 gb, gT52 gb, gT53 gb, gT54 gb, gT55 gb, gT56 gb, gT57 gb, gT58 gb, gT59 gb, gT60 gb, gT61 gb, gT62 gb, gT63 gb, gT64 gb, gT65 gb, gT66 gb, gT67 gb, gT68 gb, gT69 gb, gT70 gb, gT71 gb, gT72 gb, gT73 gb, gT74 gb, gT75 gb, gT76 gb, gT77 gb, gT78 gb, gT79 gb, gT80 gb, gT81 gb, gT82 gb, gT83 gb, gT84 gb, gT85 gb, gT86 gb, gT87 gb, gT88 gb, gT89 gb, gT90 gb, gT91 gb, gT92 gb, gT93 gb, gT94 gb, gP0_0 gb, gP0_1 gb, gP0_2 gb, gP0_3 gb, gP0_4 gb, gP0_5 gb, gP3_0 gb, gP3_1 gb, gP3_2 gb, gP3_3 gb, gP8_0 gb, gP8_1 gb, gP11_1 gb, gP11_2 gb, gP11_3 gb, gP11_4 gb, gP11_5 gb, gP11_6 gb, gP11_7 gb, gP11_8 gb, gP11_9 gb, gP11_10 gb, gP11_11 gb, gP11_12 gb, gP11_16 gb, gP11_17 gb, gP11_18 gb, gP12_0 gb, gP12_1 gb, gP12_2 gb, gP12_3 gb, gP12_4 gb, gP14_0 gb, gP14_1 gb, gP17_0 gb, gP17_1 gb, gP20_0 gb, gP20_1 gb, gP24_0 gb, gP24_1 gb, gP27_0 gb, gP27_1 gb, gP27_2 gb, gP27_3 gb, gP27_4 gb, gP27_5 gb, gP27_6 gb, gP27_7 gb, gP36_0 gb, gP36_1 gb, gP36_2 gb, gP36_3 gb, gP36_4 gb, gP36_5 gb, gP49_0 gb, gP49_1 gb, gP49_2 gb, gP49_3 gb, gP49_4 gb, gP49_5 gb, gP49_6 gb, gP49_7 gb, gP49_8 gb, gP49_9 gb, gP60_0 gb, gP60_1 gb, gP60_2 gb, gP60_3 gb, gP60_4 gb, gP60_5 gb, gP60_6 gb, gP60_7 gb, gP60_8 gb, gP60_9 gb, gP75_0 gb, gP75_1 gb, gP75_2 gb, gP79_0 gb, gP79_1 gb, gP79_2 gb, gP83_0 gb, gP83_1 gb, gP83_2 gb, gP83_3 gb, gP83_4 gb, gP85_0 gb, gP85_1 gb, gP88_0 gb, gP88_1 gb, gP91_0 gb, gP91_1 gb, gT0 g2, gT1 g2, gT2 g2, gT3 g2, gT4 g2, gT5 g2, gT6 g2, gT7 g2, gT8 g2, gT9 g2, gT10 g2, gT11 g2, gT12 g2, gT13 g2, gT14 g2, gT15 g2, gT16 g2, gT17 g2, gT18 g2, gT19 g2, gT20 g2, gT21 g2, gT22 g2, gT23 g2, gT24 g2, gT25 g2, gT26 g2, gT27 g2, gT28 g2, gT29 g2, gT30 g2, gT31 g2, gT32 g2, gT33 g2, gT34 g2, gT35 g2, gT36 g2, gT37 g2, gT38 g2, gT39 g2, gT40 g2, gT41 g2, gT42 g2, gT43 g2, gT44 g2, gT45 g2, gT46 g2, gT47 g2, gT48 g2, gT49 g2, gT50 g2, gT51 g2, gT52 g2, gT53 g2, gT54 g2, gT55 g2, gT56 g2, gT57 g2, gT58 g2, gT59 g2, gT60 g2, gT61 g2, gT62 g2, gT63 g2, gT64 g2, gT65 g2, gT66 g2, gT67 g2, gT68 g2, gT69 g2, gT70 g2, gT71 g2, gT72 g2, gT73 g2, gT74 g2, gT75 g2, gT76 g2, gT77 g2, gT78 g2, gT79 g2, gT80 g2, gT81 g2, gT82 g2, gT83 g2, gT84 g2, gT85 g2, gT86 g2, gT87 g2, gT88 g2, gT89 g2, gT90 g2, gT91 g2, gT92 g2, gT93 g2, gT94 g2, gP0_0 g2, gP0_1 g2, gP0_2 g2, gP0_3 g2, gP0_4 g2, gP0_5 g2, gP3_0 g2, gP3_1 g2, gP3_2 g2, gP3_3 g2, gP8_0 g2, gP8_1 g2, gP11_1 g2, gP11_2 g2, gP11_3 g2, gP11_4 g2, gP11_5 g2, gP11_6 g2, gP11_7 g2, gP11_8 g2, gP11_9 g2, gP11_10 g2, gP11_11 g2, gP11_12 g2, gP11_16 g2, gP11_17 g2, gP11_18 g2, gP12_0 g2, gP12_1 g2, gP12_2 g2, gP12_3 g2, gP12_4 g2, gP14_0 g2, gP14_1 g2, gP17_0 g2, gP17_1 g2, gP20_0 g2, gP20_1 g2, gP24_0 g2, gP24_1 g2, gP27_0 g2, gP27_1 g2, gP27_2 g2, gP27_3 g2, gP27_4 g2, gP27_5 g2, gP27_6 g2, gP27_7 g2, gP36_0 g2, gP36_1 g2, gP36_2 g2, gP36_3 g2, gP36_4 g2, gP36_5 g2, gP49_0 g2, gP49_1 g2, gP49_2 g2, gP49_3 g2, gP49_4 g2, gP49_5 g2, gP49_6 g2, gP49_7 g2, gP49_8 g2, gP49_9 g2, gP60_0 g2, gP60_1 g2, gP60_2 g2, gP60_3 g2, gP60_4 g2, gP60_5 g2, gP60_6 g2, gP60_7 g2, gP60_8 g2, gP60_9 g2, gP75_0 g2, gP75_1 g2, gP75_2 g2, gP79_0 g2, gP79_1 g2, gP79_2 g2, gP83_0 g2, gP83_1 g2, gP83_2 g2, gP83_3 g2, gP83_4 g2, gP85_0 g2, gP85_1 g2, gP88_0 g2, gP88_1 g2, gP91_0 g2, gP91_1 g2, gT0 g3, gT1 g3, gT2 g3, gT3 g3, gT4 g3, gT5 g3, gT6 g3, gT7 g3, gT8 g3, gT9 g3, gT10 g3, gT11 g3, gT12 g3, gT13 g3, gT14 g3, gT15 g3, gT16 g3, gT17 g3, gT18 g3, gT19 g3, gT20 g3, gT21 g3, gT22 g3, gT23 g3, gT24 g3, gT25 g3, gT26 g3, gT27 g3, gT28 g3, gT29 g3, gT30 g3, gT31 g3, gT32 g3, gT33 g3, gT34 g3, gT35 g3, gT36 g3, gT37 g3, gT38 g3, gT39 g3, gT40 g3, gT41 g3, gT42 g3, gT43 g3, gT44 g3, gT45 g3, gT46 g3, gT47 g3, gT48 g3, gT49 g3, gT50 g3, gT51 g3, gT52 g3, gT53 g3, gT54 g3, gT55 g3, gT56 g3, gT57 g3, gT58 g3, gT59 g3, gT60 g3, gT61 g3, gT62 g3, gT63 g3, gT64 g3, gT65 g3, gT66 g3, gT67 g3, gT68 g3, gT69 g3, gT70 g3, gT71 g3, gT72 g3, gT73 g3, gT74 g3, gT75 g3, gT76 g3, gT77 g3, gT78 g3, gT79 g3, gT80 g3, gT81 g3, gT82 g3, gT83 g3, gT84 g3, gT85 g3, gT86 g3, gT87 g3, gT88 g3, gT89 g3, gT90 g3, gT91 g3, gT92 g3, gT93 g3, gT94 g3, gP0_0 g3, gP0_1 g3, gP0_2 g3, gP0_3 g3, gP0_4 g3, gP0_5 g3, gP3_0 g3, gP3_1 g3, gP3_2 g3, gP3_3 g3, gP8_0 g3, gP8_1 g3, gP11_1 g3, gP11_2 g3, gP11_3 g3, gP11_4 g3, gP11_5 g3, gP11_6 g3, gP11_7 g3, gP11_8 g3, gP11_9 g3, gP11_10 g3, gP11_11 g3, gP11_12 g3, gP11_16 g3, gP11_17 g3, gP11_18 g3, gP12_0 g3, gP12_1 g3, gP12_2 g3, gP12_3 g3, gP12_4 g3, gP14_0 g3, gP14_1 g3, gP17_0 g3, gP17_1 g3, gP20_0 g3, gP20_1 g3, gP24_0 g3, gP24_1 g3, gP27_0 g3, gP27_1 g3, gP27_2 g3, gP27_3 g3, gP27_4 g3, gP27_5 g3, gP27_6 g3, gP27_7 g3, gP36_0 g3, gP36_1 g3, gP36_2 g3, gP36_3 g3, gP36_4 g3, gP36_5 g3, gP49_0 g3, gP49_1 g3, gP49_2 g3, gP49_3 g3, gP49_4 g3, gP49_5 g3, gP49_6 g3, gP49_7 g3, gP49_8 g3, gP49_9 g3, gP60_0 g3, gP60_1 g3, gP60_2 g3, gP60_3 g3, gP60_4 g3, gP60_5 g3, gP60_6 g3, gP60_7 g3, gP60_8 g3, gP60_9 g3, gP75_0 g3, gP75_1 g3, gP75_2 g3, gP79_0 g3, gP79_1 g3, gP79_2 g3, gP83_0 g3, gP83_1 g3, gP83_2 g3, gP83_3 g3, gP83_4 g3, gP85_0 g3, gP85_1 g3, gP88_0 g3, gP88_1 g3, gP91_0 g3, gP91_1 g3, gT0 g3a, gT1 g3a, gT2 g3a, gT3 g3a, gT4 g3a, gT5 g3a, gT6 g3a, gT7 g3a, gT8 g3a, gT9 g3a, gT10 g3a, gT11 g3a, gT12 g3a, gT13 g3a, gT14 g3a, gT15 g3a, gT16 g3a, gT17 g3a, gT18 g3a, gT19 g3a, gT20 g3a, gT21 g3a, gT22 g3a, gT23 g3a, gT24 g3a, gT25 g3a, gT26 g3a, gT27 g3a, gT28 g3a, gT29 g3a, gT30 g3a, gT31 g3a, gT32 g3a, gT33 g3a, gT34 g3a, gT35 g3a, gT36 g3a, gT37 g3a, gT38 g3a, gT39 g3a, gT40 g3a, gT41 g3a, gT42 g3a, gT43 g3a, gT44 g3a, gT45 g3a, gT46 g3a, gT47 g3a, gT48 g3a, gT49 g3a, gT50 g3a, gT51 g3a, gT52 g3a, gT53 g3a, gT54 g3a, gT55 g3a, gT56 g3a, gT57 g3a, gT58 g3a, gT59 g3a, gT60 g3a, gT61 g3a, gT62 g3a, gT63 g3a, gT64 g3a, gT65 g3a, gT66 g3a, gT67 g3a, gT68 g3a, gT69 g3a, gT70 g3a, gT71 g3a, gT72 g3a, gT73 g3a, gT74 g3a, gT75 g3a, gT76 g3a, gT77 g3a, gT78 g3a, gT79 g3a, gT80 g3a, gT81 g3a, gT82 g3a, gT83 g3a, gT84 g3a, gT85 g3a, gT86 g3a, gT87 g3a, gT88 g3a, gT89 g3a, gT90 g3a, gT91 g3a, gT92 g3a, gT93 g3a, gT94 g3a, gP0_0 g3a, gP0_1 g3a, gP0_2 g3a, gP0_3 g3a, gP0_4 g3a, gP0_5 g3a, gP3_0 g3a, gP3_1 g3a, gP3_2 g3a, gP3_3 g3a, gP8_0 g3a, gP8_1 g3a, gP11_1 g3a, gP11_2 g3a, gP11_3 g3a, gP11_4 g3a, gP11_5 g3a, gP11_6 g3a, gP11_7 g3a, gP11_8 g3a, gP11_9 g3a, gP11_10 g3a, gP11_11 g3a, gP11_12 g3a, gP11_16 g3a, gP11_17 g3a, gP11_18 g3a, gP12_0 g3a, gP12_1 g3a, gP12_2 g3a, gP12_3 g3a, gP12_4 g3a, gP14_0 g3a, gP14_1 g3a, gP17_0 g3a, gP17_1 g3a, gP20_0 g3a, gP20_1 g3a, gP24_0 g3a, gP24_1 g3a, gP27_0 g3a, gP27_1 g3a, gP27_2 g3a, gP27_3 g3a, gP27_4 g3a, gP27_5 g3a, gP27_6 g3a, gP27_7 g3a, gP36_0 g3a, gP36_1 g3a, gP36_2 g3a, gP36_3 g3a, gP36_4 g3a, gP36_5 g3a, gP49_0 g3a, gP49_1 g3a, gP49_2 g3a, gP49_3 g3a, gP49_4 g3a, gP49_5 g3a, gP49_6 g3a, gP49_7 g3a, gP49_8 g3a, gP49_9 g3a, gP60_0 g3a, gP60_1 g3a, gP60_2 g3a, gP60_3 g3a, gP60_4 g3a, gP60_5 g3a, gP60_6 g3a, gP60_7 g3a, gP60_8 g3a, gP60_9 g3a, gP75_0 g3a, gP75_1 g3a, gP75_2 g3a, gP79_0 g3a, gP79_1 g3a, gP79_2 g3a, gP83_0 g3a, gP83_1 g3a, gP83_2 g3a, gP83_3 g3a, gP83_4 g3a, gP85_0 g3a, gP85_1 g3a, gP88_0 g3a, gP88_1 g3a, gP91_0 g3a, gP91_1 g3a, gT0 g4, gT1 g4, gT2 g4, gT3 g4, gT4 g4, gT5 g4, gT6 g4, gT7 g4, gT8 g4, gT9 g4, gT10 g4, gT11 g4, gT12 g4, gT13 g4, gT14 g4, gT15 g4, gT16 g4, gT17 g4, gT18 g4, gT19 g4, gT20 g4, gT21 g4, gT22 g4, gT23 g4, gT24 g4, gT25 g4, gT26 g4, gT27 g4, gT28 g4, gT29 g4, gT30 g4, gT31 g4, gT32 g4, gT33 g4, gT34 g4, gT35 g4, gT36 g4, gT37 g4, gT38 g4, gT39 g4, gT40 g4, gT41 g4, gT42 g4, gT43 g4, gT44 g4, gT45 g4, gT46 g4, gT47 g4, gT48 g4, gT49 g4, gT50 g4, gT51 g4, gT52 g4, gT53 g4, gT54 g4, gT55 g4, gT56 g4, gT57 g4, gT58 g4, gT59 g4, gT60 g4, gT61 g4, gT62 g4, gT63 g4, gT64 g4, gT65 g4, gT66 g4, gT67 g4, gT68 g4, gT69 g4, gT70 g4, gT71 g4, gT72 g4, gT73 g4, gT74 g4, gT75 g4, gT76 g4, gT77 g4, gT78 g4, gT79 g4, gT80 g4, gT81 g4, gT82 g4, gT83 g4, gT84 g4, gT85 g4, gT86 g4, gT87 g4, gT88 g4, gT89 g4, gT90 g4, gT91 g4, gT92 g4, gT93 g4, gT94 g4, gP0_0 g4, gP0_1 g4, gP0_2 g4, gP0_3 g4, gP0_4 g4, gP0_5 g4, gP3_0 g4, gP3_1 g4, gP3_2 g4, gP3_3 g4, gP8_0 g4, gP8_1 g4, gP11_1 g4, gP11_2 g4, gP11_3 g4, gP11_4 g4, gP11_5 g4, gP11_6 g4, gP11_7 g4, gP11_8 g4, gP11_9 g4, gP11_10 g4, gP11_11 g4, gP11_12 g4, gP11_16 g4, gP11_17 g4, gP11_18 g4, gP12_0 g4, gP12_1 g4, gP12_2 g4, gP12_3 g4, gP12_4 g4, gP14_0 g4, gP14_1 g4, gP17_0 g4, gP17_1 g4, gP20_0 g4, gP20_1 g4, gP24_0 g4, gP24_1 g4, gP27_0 g4, gP27_1 g4, gP27_2 g4, gP27_3 g4, gP27_4 g4, gP27_5 g4, gP27_6 g4, gP27_7 g4, gP36_0 g4, gP36_1 g4, gP36_2 g4, gP36_3 g4, gP36_4 g4, gP36_5 g4, gP49_0 g4, gP49_1 g4, gP49_2 g4, gP49_3 g4, gP49_4 g4, gP49_5 g4, gP49_6 g4, gP49_7 g4, gP49_8 g4, gP49_9 g4, gP60_0 g4, gP60_1 g4, gP60_2 g4, gP60_3 g4, gP60_4 g4, gP60_5 g4, gP60_6 g4, gP60_7 g4, gP60_8 g4, gP60_9 g4, gP75_0 g4, gP75_1 g4, gP75_2 g4, gP79_0 g4, gP79_1 g4, gP79_2 g4, gP83_0 g4, gP83_1 g4, gP83_2 g4, gP83_3 g4, gP83_4 g4, gP85_0 g4, gP85_1 g4, gP88_0 g4, gP88_1 g4, gP91_0 g4, gP91_1 g4, gT0 g5, gT1 g5, gT2 g5, gT3 g5, gT4 g5, gT5 g5, gT6 g5, gT7 g5, gT8 g5, gT9 g5, gT10 g5, gT11 g5, gT12 g5, gT13 g5, gT14 g5, gT15 g5, gT16 g5, gT17 g5, gT18 g5, gT19 g5, gT20 g5, gT21 g5, gT22 g5, gT23 g5, gT24 g5, gT25 g5, gT26 g5, gT27 g5, gT28 g5, gT29 g5, gT30 g5, gT31 g5, gT32 g5, gT33 g5, gT34 g5, gT35 g5, gT36 g5, gT37 g5, gT38 g5, gT39 g5, gT40 g5, gT41 g5, gT42 g5, gT43 g5, gT44 g5, gT45 g5, gT46 g5, gT47 g5, gT48 g5, gT49 g5, gT50 g5, gT51 g5, gT52 g5, gT53 g5, gT54 g5, gT55 g5, gT56 g5, gT57 g5, gT58 g5, gT59 g5, gT60 g5, gT61 g5, gT62 g5, gT63 g5, gT64 g5, gT65 g5, gT66 g5, gT67 g5, gT68 g5, gT69 g5, gT70 g5, gT71 g5, gT72 g5, gT73 g5, gT74 g5, gT75 g5, gT76 g5, gT77 g5, gT78 g5, gT79 g5, gT80 g5, gT81 g5, gT82 g5, gT83 g5, gT84 g5, gT85 g5, gT86 g5, gT87 g5, gT88 g5, gT89 g5, gT90 g5, gT91 g5, gT92 g5, gT93 g5, gT94 g5, gP0_0 g5, gP0_1 g5, gP0_2 g5, gP0_3 g5, gP0_4 g5, gP0_5 g5, gP3_0 g5, gP3_1 g5, gP3_2 g5, gP3_3 g5, gP8_0 g5, gP8_1 g5, gP11_1 g5, gP11_2 g5, gP11_3 g5, gP11_4 g5, gP11_5 g5, gP11_6 g5, gP11_7 g5, gP11_8 g5, gP11_9 g5, gP11_10 g5, gP11_11 g5, gP11_12 g5, gP11_16 g5, gP11_17 g5, gP11_18 g5, gP12_0 g5, gP12_1 g5, gP12_2 g5, gP12_3 g5, gP12_4 g5, gP14_0 g5, gP14_1 g5, gP17_0 g5, gP17_1 g5, gP20_0 g5, gP20_1 g5, gP24_0 g5, gP24_1 g5, gP27_0 g5, gP27_1 g5, gP27_2 g5, gP27_3 g5, gP27_4 g5, gP27_5 g5, gP27_6 g5, gP27_7 g5, gP36_0 g5, gP36_1 g5, gP36_2 g5, gP36_3 g5, gP36_4 g5, gP36_5 g5, gP49_0 g5, gP49_1 g5, gP49_2 g5, gP49_3 g5, gP49_4 g5, gP49_5 g5, gP49_6 g5, gP49_7 g5, gP49_8 g5, gP49_9 g5, gP60_0 g5, gP60_1 g5, gP60_2 g5, gP60_3 g5, gP60_4 g5, gP60_5 g5, gP60_6 g5, gP60_7 g5, gP60_8 g5, gP60_9 g5, gP75_0 g5, gP75_1 g5, gP75_2 g5, gP79_0 g5, gP79_1 g5, gP79_2 g5, gP83_0 g5, gP83_1 g5, gP83_2 g5, gP83_3 g5, gP83_4 g5, gP85_0 g5, gP85_1 g5, gP88_0 g5, gP88_1 g5, gP91_0 g5, gP91_1 g5, gT0 g6, gT1 g6, gT2 g6, gT3 g6, gT4 g6, gT5 g6, gT6 g6, gT7 g6, gT8 g6, gT9 g6, gT10 g6, gT11 g6, gT12 g6, gT13 g6, gT14 g6, gT15 g6, gT16 g6, gT17 g6, gT18 g6, gT19 g6, gT20 g6, gT21 g6, gT22 g6, gT23 g6, gT24 g6, gT25 g6, gT26 g6, gT27 g6, gT28 g6, gT29 g6, gT30 g6, gT31 g6, gT32 g6, gT33 g6, gT34 g6, gT35 g6, gT36 g6, gT37 g6, gT38 g6, gT39 g6, gT40 g6, gT41 g6, gT42 g6, gT43 g6, gT44 g6, gT45 g6, gT46 g6, gT47 g6, gT48 g6, gT49 g6, gT50 g6, gT51 g6, gT52 g6, gT53 g6, gT54 g6, gT55 g6, gT56 g6, gT57 g6, gT58 g6, gT59 g6, gT60 g6, gT61 g6, gT62 g6, gT63 g6, gT64 g6, gT65 g6, gT66 g6, gT67 g6, gT68 g6, gT69 g6, gT70 g6, gT71 g6, gT72 g6, gT73 g6, gT74 g6, gT75 g6, gT76 g6, gT77 g6, gT78 g6, gT79 g6, gT80 g6, gT81 g6, gT82 g6, gT83 g6, gT84 g6, gT85 g6, gT86 g6, gT87 g6, gT88 g6, gT89 g6, gT90 g6, gT91 g6, gT92 g6, gT93 g6, gT94 g6, gP0_0 g6, gP0_1 g6, gP0_2 g6, gP0_3 g6, gP0_4 g6, gP0_5 g6, gP3_0 g6, gP3_1 g6, gP3_2 g6, gP3_3 g6, gP8_0 g6, gP8_1 g6, gP11_1 g6, gP11_2 g6, gP11_3 g6, gP11_4 g6, gP11_5 g6, gP11_6 g6, gP11_7 g6, gP11_8 g6, gP11_9 g6, gP11_10 g6, gP11_11 g6, gP11_12 g6, gP11_16 g6, gP11_17 g6, gP11_18 g6, gP12_0 g6, gP12_1 g6, gP12_2 g6, gP12_3 g6, gP12_4 g6, gP14_0 g6, gP14_1 g6, gP17_0 g6, gP17_1 g6, gP20_0 g6, gP20_1 g6, gP24_0 g6, gP24_1 g6, gP27_0 g6, gP27_1 g6, gP27_2 g6, gP27_3 g6, gP27_4 g6, gP27_5 g6, gP27_6 g6, gP27_7 g6, gP36_0 g6, gP36_1 g6, gP36_2 g6, gP36_3 g6, gP36_4 g6, gP36_5 g6, gP49_0 g6, gP49_1 g6, gP49_2 g6, gP49_3 g6, gP49_4 g6, gP49_5 g6, gP49_6 g6, gP49_7 g6, gP49_8 g6, gP49_9 g6, gP60_0 g6, gP60_1 g6, gP60_2 g6, gP60_3 g6, gP60_4 g6, gP60_5 g6, gP60_6 g6, gP60_7 g6, gP60_8 g6, gP60_9 g6, gP75_0 g6, gP75_1 g6, gP75_2 g6, gP79_0 g6, gP79_1 g6, gP79_2 g6, gP83_0 g6, gP83_1 g6, gP83_2 g6, gP83_3 g6, gP83_4 g6, gP85_0 g6, gP85_1 g6, gP88_0 g6, gP88_1 g6, gP91_0 g6, gP91_1 g6, gT0 g7, gT1 g7, gT2 g7, gT3 g7, gT4 g7, gT5 g7, gT6 g7, gT7 g7, gT8 g7, gT9 g7, gT10 g7, gT11 g7, gT12 g7, gT13 g7, gT14 g7, gT15 g7, gT16 g7, gT17 g7, gT18 g7, gT19 g7, gT20 g7, gT21 g7, gT22 g7, gT23 g7, gT24 g7, gT25 g7, gT26 g7, gT27 g7, gT28 g7, gT29 g7, gT30 g7, gT31 g7, gT32 g7, gT33 g7, gT34 g7, gT35 g7, gT36 g7, gT37 g7, gT38 g7, gT39 g7, gT40 g7, gT41 g7, gT42 g7, gT43 g7, gT44 g7, gT45 g7, gT46 g7, gT47 g7, gT48 g7, gT49 g7, gT50 g7, gT51 g7, gT52 g7, gT53 g7, gT54 g7, gT55 g7, gT56 g7, gT57 g7, gT58 g7, gT59 g7, gT60 g7, gT61 g7, gT62 g7, gT63 g7, gT64 g7, gT65 g7, gT66 g7, gT67 g7, gT68 g7, gT69 g7, gT70 g7, gT71 g7, gT72 g7, gT73 g7, gT74 g7, gT75 g7, gT76 g7, gT77 g7, gT78 g7, gT79 g7, gT80 g7, gT81 g7, gT82 g7, gT83 g7, gT84 g7, gT85 g7, gT86 g7, gT87 g7, gT88 g7, gT89 g7, gT90 g7, gT91 g7, gT92 g7, gT93 g7, gT94 g7, gP0_0 g7, gP0_1 g7, gP0_2 g7, gP0_3 g7, gP0_4 g7, gP0_5 g7, gP3_0 g7, gP3_1 g7, gP3_2 g7, gP3_3 g7, gP8_0 g7, gP8_1 g7, gP11_1 g7, gP11_2 g7, gP11_3 g7, gP11_4 g7, gP11_5 g7, gP11_6 g7, gP11_7 g7, gP11_8 g7, gP11_9 g7, gP11_10 g7, gP11_11 g7, gP11_12 g7, gP11_16 g7, gP11_17 g7, gP11_18 g7, gP12_0 g7, gP12_1 g7, gP12_2 g7, gP12_3 g7, gP12_4 g7, gP14_0 g7, gP14_1 g7, gP17_0 g7, gP17_1 g7, gP20_0 g7, gP20_1 g7, gP24_0 g7, gP24_1 g7, gP27_0 g7, gP27_1 g7, gP27_2 g7, gP27_3 g7, gP27_4 g7, gP27_5 g7, gP27_6 g7, gP27_7 g7, gP36_0 g7, gP36_1 g7, gP36_2 g7, gP36_3 g7, gP36_4 g7, gP36_5 g7, gP49_0 g7, gP49_1 g7, gP49_2 g7, gP49_3 g7, gP49_4 g7, gP49_5 g7, gP49_6 g7, gP49_7 g7, gP49_8 g7, gP49_9 g7, gP60_0 g7, gP60_1 g7, gP60_2 g7, gP60_3 g7, gP60_4 g7, gP60_5 g7, gP60_6 g7, gP60_7 g7, gP60_8 g7, gP60_9 g7, gP75_0 g7, gP75_1 g7, gP75_2 g7, gP79_0 g7, gP79_1 g7, gP79_2 g7, gP83_0 g7, gP83_1 g7, gP83_2 g7, gP83_3 g7, gP83_4 g7, gP85_0 g7, gP85_1 g7, gP88_0 g7, gP88_1 g7, gP91_0 g7, gP91_1 g7, iI_lt2, iI_le2, iI_eq2, iI_lt0, iI_0lt, iI_le0, iI_0le, iI_eq0, iI_eq1, iI_nat2, iI_add, iI_sub, iI_mul, Int.toNat_natCast, if_pos, if_neg, r1, fr, s50, s26, x3, tr, nb, mx, w8, p57, s45, p58, p59, l1, z45, z46, i12, iI_div, rem_nn, er, i10, p72, p73, z50, esub, p74, j12, ek, ← eh4, ← eh8]
  · unfold HsC
    rw [hR8 32 (by decide), hR8 33 (by decide)]
    exact l5
  · refine HiC.idm (r3.fr F18 (fun q hq => ?_) (by decide) ⟨by rw [F18.2.2.2.2.1 11 (by decide)], by rw [F18.2.2.2.2.1 11 (by decide)]⟩) (fun i hi p hp => ?_)
    · unfold svR at hq
      simp at hq
      rcases x2 with rfl | rfl <;> omega
    · refine l15 p ?_
      unfold pK at hp
      by_cases z : i = u - psh u
      · rw [if_pos z] at hp
        exact ok.2.2.1 p hp
      · rw [if_neg z] at hp
        have hps : psh u ≤ 1 := by unfold psh; split <;> omega
        have hlt : i + psh u < u := by
          unfold psh at hi z ⊢
          split at hi <;> rename_i y <;> simp only [y, if_true, if_false, reduceIte] at z ⊢ <;> omega
        obtain ⟨-, y2, y3⟩ := past (i + psh u) hlt
        have := y2.2.2.1 p hp
        have := y3.1
        omega
  · have U0 : ∀ j, j < (kU K).length → (kU R.1).getD j 0 = (kU K).getD j 0 := fun j hj => by
      obtain ⟨Au, ea⟩ := l17.2.2.2.2.2.2.2.2.1
      rw [eR, ea, List.getD_eq_getElem?_getD, List.getElem?_append_left hj, ← List.getD_eq_getElem?_getD]
    have V0 := X.2.2.2.2.2.2.2.1
    refine ⟨TD', TB', by rw [hR8 34 (by decide)]; exact l8, by rw [hR8 37 (by decide)]; exact l9, ?_, l12, ?_, fun i hi => ?_⟩
    · show TB'.length = (kU (savR nu ts F E K).1).length
      rw [← eR, uL]; exact l11
    · show TdOk TD' (cf ++ B) (savK nu ts F E K)
      rw [eR] at l10
      exact l10
    · show (kU (pK Ks K u i)).length ≤ (kU (savR nu ts F E K).1).length ∧ TdOk (untL (foU (PF ++ A) im (savR nu ts F E K).1) TB' (kU (pK Ks K u i)).length ((kU (savR nu ts F E K).1).length - (kU (pK Ks K u i)).length) TD') (cf ++ B) (pK Ks K u i)
      rw [← eR]
      unfold pK
      by_cases z : i = u - psh u
      · rw [if_pos z]
        exact ⟨by omega, tl_new V0 ok U0 uL l15 l13 l16 t5.1 hnd o2 (Nat.le_refl _) (fun _ _ => rfl) (Nat.le_refl _) (by rw [Nat.sub_self]; exact t5)⟩
      · rw [if_neg z]
        have hlt : i + psh u < u := by
          unfold psh at hi z ⊢
          split at hi <;> rename_i y <;> simp only [y, if_true, if_false, reduceIte] at z ⊢ <;> omega
        obtain ⟨y1, y2, y3⟩ := past (i + psh u) hlt
        obtain ⟨y4, y5⟩ := t6 (i + psh u) hlt
        exact ⟨by omega, tl_new V0 ok U0 uL l15 l13 l16 t5.1 hnd y1 y3.1 y3.2.2.2.1 y4 y5⟩
  · refine ⟨RA.set ((kK K).length % 64) (kD K), RB.set ((kK K).length % 64) ((E.length : Nat) : Int), RC.set ((kK K).length % 64) R.2, ?_, ?_, ?_, by rw [List.length_set]; exact rla, by rw [List.length_set]; exact rlb, by rw [List.length_set]; exact rlc, fun i hi hs => ?_⟩
    · have : hR h8 72 = hR h7 72 := by rw [eh8]; rfl
      rw [this, eh7, hR_sRu, u1_ne (by decide), eh6, hR_sRu, u1_ne (by decide), eh5, hR_sRu, u1_eq]
    · have : hR h8 73 = hR h7 73 := by rw [eh8]; rfl
      rw [this, eh7, hR_sRu, u1_ne (by decide), eh6, hR_sRu, u1_eq]
    · have : hR h8 74 = hR h7 74 := by rw [eh8]; rfl
      rw [this, eh7, hR_sRu, u1_eq]
    · have hi' : i < (kK (savR nu ts F E K).1 ++ [(kD K, (E.length : Int), (savR nu ts F E K).2)]).length := hi
      show _ = ((kK (savR nu ts F E K).1 ++ [(kD K, (E.length : Int), (savR nu ts F E K).2)]).getD i (0, 0, 0)).1 ∧ _ = ((kK (savR nu ts F E K).1 ++ [(kD K, (E.length : Int), (savR nu ts F E K).2)]).getD i (0, 0, 0)).2.1 ∧ _ = ((kK (savR nu ts F E K).1 ++ [(kD K, (E.length : Int), (savR nu ts F E K).2)]).getD i (0, 0, 0)).2.2
      rw [← eR, kkR] at hi' ⊢
      rw [List.length_append, List.length_singleton] at hi'
      rw [getD_set1 _ _ _ _ (by omega), getD_set1 _ _ _ _ (by omega), getD_set1 _ _ _ _ (by omega)]
      by_cases z : i < (kK K).length
      · have e1 : ¬ (kK K).length % 64 = i % 64 := by omega
        have eg : (kK K ++ [(kD K, (E.length : Int), R.2)]).getD i (0, 0, 0) = (kK K).getD i (0, 0, 0) := by rw [List.getD_eq_getElem?_getD, List.getElem?_append_left z, ← List.getD_eq_getElem?_getD]
        rw [if_neg e1, if_neg e1, if_neg e1, eg]
        exact rv i z hs
      · have e1 : i = (kK K).length := by omega
        have eg : (kK K ++ [(kD K, (E.length : Int), R.2)]).getD (kK K).length (0, 0, 0) = (kD K, (E.length : Int), R.2) := by rw [List.getD_eq_getElem?_getD, List.getElem?_append_right (Nat.le_refl _), Nat.sub_self]; rfl
        rw [e1, if_pos rfl, if_pos rfl, if_pos rfl, eg]
        exact ⟨rfl, rfl, rfl⟩
